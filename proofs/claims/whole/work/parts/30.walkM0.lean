section WALK
variable {mk : Nat → Int32} {mo : Nat → Int32} {mm : Nat → Int32} {mt : Nat → Int32} {mv : Nat → Int64} {mx : Nat → Int32} {mp : Nat → Int32} {mtd : Int32} {mf : Nat → Int32} {ms : Int32} {md : Nat → Int32} {mdd : Int32} {mn : Nat → Int64} {mst : Nat → Int64} {mpl : Nat → Int32} {mbb : Nat → Int32} {ma : Int32} {me : Int32} {mb : Int32} {mba : Int32} {mpg : Int32} {mdi : Int32} {mbl : Int32} {mby : Int32} {mw : Nat → Int32} {mz : Int32} {mso : Int32} {mbo : Int32} {mco : Int32} {mcd : Int32} {ml : Nat → Int32} {mr : Int32}
set_option maxRecDepth 200000 in
theorem c_X6_in (l : Launch) {E : GE} {rr : Int32} {v0 : Int64} {v2 : Int64} {v4 : Int64}  (h : p_X6_in v0 v2 v4 = some rr) : Met l yX6_in (.code yX6_in cX6_in 6 (some .boolean) :: gU) rm_X6_in (gP E (mws E mk mo mm mt mv mx mp mtd mf ms md mdd mn mst mpl mbb ma me mb mba mpg mdi mbl mby mw mz mso mbo mco mcd ml mr) [.long v0, .long v2, .long v4]) (gQ E (mws E mk mo mm mt mv mx mp mtd mf ms md mdd mn mst mpl mbb ma me mb mba mpg mdi mbl mby mw mz mso mbo mco mcd ml mr) (some (.int rr))) 0 0 E.2.2.1 := by
  refine met_of (y := yX6_in) (own := RX6) (lo := [some (.long v0), none, some (.long v2), none, some (.long v4), none]) (by decide) rfl rfl rfl (fun κ hl hC => ?_)
  subst hl
  unfold p_X6_in at h
  refine g_lload_n (pc' := 1) (i := 0) hC dX6_in_0 rfl rfl rfl ?_
  refine g_lload_n (pc' := 2) (i := 2) hC dX6_in_1 rfl rfl rfl ?_
  refine g_lcmp_lt (pc' := 6) (tgt := 17) hC dX6_in_2 dX6_in_3 rfl (by decide) rfl h (fun h => ?_) (fun h => ?_)
  · refine g_iconst (pc' := 18) (v := (nI 0)) hC dX6_in_17 (by decide) rfl ?_
    obtain rfl := inj1 h; exact g_zret hC (by decide) dX6_in_18
  · refine g_lload_n (pc' := 7) (i := 0) hC dX6_in_6 rfl rfl rfl ?_
    refine g_lload (pc' := 9) (i := 4) hC dX6_in_7 rfl rfl ?_
    refine g_lcmp_gt (pc' := 13) (tgt := 17) hC dX6_in_9 dX6_in_10 rfl (by decide) rfl h (fun h => ?_) (fun h => ?_)
    · refine g_iconst (pc' := 18) (v := (nI 0)) hC dX6_in_17 (by decide) rfl ?_
      obtain rfl := inj1 h; exact g_zret hC (by decide) dX6_in_18
    · refine g_iconst (pc' := 14) (v := (nI 1)) hC dX6_in_13 (by decide) rfl ?_
      refine g_goto (tgt := 18) hC dX6_in_14 (by decide) ?_
      obtain rfl := inj1 h; exact g_zret hC (by decide) dX6_in_18
set_option maxRecDepth 200000 in
theorem c_X6_isColumn (l : Launch) {E : GE} {rr : Int32} {v0 : Int32}  (h : p_X6_isColumn v0 = some rr) : Met l yX6_isColumn (.code yX6_isColumn cX6_isColumn 1 (some .boolean) :: gU) rm_X6_isColumn (gP E (mws E mk mo mm mt mv mx mp mtd mf ms md mdd mn mst mpl mbb ma me mb mba mpg mdi mbl mby mw mz mso mbo mco mcd ml mr) [.int v0]) (gQ E (mws E mk mo mm mt mv mx mp mtd mf ms md mdd mn mst mpl mbb ma me mb mba mpg mdi mbl mby mw mz mso mbo mco mcd ml mr) (some (.int rr))) 0 0 E.2.2.1 := by
  refine met_of (y := yX6_isColumn) (own := RX6) (lo := [some (.int v0)]) (by decide) rfl rfl rfl (fun κ hl hC => ?_)
  subst hl
  unfold p_X6_isColumn at h
  refine g_iload_n (pc' := 1) (i := 0) hC dX6_isColumn_0 rfl rfl rfl ?_
  refine g_i2l (pc' := 2) hC dX6_isColumn_1 rfl ?_
  refine g_lconst (pc' := 3) (v := (lN 0)) hC dX6_isColumn_2 (by decide) rfl ?_
  refine g_ldc2_w (pc' := 6) (v := (lN 3)) hC u_13 dX6_isColumn_3 rfl ?_
  obtain ⟨a_1, hc_2, h⟩ := bd1_some h
  refine g_callS (pc' := 9) hC (c_X6_in _ hc_2) ml_X6_62  (by decide) rfl rfl rfl dX6_isColumn_6 rfl ?_
  obtain ⟨g_3, h⟩ := gd_some h
  obtain rfl := inj1 h; exact g_zret hC g_3 dX6_isColumn_9
set_option maxRecDepth 200000 in
theorem c_X6_column (l : Launch) {E : GE} {rr : Int32} {mkz : Nat → Int32} {moz : Nat → Int32} {mmz : Nat → Int32} {v1 : Int32} {v2 : Int32} {v3 : Int32}  (h : p_X6_column v1 v2 v3 mk mo mm = some (rr, mkz, moz, mmz)) : Met l yX6_column (.code yX6_column cX6_column 5 (some .int) :: gU) rm_X6_column (gP E (mws E mk mo mm mt mv mx mp mtd mf ms md mdd mn mst mpl mbb ma me mb mba mpg mdi mbl mby mw mz mso mbo mco mcd ml mr) [.ref (ea E 0), .int v1, .int v2, .int v3]) (gQ E (mws E mkz moz mmz mt mv mx mp mtd mf ms md mdd mn mst mpl mbb ma me mb mba mpg mdi mbl mby mw mz mso mbo mco mcd ml mr) (some (.int rr))) 0 0 E.2.2.1 := by
  refine met_of (y := yX6_column) (own := RX6) (lo := [some (.ref (ea E 0)), some (.int v1), some (.int v2), some (.int v3), none]) (by decide) rfl rfl rfl (fun κ hl hC => ?_)
  subst hl
  unfold p_X6_column at h
  refine g_iload_n (pc' := 1) (i := 1) hC dX6_column_0 rfl rfl rfl ?_
  obtain ⟨a_1, hc_2, h⟩ := bd1_some h
  refine g_callS (pc' := 4) hC (c_X6_isColumn _ hc_2) ml_X6_66  (by decide) rfl rfl rfl dX6_column_1 rfl ?_
  refine g_if_eq (pc' := 7) (tgt := 19) hC dX6_column_4 (by decide) rfl h (fun h => ?_) (fun h => ?_)
  · refine g_iconst (pc' := 20) (v := (-1 : Int32)) hC dX6_column_19 (by decide) rfl ?_
    obtain ⟨rfl, rfl, rfl, rfl⟩ := inj4 h; exact g_iret hC dX6_column_20
  · refine g_iload_n (pc' := 8) (i := 2) hC dX6_column_7 rfl rfl rfl ?_
    refine g_i2l (pc' := 9) hC dX6_column_8 rfl ?_
    refine g_lconst (pc' := 10) (v := (lN 0)) hC dX6_column_9 (by decide) rfl ?_
    refine g_ldc2_w (pc' := 13) (v := (lN 3)) hC u_13 dX6_column_10 rfl ?_
    obtain ⟨a_3, hc_4, h⟩ := bd1_some h
    refine g_callS (pc' := 16) hC (c_X6_in _ hc_4) ml_X6_62  (by decide) rfl rfl rfl dX6_column_13 rfl ?_
    refine g_if_ne (pc' := 19) (tgt := 21) hC dX6_column_16 (by decide) rfl h (fun h => ?_) (fun h => ?_)
    · refine g_iconst (pc' := 20) (v := (-1 : Int32)) hC dX6_column_19 (by decide) rfl ?_
      obtain ⟨rfl, rfl, rfl, rfl⟩ := inj4 h; exact g_iret hC dX6_column_20
    · refine g_aload_n (pc' := 22) (i := 0) hC dX6_column_21 rfl rfl rfl ?_
      refine gf_X6_17 (pc' := 25) hC dX6_column_22 rfl ?_
      refine g_iload_n (pc' := 26) (i := 1) hC dX6_column_25 rfl rfl rfl ?_
      obtain ⟨g_5, h⟩ := gd_some h
      refine ld_mm (pc' := 27) hC g_5 dX6_column_26 rfl ?_
      refine g_istore (pc' := 29) (i := 4) (lo' := [some (.ref (ea E 0)), some (.int v1), some (.int v2), some (.int v3), some (.int (mm (ix v1)))]) hC dX6_column_27 rfl rfl rfl rfl ?_
      refine g_aload_n (pc' := 30) (i := 0) hC dX6_column_29 rfl rfl rfl ?_
      refine gf_X6_7 (pc' := 33) hC dX6_column_30 rfl ?_
      refine g_iload_n (pc' := 34) (i := 1) hC dX6_column_33 rfl rfl rfl ?_
      refine g_iload_n (pc' := 35) (i := 2) hC dX6_column_34 rfl rfl rfl ?_
      obtain ⟨g_6, h⟩ := gd_some h
      refine st_mk (pc' := 36) hC g_6 dX6_column_35 rfl ?_
      refine g_aload_n (pc' := 37) (i := 0) hC dX6_column_36 rfl rfl rfl ?_
      refine gf_X6_13 (pc' := 40) hC dX6_column_37 rfl ?_
      refine g_iload_n (pc' := 41) (i := 1) hC dX6_column_40 rfl rfl rfl ?_
      refine g_iload_n (pc' := 42) (i := 3) hC dX6_column_41 rfl rfl rfl ?_
      obtain ⟨g_7, h⟩ := gd_some h
      obtain ⟨g_8, h⟩ := gd_some h
      refine st_mo (pc' := 43) hC g_8 g_7 dX6_column_42 rfl ?_
      refine g_aload_n (pc' := 44) (i := 0) hC dX6_column_43 rfl rfl rfl ?_
      refine gf_X6_17 (pc' := 47) hC dX6_column_44 rfl ?_
      refine g_iload_n (pc' := 48) (i := 1) hC dX6_column_47 rfl rfl rfl ?_
      refine g_iconst (pc' := 49) (v := (nI 0)) hC dX6_column_48 (by decide) rfl ?_
      obtain ⟨g_9, h⟩ := gd_some h
      refine st_mm (pc' := 50) hC g_9 dX6_column_49 rfl ?_
      refine g_iload (pc' := 52) (i := 4) hC dX6_column_50 rfl rfl ?_
      obtain ⟨rfl, rfl, rfl, rfl⟩ := inj4 h; exact g_iret hC dX6_column_52
set_option maxRecDepth 200000 in
theorem w_X6_adds_L33 {κ : GK} {E : GE} {rr : Int32} {mmz : Nat → Int32} {mtz : Nat → Int32} {mvz : Nat → Int64} {mxz : Nat → Int32} {v1 : Int32} {v5 : Int32} {k60 : (Nat → Int32) → Option (Int32 × (Nat → Int32) × (Nat → Int32) × (Nat → Int64) × (Nat → Int32))} (hC : gC κ E cX6_adds RX6 (some .int) rm_X6_adds 7)  (hk60 : ∀ (mx : Nat → Int32), k60 mx = some (rr, mmz, mtz, mvz, mxz) → GG κ E (mws E mk mo mmz mtz mvz mxz mp mtd mf ms md mdd mn mst mpl mbb ma me mb mba mpg mdi mbl mby mw mz mso mbo mco mcd ml mr, some (.int rr)) (mws E mk mo mm mt mv mx mp mtd mf ms md mdd mn mst mpl mbb ma me mb mba mpg mdi mbl mby mw mz mso mbo mco mcd ml mr) 60 [some (.ref (ea E 0)), some (.int v1), none, none, none, none, none] []) : ∀ (n : Nat) (v6 : Int32) (mx : Nat → Int32), itr2 (p_X6_adds_L33 v5 k60) n v6 mx = some (rr, mmz, mtz, mvz, mxz) → GG κ E (mws E mk mo mmz mtz mvz mxz mp mtd mf ms md mdd mn mst mpl mbb ma me mb mba mpg mdi mbl mby mw mz mso mbo mco mcd ml mr, some (.int rr)) (mws E mk mo mm mt mv mx mp mtd mf ms md mdd mn mst mpl mbb ma me mb mba mpg mdi mbl mby mw mz mso mbo mco mcd ml mr) 33 [some (.ref (ea E 0)), some (.int v1), none, none, none, some (.int v5), some (.int v6)] [] :=
  itr2_ind (fun k33 hk33 v6 mx h => by
    unfold p_X6_adds_L33 at h
    refine g_iload (pc' := 35) (i := 6) hC dX6_adds_33 rfl rfl ?_
    refine g_bipush (pc' := 37) (v := (nI 40)) hC dX6_adds_35 (by decide) rfl ?_
    refine g_icmp_ge (pc' := 40) (tgt := 60) hC dX6_adds_37 (by decide) rfl h (fun h => ?_) (fun h => ?_)
    · refine g_aload_n (pc' := 41) (i := 0) hC dX6_adds_40 rfl rfl rfl ?_
      refine gf_X6_28 (pc' := 44) hC dX6_adds_41 rfl ?_
      refine g_bipush (pc' := 46) (v := (nI 40)) hC dX6_adds_44 (by decide) rfl ?_
      refine g_iload (pc' := 48) (i := 5) hC dX6_adds_46 rfl rfl ?_
      refine g_imul (pc' := 49) hC dX6_adds_48 rfl ?_
      refine g_iload (pc' := 51) (i := 6) hC dX6_adds_49 rfl rfl ?_
      refine g_iadd (pc' := 52) hC dX6_adds_51 rfl ?_
      refine g_iconst (pc' := 53) (v := (nI 0)) hC dX6_adds_52 (by decide) rfl ?_
      obtain ⟨g_5, h⟩ := gd_some h
      refine st_mx (pc' := 54) hC g_5 dX6_adds_53 rfl ?_
      refine g_iinc (pc' := 57) (i := 6) (x := v6) (k := (nI 1)) (lo' := [some (.ref (ea E 0)), some (.int v1), none, none, none, some (.int v5), some (.int (v6 + (nI 1)))]) hC dX6_adds_54 rfl (by decide) rfl rfl rfl rfl ?_
      refine g_goto (tgt := 33) hC dX6_adds_57 (by decide) ?_
      exact hk33 _ _ h
    · refine g_weak (lo' := [some (.ref (ea E 0)), some (.int v1), none, none, none, none, none]) rfl ?_
      exact hk60 _ h)
set_option maxRecDepth 200000 in
theorem c_X6_adds (l : Launch) {E : GE} {rr : Int32} {mmz : Nat → Int32} {mtz : Nat → Int32} {mvz : Nat → Int64} {mxz : Nat → Int32} {v1 : Int32} {v2 : Int32} {v3 : Int64}  (h : p_X6_adds v1 v2 v3 mm mt mv mx = some (rr, mmz, mtz, mvz, mxz)) : Met l yX6_adds (.code yX6_adds cX6_adds 7 (some .int) :: gU) rm_X6_adds (gP E (mws E mk mo mm mt mv mx mp mtd mf ms md mdd mn mst mpl mbb ma me mb mba mpg mdi mbl mby mw mz mso mbo mco mcd ml mr) [.ref (ea E 0), .int v1, .int v2, .long v3]) (gQ E (mws E mk mo mmz mtz mvz mxz mp mtd mf ms md mdd mn mst mpl mbb ma me mb mba mpg mdi mbl mby mw mz mso mbo mco mcd ml mr) (some (.int rr))) 0 0 E.2.2.1 := by
  refine met_of (y := yX6_adds) (own := RX6) (lo := [some (.ref (ea E 0)), some (.int v1), some (.int v2), some (.long v3), none, none, none]) (by decide) rfl rfl rfl (fun κ hl hC => ?_)
  subst hl
  unfold p_X6_adds at h
  refine g_sipush (pc' := 3) (v := (nI 200)) hC dX6_adds_0 (by decide) rfl ?_
  refine g_iload_n (pc' := 4) (i := 1) hC dX6_adds_3 rfl rfl rfl ?_
  refine g_imul (pc' := 5) hC dX6_adds_4 rfl ?_
  refine g_aload_n (pc' := 6) (i := 0) hC dX6_adds_5 rfl rfl rfl ?_
  refine gf_X6_17 (pc' := 9) hC dX6_adds_6 rfl ?_
  refine g_iload_n (pc' := 10) (i := 1) hC dX6_adds_9 rfl rfl rfl ?_
  obtain ⟨g_1, h⟩ := gd_some h
  refine ld_mm (pc' := 11) hC g_1 dX6_adds_10 rfl ?_
  refine g_iadd (pc' := 12) hC dX6_adds_11 rfl ?_
  refine g_istore (pc' := 14) (i := 5) (lo' := [some (.ref (ea E 0)), some (.int v1), some (.int v2), some (.long v3), none, some (.int (((nI 200) * v1) + (mm (ix v1)))), none]) hC dX6_adds_12 rfl rfl rfl rfl ?_
  refine g_aload_n (pc' := 15) (i := 0) hC dX6_adds_14 rfl rfl rfl ?_
  refine gf_X6_20 (pc' := 18) hC dX6_adds_15 rfl ?_
  refine g_iload (pc' := 20) (i := 5) hC dX6_adds_18 rfl rfl ?_
  refine g_iload_n (pc' := 21) (i := 2) hC dX6_adds_20 rfl rfl rfl ?_
  obtain ⟨g_2, h⟩ := gd_some h
  obtain ⟨g_3, h⟩ := gd_some h
  refine st_mt (pc' := 22) hC g_3 g_2 dX6_adds_21 rfl ?_
  refine g_aload_n (pc' := 23) (i := 0) hC dX6_adds_22 rfl rfl rfl ?_
  refine gf_X6_23 (pc' := 26) hC dX6_adds_23 rfl ?_
  refine g_iload (pc' := 28) (i := 5) hC dX6_adds_26 rfl rfl ?_
  refine g_lload_n (pc' := 29) (i := 3) hC dX6_adds_28 rfl rfl rfl ?_
  obtain ⟨g_4, h⟩ := gd_some h
  refine st_mv (pc' := 30) hC g_4 dX6_adds_29 rfl ?_
  refine g_iconst (pc' := 31) (v := (nI 0)) hC dX6_adds_30 (by decide) rfl ?_
  refine g_istore (pc' := 33) (i := 6) (lo' := [some (.ref (ea E 0)), some (.int v1), some (.int v2), some (.long v3), none, some (.int (((nI 200) * v1) + (mm (ix v1)))), some (.int (nI 0))]) hC dX6_adds_31 rfl rfl rfl rfl ?_
  refine g_weak (lo' := [some (.ref (ea E 0)), some (.int v1), none, none, none, some (.int (((nI 200) * v1) + (mm (ix v1)))), some (.int (nI 0))]) rfl ?_
  refine w_X6_adds_L33 hC  ?_ _ _ _ h
  · intro mx_6 h
    refine g_aload_n (pc' := 61) (i := 0) hC dX6_adds_60 rfl rfl rfl ?_
    refine gf_X6_17 (pc' := 64) hC dX6_adds_61 rfl ?_
    refine g_iload_n (pc' := 65) (i := 1) hC dX6_adds_64 rfl rfl rfl ?_
    refine g_dup2 (pc' := 66) hC dX6_adds_65 rfl rfl rfl ?_
    obtain ⟨g_7, h⟩ := gd_some h
    refine ld_mm (pc' := 67) hC g_7 dX6_adds_66 rfl ?_
    refine g_iconst (pc' := 68) (v := (nI 1)) hC dX6_adds_67 (by decide) rfl ?_
    refine g_iadd (pc' := 69) hC dX6_adds_68 rfl ?_
    obtain ⟨g_8, h⟩ := gd_some h
    refine st_mm (pc' := 70) hC g_8 dX6_adds_69 rfl ?_
    refine g_aload_n (pc' := 71) (i := 0) hC dX6_adds_70 rfl rfl rfl ?_
    refine gf_X6_17 (pc' := 74) hC dX6_adds_71 rfl ?_
    refine g_iload_n (pc' := 75) (i := 1) hC dX6_adds_74 rfl rfl rfl ?_
    obtain ⟨g_9, h⟩ := gd_some h
    refine ld_mm (pc' := 76) hC g_9 dX6_adds_75 rfl ?_
    refine g_iconst (pc' := 77) (v := (nI 1)) hC dX6_adds_76 (by decide) rfl ?_
    refine g_isub (pc' := 78) hC dX6_adds_77 rfl ?_
    obtain ⟨rfl, rfl, rfl, rfl, rfl⟩ := inj5 h; exact g_iret hC dX6_adds_78
set_option maxRecDepth 200000 in
theorem c_X6_add (l : Launch) {E : GE} {rr : Int32} {mmz : Nat → Int32} {mtz : Nat → Int32} {mvz : Nat → Int64} {mxz : Nat → Int32} {v1 : Int32} {v2 : Int64}  (h : p_X6_add v1 v2 mk mm mt mv mx = some (rr, mmz, mtz, mvz, mxz)) : Met l yX6_add (.code yX6_add cX6_add 4 (some .int) :: gU) rm_X6_add (gP E (mws E mk mo mm mt mv mx mp mtd mf ms md mdd mn mst mpl mbb ma me mb mba mpg mdi mbl mby mw mz mso mbo mco mcd ml mr) [.ref (ea E 0), .int v1, .long v2]) (gQ E (mws E mk mo mmz mtz mvz mxz mp mtd mf ms md mdd mn mst mpl mbb ma me mb mba mpg mdi mbl mby mw mz mso mbo mco mcd ml mr) (some (.int rr))) 0 0 E.2.2.1 := by
  refine met_of (y := yX6_add) (own := RX6) (lo := [some (.ref (ea E 0)), some (.int v1), some (.long v2), none]) (by decide) rfl rfl rfl (fun κ hl hC => ?_)
  subst hl
  unfold p_X6_add at h
  refine g_iload_n (pc' := 1) (i := 1) hC dX6_add_0 rfl rfl rfl ?_
  obtain ⟨a_1, hc_2, h⟩ := bd1_some h
  refine g_callS (pc' := 4) hC (c_X6_isColumn _ hc_2) ml_X6_66  (by decide) rfl rfl rfl dX6_add_1 rfl ?_
  refine g_if_ne (pc' := 7) (tgt := 9) hC dX6_add_4 (by decide) rfl h (fun h => ?_) (fun h => ?_)
  · refine g_iconst (pc' := 8) (v := (-1 : Int32)) hC dX6_add_7 (by decide) rfl ?_
    obtain ⟨rfl, rfl, rfl, rfl, rfl⟩ := inj5 h; exact g_iret hC dX6_add_8
  · refine g_aload_n (pc' := 10) (i := 0) hC dX6_add_9 rfl rfl rfl ?_
    refine gf_X6_7 (pc' := 13) hC dX6_add_10 rfl ?_
    refine g_iload_n (pc' := 14) (i := 1) hC dX6_add_13 rfl rfl rfl ?_
    obtain ⟨g_3, h⟩ := gd_some h
    refine ld_mk (pc' := 15) hC g_3 dX6_add_14 rfl ?_
    refine g_iconst (pc' := 16) (v := (nI 2)) hC dX6_add_15 (by decide) rfl ?_
    refine g_icmp_ne (pc' := 19) (tgt := 22) hC dX6_add_16 (by decide) rfl h (fun h => ?_) (fun h => ?_)
    · refine g_bipush (pc' := 21) (v := (-2 : Int32)) hC dX6_add_19 (by decide) rfl ?_
      obtain ⟨rfl, rfl, rfl, rfl, rfl⟩ := inj5 h; exact g_iret hC dX6_add_21
    · refine g_aload_n (pc' := 23) (i := 0) hC dX6_add_22 rfl rfl rfl ?_
      refine gf_X6_17 (pc' := 26) hC dX6_add_23 rfl ?_
      refine g_iload_n (pc' := 27) (i := 1) hC dX6_add_26 rfl rfl rfl ?_
      obtain ⟨g_4, h⟩ := gd_some h
      refine ld_mm (pc' := 28) hC g_4 dX6_add_27 rfl ?_
      refine g_sipush (pc' := 31) (v := (nI 200)) hC dX6_add_28 (by decide) rfl ?_
      refine g_icmp_ne (pc' := 34) (tgt := 37) hC dX6_add_31 (by decide) rfl h (fun h => ?_) (fun h => ?_)
      · refine g_bipush (pc' := 36) (v := (-3 : Int32)) hC dX6_add_34 (by decide) rfl ?_
        obtain ⟨rfl, rfl, rfl, rfl, rfl⟩ := inj5 h; exact g_iret hC dX6_add_36
      · refine g_aload_n (pc' := 38) (i := 0) hC dX6_add_37 rfl rfl rfl ?_
        refine g_iload_n (pc' := 39) (i := 1) hC dX6_add_38 rfl rfl rfl ?_
        refine g_iconst (pc' := 40) (v := (nI 1)) hC dX6_add_39 (by decide) rfl ?_
        refine g_aload_n (pc' := 41) (i := 0) hC dX6_add_40 rfl rfl rfl ?_
        refine gf_X6_7 (pc' := 44) hC dX6_add_41 rfl ?_
        refine g_iload_n (pc' := 45) (i := 1) hC dX6_add_44 rfl rfl rfl ?_
        obtain ⟨g_5, h⟩ := gd_some h
        refine ld_mk (pc' := 46) hC g_5 dX6_add_45 rfl ?_
        refine g_if_ne (pc' := 49) (tgt := 55) hC dX6_add_46 (by decide) rfl h (fun h => ?_) (fun h => ?_)
        · refine g_lload_n (pc' := 50) (i := 2) hC dX6_add_49 rfl rfl rfl ?_
          refine g_l2i (pc' := 51) hC dX6_add_50 rfl ?_
          refine g_i2l (pc' := 52) hC dX6_add_51 rfl ?_
          refine g_goto (tgt := 80) hC dX6_add_52 (by decide) ?_
          obtain ⟨a_6, mm_7, mt_8, mv_9, mx_10, hc_11, h⟩ := bd5_some h
          refine g_callV (pc' := 83) hC (c_X6_adds _ hc_11) ml_X6_70 (rc_M) (by decide) rfl rfl rfl rfl dX6_add_80 rfl ?_
          obtain ⟨rfl, rfl, rfl, rfl, rfl⟩ := inj5 h; exact g_iret hC dX6_add_83
        · refine g_aload_n (pc' := 56) (i := 0) hC dX6_add_55 rfl rfl rfl ?_
          refine gf_X6_7 (pc' := 59) hC dX6_add_56 rfl ?_
          refine g_iload_n (pc' := 60) (i := 1) hC dX6_add_59 rfl rfl rfl ?_
          obtain ⟨g_12, h⟩ := gd_some h
          refine ld_mk (pc' := 61) hC g_12 dX6_add_60 rfl ?_
          refine g_iconst (pc' := 62) (v := (nI 3)) hC dX6_add_61 (by decide) rfl ?_
          refine g_icmp_ne (pc' := 65) (tgt := 79) hC dX6_add_62 (by decide) rfl h (fun h => ?_) (fun h => ?_)
          · refine g_lload_n (pc' := 66) (i := 2) hC dX6_add_65 rfl rfl rfl ?_
            refine g_lconst (pc' := 67) (v := (lN 0)) hC dX6_add_66 (by decide) rfl ?_
            refine g_lcmp_eq (pc' := 71) (tgt := 75) hC dX6_add_67 dX6_add_68 rfl (by decide) rfl h (fun h => ?_) (fun h => ?_)
            · refine g_lconst (pc' := 76) (v := (lN 0)) hC dX6_add_75 (by decide) rfl ?_
              refine g_goto (tgt := 80) hC dX6_add_76 (by decide) ?_
              obtain ⟨a_13, mm_14, mt_15, mv_16, mx_17, hc_18, h⟩ := bd5_some h
              refine g_callV (pc' := 83) hC (c_X6_adds _ hc_18) ml_X6_70 (rc_M) (by decide) rfl rfl rfl rfl dX6_add_80 rfl ?_
              obtain ⟨rfl, rfl, rfl, rfl, rfl⟩ := inj5 h; exact g_iret hC dX6_add_83
            · refine g_lconst (pc' := 72) (v := (lN 1)) hC dX6_add_71 (by decide) rfl ?_
              refine g_goto (tgt := 80) hC dX6_add_72 (by decide) ?_
              obtain ⟨a_19, mm_20, mt_21, mv_22, mx_23, hc_24, h⟩ := bd5_some h
              refine g_callV (pc' := 83) hC (c_X6_adds _ hc_24) ml_X6_70 (rc_M) (by decide) rfl rfl rfl rfl dX6_add_80 rfl ?_
              obtain ⟨rfl, rfl, rfl, rfl, rfl⟩ := inj5 h; exact g_iret hC dX6_add_83
          · refine g_lload_n (pc' := 80) (i := 2) hC dX6_add_79 rfl rfl rfl ?_
            obtain ⟨a_25, mm_26, mt_27, mv_28, mx_29, hc_30, h⟩ := bd5_some h
            refine g_callV (pc' := 83) hC (c_X6_adds _ hc_30) ml_X6_70 (rc_M) (by decide) rfl rfl rfl rfl dX6_add_80 rfl ?_
            obtain ⟨rfl, rfl, rfl, rfl, rfl⟩ := inj5 h; exact g_iret hC dX6_add_83
set_option maxRecDepth 200000 in
theorem w_X6_type_L33 {κ : GK} {E : GE} {rr : Int32} {mpz : Nat → Int32} {mtdz : Int32} {v1 : Int64}  (hC : gC κ E cX6_type RX6 (some .int) rm_X6_type 5)   : ∀ (n : Nat) (v4 : Int32) (mp : Nat → Int32) (mtd : Int32), itr3 (p_X6_type_L33 v1) n v4 mp mtd = some (rr, mpz, mtdz) → GG κ E (mws E mk mo mm mt mv mx mpz mtdz mf ms md mdd mn mst mpl mbb ma me mb mba mpg mdi mbl mby mw mz mso mbo mco mcd ml mr, some (.int rr)) (mws E mk mo mm mt mv mx mp mtd mf ms md mdd mn mst mpl mbb ma me mb mba mpg mdi mbl mby mw mz mso mbo mco mcd ml mr) 33 [some (.ref (ea E 0)), some (.long v1), none, none, some (.int v4)] [] :=
  itr3_ind (fun k33 hk33 v4 mp mtd h => by
    unfold p_X6_type_L33 at h
    refine g_iload (pc' := 35) (i := 4) hC dX6_type_33 rfl rfl ?_
    refine g_if_lt (pc' := 38) (tgt := 72) hC dX6_type_35 (by decide) rfl h (fun h => ?_) (fun h => ?_)
    · refine g_aload_n (pc' := 73) (i := 0) hC dX6_type_72 rfl rfl rfl ?_
      refine gf_X6_76 (pc' := 76) hC dX6_type_73 rfl ?_
      obtain ⟨rfl, rfl, rfl⟩ := inj3 h; exact g_iret hC dX6_type_76
    · refine g_aload_n (pc' := 39) (i := 0) hC dX6_type_38 rfl rfl rfl ?_
      refine gf_X6_32 (pc' := 42) hC dX6_type_39 rfl ?_
      refine g_aload_n (pc' := 43) (i := 0) hC dX6_type_42 rfl rfl rfl ?_
      refine gf_X6_76 (pc' := 46) hC dX6_type_43 rfl ?_
      refine g_lload_n (pc' := 47) (i := 1) hC dX6_type_46 rfl rfl rfl ?_
      refine g_bipush (pc' := 49) (v := (nI 8)) hC dX6_type_47 (by decide) rfl ?_
      refine g_iload (pc' := 51) (i := 4) hC dX6_type_49 rfl rfl ?_
      refine g_imul (pc' := 52) hC dX6_type_51 rfl ?_
      refine g_lshr (pc' := 53) hC dX6_type_52 rfl ?_
      refine g_l2i (pc' := 54) hC dX6_type_53 rfl ?_
      refine g_i2b (pc' := 55) hC dX6_type_54 rfl ?_
      obtain ⟨g_3, h⟩ := gd_some h
      refine st_mpb (pc' := 56) hC g_3 dX6_type_55 rfl ?_
      refine g_aload_n (pc' := 57) (i := 0) hC dX6_type_56 rfl rfl rfl ?_
      refine g_dup (pc' := 58) hC dX6_type_57 rfl rfl ?_
      refine gf_X6_76 (pc' := 61) hC dX6_type_58 rfl ?_
      refine g_iconst (pc' := 62) (v := (nI 1)) hC dX6_type_61 (by decide) rfl ?_
      refine g_iadd (pc' := 63) hC dX6_type_62 rfl ?_
      refine pf_X6_76 (pc' := 66) hC dX6_type_63 rfl ?_
      refine g_iinc (pc' := 69) (i := 4) (x := v4) (k := (-1 : Int32)) (lo' := [some (.ref (ea E 0)), some (.long v1), none, none, some (.int (v4 + (-1 : Int32)))]) hC dX6_type_66 rfl (by decide) rfl rfl rfl rfl ?_
      refine g_goto (tgt := 33) hC dX6_type_69 (by decide) ?_
      exact hk33 _ _ _ h)
set_option maxRecDepth 200000 in
theorem c_X6_type (l : Launch) {E : GE} {rr : Int32} {mpz : Nat → Int32} {mtdz : Int32} {v1 : Int64} {v3 : Int32}  (h : p_X6_type v1 v3 mp mtd = some (rr, mpz, mtdz)) : Met l yX6_type (.code yX6_type cX6_type 5 (some .int) :: gU) rm_X6_type (gP E (mws E mk mo mm mt mv mx mp mtd mf ms md mdd mn mst mpl mbb ma me mb mba mpg mdi mbl mby mw mz mso mbo mco mcd ml mr) [.ref (ea E 0), .long v1, .int v3]) (gQ E (mws E mk mo mm mt mv mx mpz mtdz mf ms md mdd mn mst mpl mbb ma me mb mba mpg mdi mbl mby mw mz mso mbo mco mcd ml mr) (some (.int rr))) 0 0 E.2.2.1 := by
  refine met_of (y := yX6_type) (own := RX6) (lo := [some (.ref (ea E 0)), some (.long v1), none, some (.int v3), none]) (by decide) rfl rfl rfl (fun κ hl hC => ?_)
  subst hl
  unfold p_X6_type at h
  refine g_iload_n (pc' := 1) (i := 3) hC dX6_type_0 rfl rfl rfl ?_
  refine g_i2l (pc' := 2) hC dX6_type_1 rfl ?_
  refine g_lconst (pc' := 3) (v := (lN 1)) hC dX6_type_2 (by decide) rfl ?_
  refine g_ldc2_w (pc' := 6) (v := (lN 8)) hC u_14 dX6_type_3 rfl ?_
  obtain ⟨a_1, hc_2, h⟩ := bd1_some h
  refine g_callS (pc' := 9) hC (c_X6_in _ hc_2) ml_X6_62  (by decide) rfl rfl rfl dX6_type_6 rfl ?_
  refine g_if_ne (pc' := 12) (tgt := 14) hC dX6_type_9 (by decide) rfl h (fun h => ?_) (fun h => ?_)
  · refine g_iconst (pc' := 13) (v := (-1 : Int32)) hC dX6_type_12 (by decide) rfl ?_
    obtain ⟨rfl, rfl, rfl⟩ := inj3 h; exact g_iret hC dX6_type_13
  · refine g_aload_n (pc' := 15) (i := 0) hC dX6_type_14 rfl rfl rfl ?_
    refine gf_X6_76 (pc' := 18) hC dX6_type_15 rfl ?_
    refine g_iload_n (pc' := 19) (i := 3) hC dX6_type_18 rfl rfl rfl ?_
    refine g_iadd (pc' := 20) hC dX6_type_19 rfl ?_
    refine g_bipush (pc' := 22) (v := (nI 40)) hC dX6_type_20 (by decide) rfl ?_
    refine g_icmp_le (pc' := 25) (tgt := 28) hC dX6_type_22 (by decide) rfl h (fun h => ?_) (fun h => ?_)
    · refine g_bipush (pc' := 27) (v := (-3 : Int32)) hC dX6_type_25 (by decide) rfl ?_
      obtain ⟨rfl, rfl, rfl⟩ := inj3 h; exact g_iret hC dX6_type_27
    · refine g_iload_n (pc' := 29) (i := 3) hC dX6_type_28 rfl rfl rfl ?_
      refine g_iconst (pc' := 30) (v := (nI 1)) hC dX6_type_29 (by decide) rfl ?_
      refine g_isub (pc' := 31) hC dX6_type_30 rfl ?_
      refine g_istore (pc' := 33) (i := 4) (lo' := [some (.ref (ea E 0)), some (.long v1), none, some (.int v3), some (.int (v3 - (nI 1)))]) hC dX6_type_31 rfl rfl rfl rfl ?_
      refine g_weak (lo' := [some (.ref (ea E 0)), some (.long v1), none, none, some (.int (v3 - (nI 1)))]) rfl ?_
      refine w_X6_type_L33 hC   _ _ _ _ h
set_option maxRecDepth 200000 in
theorem w_X6_addText_L51 {κ : GK} {E : GE} {rr : Int32} {mmz : Nat → Int32} {mtz : Nat → Int32} {mvz : Nat → Int64} {mxz : Nat → Int32} {mtdz : Int32} {v1 : Int32} {v2 : Int32}  (hC : gC κ E cX6_addText RX6 (some .int) rm_X6_addText 4)   : ∀ (n : Nat) (v3 : Int32) (mx : Nat → Int32), itr2 (p_X6_addText_L51 v1 v2 mm mt mv mp mtd) n v3 mx = some (rr, mmz, mtz, mvz, mxz, mtdz) → GG κ E (mws E mk mo mmz mtz mvz mxz mp mtdz mf ms md mdd mn mst mpl mbb ma me mb mba mpg mdi mbl mby mw mz mso mbo mco mcd ml mr, some (.int rr)) (mws E mk mo mm mt mv mx mp mtd mf ms md mdd mn mst mpl mbb ma me mb mba mpg mdi mbl mby mw mz mso mbo mco mcd ml mr) 51 [some (.ref (ea E 0)), some (.int v1), some (.int v2), some (.int v3)] [] :=
  itr2_ind (fun k51 hk51 v3 mx h => by
    unfold p_X6_addText_L51 at h
    refine g_iload_n (pc' := 52) (i := 3) hC dX6_addText_51 rfl rfl rfl ?_
    refine g_aload_n (pc' := 53) (i := 0) hC dX6_addText_52 rfl rfl rfl ?_
    refine gf_X6_76 (pc' := 56) hC dX6_addText_53 rfl ?_
    refine g_icmp_ge (pc' := 59) (tgt := 88) hC dX6_addText_56 (by decide) rfl h (fun h => ?_) (fun h => ?_)
    · refine g_aload_n (pc' := 60) (i := 0) hC dX6_addText_59 rfl rfl rfl ?_
      refine gf_X6_28 (pc' := 63) hC dX6_addText_60 rfl ?_
      refine g_bipush (pc' := 65) (v := (nI 40)) hC dX6_addText_63 (by decide) rfl ?_
      refine g_sipush (pc' := 68) (v := (nI 200)) hC dX6_addText_65 (by decide) rfl ?_
      refine g_iload_n (pc' := 69) (i := 1) hC dX6_addText_68 rfl rfl rfl ?_
      refine g_imul (pc' := 70) hC dX6_addText_69 rfl ?_
      refine g_iload_n (pc' := 71) (i := 2) hC dX6_addText_70 rfl rfl rfl ?_
      refine g_iadd (pc' := 72) hC dX6_addText_71 rfl ?_
      refine g_imul (pc' := 73) hC dX6_addText_72 rfl ?_
      refine g_iload_n (pc' := 74) (i := 3) hC dX6_addText_73 rfl rfl rfl ?_
      refine g_iadd (pc' := 75) hC dX6_addText_74 rfl ?_
      refine g_aload_n (pc' := 76) (i := 0) hC dX6_addText_75 rfl rfl rfl ?_
      refine gf_X6_32 (pc' := 79) hC dX6_addText_76 rfl ?_
      refine g_iload_n (pc' := 80) (i := 3) hC dX6_addText_79 rfl rfl rfl ?_
      obtain ⟨g_11, h⟩ := gd_some h
      refine ld_mp (pc' := 81) hC g_11 dX6_addText_80 rfl ?_
      obtain ⟨g_12, h⟩ := gd_some h
      refine st_mx (pc' := 82) hC g_12 dX6_addText_81 rfl ?_
      refine g_iinc (pc' := 85) (i := 3) (x := v3) (k := (nI 1)) (lo' := [some (.ref (ea E 0)), some (.int v1), some (.int v2), some (.int (v3 + (nI 1)))]) hC dX6_addText_82 rfl (by decide) rfl rfl rfl rfl ?_
      refine g_goto (tgt := 51) hC dX6_addText_85 (by decide) ?_
      exact hk51 _ _ h
    · refine g_aload_n (pc' := 89) (i := 0) hC dX6_addText_88 rfl rfl rfl ?_
      refine g_iconst (pc' := 90) (v := (nI 0)) hC dX6_addText_89 (by decide) rfl ?_
      refine pf_X6_76 (pc' := 93) hC dX6_addText_90 rfl ?_
      refine g_iload_n (pc' := 94) (i := 2) hC dX6_addText_93 rfl rfl rfl ?_
      obtain ⟨rfl, rfl, rfl, rfl, rfl, rfl⟩ := inj6 h; exact g_iret hC dX6_addText_94)
set_option maxRecDepth 200000 in
theorem c_X6_addText (l : Launch) {E : GE} {rr : Int32} {mmz : Nat → Int32} {mtz : Nat → Int32} {mvz : Nat → Int64} {mxz : Nat → Int32} {mtdz : Int32} {v1 : Int32}  (h : p_X6_addText v1 mk mm mt mv mx mp mtd = some (rr, mmz, mtz, mvz, mxz, mtdz)) : Met l yX6_addText (.code yX6_addText cX6_addText 4 (some .int) :: gU) rm_X6_addText (gP E (mws E mk mo mm mt mv mx mp mtd mf ms md mdd mn mst mpl mbb ma me mb mba mpg mdi mbl mby mw mz mso mbo mco mcd ml mr) [.ref (ea E 0), .int v1]) (gQ E (mws E mk mo mmz mtz mvz mxz mp mtdz mf ms md mdd mn mst mpl mbb ma me mb mba mpg mdi mbl mby mw mz mso mbo mco mcd ml mr) (some (.int rr))) 0 0 E.2.2.1 := by
  refine met_of (y := yX6_addText) (own := RX6) (lo := [some (.ref (ea E 0)), some (.int v1), none, none]) (by decide) rfl rfl rfl (fun κ hl hC => ?_)
  subst hl
  unfold p_X6_addText at h
  refine g_iload_n (pc' := 1) (i := 1) hC dX6_addText_0 rfl rfl rfl ?_
  obtain ⟨a_1, hc_2, h⟩ := bd1_some h
  refine g_callS (pc' := 4) hC (c_X6_isColumn _ hc_2) ml_X6_66  (by decide) rfl rfl rfl dX6_addText_1 rfl ?_
  refine g_if_ne (pc' := 7) (tgt := 9) hC dX6_addText_4 (by decide) rfl h (fun h => ?_) (fun h => ?_)
  · refine g_iconst (pc' := 8) (v := (-1 : Int32)) hC dX6_addText_7 (by decide) rfl ?_
    obtain ⟨rfl, rfl, rfl, rfl, rfl, rfl⟩ := inj6 h; exact g_iret hC dX6_addText_8
  · refine g_aload_n (pc' := 10) (i := 0) hC dX6_addText_9 rfl rfl rfl ?_
    refine gf_X6_7 (pc' := 13) hC dX6_addText_10 rfl ?_
    refine g_iload_n (pc' := 14) (i := 1) hC dX6_addText_13 rfl rfl rfl ?_
    obtain ⟨g_3, h⟩ := gd_some h
    refine ld_mk (pc' := 15) hC g_3 dX6_addText_14 rfl ?_
    refine g_iconst (pc' := 16) (v := (nI 2)) hC dX6_addText_15 (by decide) rfl ?_
    refine g_icmp_eq (pc' := 19) (tgt := 22) hC dX6_addText_16 (by decide) rfl h (fun h => ?_) (fun h => ?_)
    · refine g_aload_n (pc' := 23) (i := 0) hC dX6_addText_22 rfl rfl rfl ?_
      refine gf_X6_17 (pc' := 26) hC dX6_addText_23 rfl ?_
      refine g_iload_n (pc' := 27) (i := 1) hC dX6_addText_26 rfl rfl rfl ?_
      obtain ⟨g_4, h⟩ := gd_some h
      refine ld_mm (pc' := 28) hC g_4 dX6_addText_27 rfl ?_
      refine g_sipush (pc' := 31) (v := (nI 200)) hC dX6_addText_28 (by decide) rfl ?_
      refine g_icmp_ne (pc' := 34) (tgt := 37) hC dX6_addText_31 (by decide) rfl h (fun h => ?_) (fun h => ?_)
      · refine g_bipush (pc' := 36) (v := (-3 : Int32)) hC dX6_addText_34 (by decide) rfl ?_
        obtain ⟨rfl, rfl, rfl, rfl, rfl, rfl⟩ := inj6 h; exact g_iret hC dX6_addText_36
      · refine g_aload_n (pc' := 38) (i := 0) hC dX6_addText_37 rfl rfl rfl ?_
        refine g_iload_n (pc' := 39) (i := 1) hC dX6_addText_38 rfl rfl rfl ?_
        refine g_iconst (pc' := 40) (v := (nI 1)) hC dX6_addText_39 (by decide) rfl ?_
        refine g_aload_n (pc' := 41) (i := 0) hC dX6_addText_40 rfl rfl rfl ?_
        refine gf_X6_76 (pc' := 44) hC dX6_addText_41 rfl ?_
        refine g_i2l (pc' := 45) hC dX6_addText_44 rfl ?_
        obtain ⟨a_5, mm_6, mt_7, mv_8, mx_9, hc_10, h⟩ := bd5_some h
        refine g_callV (pc' := 48) hC (c_X6_adds _ hc_10) ml_X6_70 (rc_M) (by decide) rfl rfl rfl rfl dX6_addText_45 rfl ?_
        refine g_istore_n (pc' := 49) (i := 2) (lo' := [some (.ref (ea E 0)), some (.int v1), some (.int a_5), none]) hC dX6_addText_48 rfl rfl rfl rfl rfl ?_
        refine g_iconst (pc' := 50) (v := (nI 0)) hC dX6_addText_49 (by decide) rfl ?_
        refine g_istore_n (pc' := 51) (i := 3) (lo' := [some (.ref (ea E 0)), some (.int v1), some (.int a_5), some (.int (nI 0))]) hC dX6_addText_50 rfl rfl rfl rfl rfl ?_
        refine w_X6_addText_L51 hC   _ _ _ h
    · refine g_bipush (pc' := 21) (v := (-2 : Int32)) hC dX6_addText_19 (by decide) rfl ?_
      obtain ⟨rfl, rfl, rfl, rfl, rfl, rfl⟩ := inj6 h; exact g_iret hC dX6_addText_21
set_option maxRecDepth 200000 in
theorem c_X6_addNone (l : Launch) {E : GE} {rr : Int32} {mmz : Nat → Int32} {mtz : Nat → Int32} {mvz : Nat → Int64} {mxz : Nat → Int32} {v1 : Int32}  (h : p_X6_addNone v1 mo mm mt mv mx = some (rr, mmz, mtz, mvz, mxz)) : Met l yX6_addNone (.code yX6_addNone cX6_addNone 2 (some .int) :: gU) rm_X6_addNone (gP E (mws E mk mo mm mt mv mx mp mtd mf ms md mdd mn mst mpl mbb ma me mb mba mpg mdi mbl mby mw mz mso mbo mco mcd ml mr) [.ref (ea E 0), .int v1]) (gQ E (mws E mk mo mmz mtz mvz mxz mp mtd mf ms md mdd mn mst mpl mbb ma me mb mba mpg mdi mbl mby mw mz mso mbo mco mcd ml mr) (some (.int rr))) 0 0 E.2.2.1 := by
  refine met_of (y := yX6_addNone) (own := RX6) (lo := [some (.ref (ea E 0)), some (.int v1)]) (by decide) rfl rfl rfl (fun κ hl hC => ?_)
  subst hl
  unfold p_X6_addNone at h
  refine g_iload_n (pc' := 1) (i := 1) hC dX6_addNone_0 rfl rfl rfl ?_
  obtain ⟨a_1, hc_2, h⟩ := bd1_some h
  refine g_callS (pc' := 4) hC (c_X6_isColumn _ hc_2) ml_X6_66  (by decide) rfl rfl rfl dX6_addNone_1 rfl ?_
  refine g_if_ne (pc' := 7) (tgt := 9) hC dX6_addNone_4 (by decide) rfl h (fun h => ?_) (fun h => ?_)
  · refine g_iconst (pc' := 8) (v := (-1 : Int32)) hC dX6_addNone_7 (by decide) rfl ?_
    obtain ⟨rfl, rfl, rfl, rfl, rfl⟩ := inj5 h; exact g_iret hC dX6_addNone_8
  · refine g_aload_n (pc' := 10) (i := 0) hC dX6_addNone_9 rfl rfl rfl ?_
    refine gf_X6_13 (pc' := 13) hC dX6_addNone_10 rfl ?_
    refine g_iload_n (pc' := 14) (i := 1) hC dX6_addNone_13 rfl rfl rfl ?_
    obtain ⟨g_3, h⟩ := gd_some h
    refine ld_mo (pc' := 15) hC g_3 dX6_addNone_14 rfl ?_
    refine g_if_ne (pc' := 18) (tgt := 21) hC dX6_addNone_15 (by decide) rfl h (fun h => ?_) (fun h => ?_)
    · refine g_bipush (pc' := 20) (v := (-2 : Int32)) hC dX6_addNone_18 (by decide) rfl ?_
      obtain ⟨rfl, rfl, rfl, rfl, rfl⟩ := inj5 h; exact g_iret hC dX6_addNone_20
    · refine g_aload_n (pc' := 22) (i := 0) hC dX6_addNone_21 rfl rfl rfl ?_
      refine gf_X6_17 (pc' := 25) hC dX6_addNone_22 rfl ?_
      refine g_iload_n (pc' := 26) (i := 1) hC dX6_addNone_25 rfl rfl rfl ?_
      obtain ⟨g_4, h⟩ := gd_some h
      refine ld_mm (pc' := 27) hC g_4 dX6_addNone_26 rfl ?_
      refine g_sipush (pc' := 30) (v := (nI 200)) hC dX6_addNone_27 (by decide) rfl ?_
      refine g_icmp_ne (pc' := 33) (tgt := 38) hC dX6_addNone_30 (by decide) rfl h (fun h => ?_) (fun h => ?_)
      · refine g_bipush (pc' := 35) (v := (-3 : Int32)) hC dX6_addNone_33 (by decide) rfl ?_
        refine g_goto (tgt := 45) hC dX6_addNone_35 (by decide) ?_
        obtain ⟨rfl, rfl, rfl, rfl, rfl⟩ := inj5 h; exact g_iret hC dX6_addNone_45
      · refine g_aload_n (pc' := 39) (i := 0) hC dX6_addNone_38 rfl rfl rfl ?_
        refine g_iload_n (pc' := 40) (i := 1) hC dX6_addNone_39 rfl rfl rfl ?_
        refine g_iconst (pc' := 41) (v := (nI 0)) hC dX6_addNone_40 (by decide) rfl ?_
        refine g_lconst (pc' := 42) (v := (lN 0)) hC dX6_addNone_41 (by decide) rfl ?_
        obtain ⟨a_5, mm_6, mt_7, mv_8, mx_9, hc_10, h⟩ := bd5_some h
        refine g_callV (pc' := 45) hC (c_X6_adds _ hc_10) ml_X6_70 (rc_M) (by decide) rfl rfl rfl rfl dX6_addNone_42 rfl ?_
        obtain ⟨rfl, rfl, rfl, rfl, rfl⟩ := inj5 h; exact g_iret hC dX6_addNone_45
set_option maxRecDepth 200000 in
theorem w_X6_copies_L26 {κ : GK} {E : GE} {mtz : Nat → Int32} {mvz : Nat → Int64} {mxz : Nat → Int32} {v1 : Int32} {v2 : Int32}  (hC : gC κ E cX6_copies RX6 none rm_X6_copies 4)   : ∀ (n : Nat) (v3 : Int32) (mx : Nat → Int32), itr2 (p_X6_copies_L26 v1 v2 mt mv) n v3 mx = some (mtz, mvz, mxz) → GG κ E (mws E mk mo mm mtz mvz mxz mp mtd mf ms md mdd mn mst mpl mbb ma me mb mba mpg mdi mbl mby mw mz mso mbo mco mcd ml mr, none) (mws E mk mo mm mt mv mx mp mtd mf ms md mdd mn mst mpl mbb ma me mb mba mpg mdi mbl mby mw mz mso mbo mco mcd ml mr) 26 [some (.ref (ea E 0)), some (.int v1), some (.int v2), some (.int v3)] [] :=
  itr2_ind (fun k26 hk26 v3 mx h => by
    unfold p_X6_copies_L26 at h
    refine g_iload_n (pc' := 27) (i := 3) hC dX6_copies_26 rfl rfl rfl ?_
    refine g_bipush (pc' := 29) (v := (nI 40)) hC dX6_copies_27 (by decide) rfl ?_
    refine g_icmp_ge (pc' := 32) (tgt := 60) hC dX6_copies_29 (by decide) rfl h (fun h => ?_) (fun h => ?_)
    · refine g_aload_n (pc' := 33) (i := 0) hC dX6_copies_32 rfl rfl rfl ?_
      refine gf_X6_28 (pc' := 36) hC dX6_copies_33 rfl ?_
      refine g_bipush (pc' := 38) (v := (nI 40)) hC dX6_copies_36 (by decide) rfl ?_
      refine g_iload_n (pc' := 39) (i := 1) hC dX6_copies_38 rfl rfl rfl ?_
      refine g_imul (pc' := 40) hC dX6_copies_39 rfl ?_
      refine g_iload_n (pc' := 41) (i := 3) hC dX6_copies_40 rfl rfl rfl ?_
      refine g_iadd (pc' := 42) hC dX6_copies_41 rfl ?_
      refine g_aload_n (pc' := 43) (i := 0) hC dX6_copies_42 rfl rfl rfl ?_
      refine gf_X6_28 (pc' := 46) hC dX6_copies_43 rfl ?_
      refine g_bipush (pc' := 48) (v := (nI 40)) hC dX6_copies_46 (by decide) rfl ?_
      refine g_iload_n (pc' := 49) (i := 2) hC dX6_copies_48 rfl rfl rfl ?_
      refine g_imul (pc' := 50) hC dX6_copies_49 rfl ?_
      refine g_iload_n (pc' := 51) (i := 3) hC dX6_copies_50 rfl rfl rfl ?_
      refine g_iadd (pc' := 52) hC dX6_copies_51 rfl ?_
      obtain ⟨g_6, h⟩ := gd_some h
      refine ld_mx (pc' := 53) hC g_6 dX6_copies_52 rfl ?_
      obtain ⟨g_7, h⟩ := gd_some h
      refine st_mx (pc' := 54) hC g_7 dX6_copies_53 rfl ?_
      refine g_iinc (pc' := 57) (i := 3) (x := v3) (k := (nI 1)) (lo' := [some (.ref (ea E 0)), some (.int v1), some (.int v2), some (.int (v3 + (nI 1)))]) hC dX6_copies_54 rfl (by decide) rfl rfl rfl rfl ?_
      refine g_goto (tgt := 26) hC dX6_copies_57 (by decide) ?_
      exact hk26 _ _ h
    · obtain ⟨rfl, rfl, rfl⟩ := inj3 h; exact g_vret hC dX6_copies_60)
set_option maxRecDepth 200000 in
theorem c_X6_copies (l : Launch) {E : GE} {mtz : Nat → Int32} {mvz : Nat → Int64} {mxz : Nat → Int32} {v1 : Int32} {v2 : Int32}  (h : p_X6_copies v1 v2 mt mv mx = some (mtz, mvz, mxz)) : Met l yX6_copies (.code yX6_copies cX6_copies 4 none :: gU) rm_X6_copies (gP E (mws E mk mo mm mt mv mx mp mtd mf ms md mdd mn mst mpl mbb ma me mb mba mpg mdi mbl mby mw mz mso mbo mco mcd ml mr) [.ref (ea E 0), .int v1, .int v2]) (gQ E (mws E mk mo mm mtz mvz mxz mp mtd mf ms md mdd mn mst mpl mbb ma me mb mba mpg mdi mbl mby mw mz mso mbo mco mcd ml mr) none) 0 0 E.2.2.1 := by
  refine met_of (y := yX6_copies) (own := RX6) (lo := [some (.ref (ea E 0)), some (.int v1), some (.int v2), none]) (by decide) rfl rfl rfl (fun κ hl hC => ?_)
  subst hl
  unfold p_X6_copies at h
  refine g_aload_n (pc' := 1) (i := 0) hC dX6_copies_0 rfl rfl rfl ?_
  refine gf_X6_20 (pc' := 4) hC dX6_copies_1 rfl ?_
  refine g_iload_n (pc' := 5) (i := 1) hC dX6_copies_4 rfl rfl rfl ?_
  refine g_aload_n (pc' := 6) (i := 0) hC dX6_copies_5 rfl rfl rfl ?_
  refine gf_X6_20 (pc' := 9) hC dX6_copies_6 rfl ?_
  refine g_iload_n (pc' := 10) (i := 2) hC dX6_copies_9 rfl rfl rfl ?_
  obtain ⟨g_1, h⟩ := gd_some h
  refine ld_mt (pc' := 11) hC g_1 dX6_copies_10 rfl ?_
  obtain ⟨g_2, h⟩ := gd_some h
  obtain ⟨g_3, h⟩ := gd_some h
  refine st_mt (pc' := 12) hC g_3 g_2 dX6_copies_11 rfl ?_
  refine g_aload_n (pc' := 13) (i := 0) hC dX6_copies_12 rfl rfl rfl ?_
  refine gf_X6_23 (pc' := 16) hC dX6_copies_13 rfl ?_
  refine g_iload_n (pc' := 17) (i := 1) hC dX6_copies_16 rfl rfl rfl ?_
  refine g_aload_n (pc' := 18) (i := 0) hC dX6_copies_17 rfl rfl rfl ?_
  refine gf_X6_23 (pc' := 21) hC dX6_copies_18 rfl ?_
  refine g_iload_n (pc' := 22) (i := 2) hC dX6_copies_21 rfl rfl rfl ?_
  obtain ⟨g_4, h⟩ := gd_some h
  refine ld_mv (pc' := 23) hC g_4 dX6_copies_22 rfl ?_
  obtain ⟨g_5, h⟩ := gd_some h
  refine st_mv (pc' := 24) hC g_5 dX6_copies_23 rfl ?_
  refine g_iconst (pc' := 25) (v := (nI 0)) hC dX6_copies_24 (by decide) rfl ?_
  refine g_istore_n (pc' := 26) (i := 3) (lo' := [some (.ref (ea E 0)), some (.int v1), some (.int v2), some (.int (nI 0))]) hC dX6_copies_25 rfl rfl rfl rfl rfl ?_
  refine w_X6_copies_L26 hC   _ _ _ h
set_option maxRecDepth 200000 in
theorem w_X6_repeat_L65 {κ : GK} {E : GE} {rr : Int32} {mmz : Nat → Int32} {mtz : Nat → Int32} {mvz : Nat → Int64} {mxz : Nat → Int32} {v1 : Int32} {v3 : Int32}  (hC : gC κ E cX6_repeat RX6 (some .int) rm_X6_repeat 5)   : ∀ (n : Nat) (v4 : Int32) (mt : Nat → Int32) (mv : Nat → Int64) (mx : Nat → Int32), itr4 (p_X6_repeat_L65 v1 v3 mm) n v4 mt mv mx = some (rr, mmz, mtz, mvz, mxz) → GG κ E (mws E mk mo mmz mtz mvz mxz mp mtd mf ms md mdd mn mst mpl mbb ma me mb mba mpg mdi mbl mby mw mz mso mbo mco mcd ml mr, some (.int rr)) (mws E mk mo mm mt mv mx mp mtd mf ms md mdd mn mst mpl mbb ma me mb mba mpg mdi mbl mby mw mz mso mbo mco mcd ml mr) 65 [some (.ref (ea E 0)), some (.int v1), none, some (.int v3), some (.int v4)] [] :=
  itr4_ind (fun k65 hk65 v4 mt mv mx h => by
    unfold p_X6_repeat_L65 at h
    refine g_iload (pc' := 67) (i := 4) hC dX6_repeat_65 rfl rfl ?_
    refine g_if_lt (pc' := 70) (tgt := 98) hC dX6_repeat_67 (by decide) rfl h (fun h => ?_) (fun h => ?_)
    · refine g_aload_n (pc' := 99) (i := 0) hC dX6_repeat_98 rfl rfl rfl ?_
      refine gf_X6_17 (pc' := 102) hC dX6_repeat_99 rfl ?_
      refine g_iload_n (pc' := 103) (i := 1) hC dX6_repeat_102 rfl rfl rfl ?_
      obtain ⟨g_9, h⟩ := gd_some h
      refine ld_mm (pc' := 104) hC g_9 dX6_repeat_103 rfl ?_
      obtain ⟨rfl, rfl, rfl, rfl, rfl⟩ := inj5 h; exact g_iret hC dX6_repeat_104
    · refine g_aload_n (pc' := 71) (i := 0) hC dX6_repeat_70 rfl rfl rfl ?_
      refine g_sipush (pc' := 74) (v := (nI 200)) hC dX6_repeat_71 (by decide) rfl ?_
      refine g_iload_n (pc' := 75) (i := 1) hC dX6_repeat_74 rfl rfl rfl ?_
      refine g_imul (pc' := 76) hC dX6_repeat_75 rfl ?_
      refine g_iload (pc' := 78) (i := 4) hC dX6_repeat_76 rfl rfl ?_
      refine g_iadd (pc' := 79) hC dX6_repeat_78 rfl ?_
      refine g_sipush (pc' := 82) (v := (nI 200)) hC dX6_repeat_79 (by decide) rfl ?_
      refine g_iload_n (pc' := 83) (i := 1) hC dX6_repeat_82 rfl rfl rfl ?_
      refine g_imul (pc' := 84) hC dX6_repeat_83 rfl ?_
      refine g_iload (pc' := 86) (i := 4) hC dX6_repeat_84 rfl rfl ?_
      refine g_iload_n (pc' := 87) (i := 3) hC dX6_repeat_86 rfl rfl rfl ?_
      obtain ⟨g_10, h⟩ := gd_some h
      refine g_idiv (pc' := 88) hC dX6_repeat_87 (nz_ne g_10) rfl ?_
      refine g_iadd (pc' := 89) hC dX6_repeat_88 rfl ?_
      obtain ⟨mt_11, mv_12, mx_13, hc_14, h⟩ := bd3_some h
      refine g_callV (pc' := 92) hC (c_X6_copies _ hc_14) ml_X6_82 (rc_M) (by decide) rfl rfl rfl rfl dX6_repeat_89 rfl ?_
      refine g_iinc (pc' := 95) (i := 4) (x := v4) (k := (-1 : Int32)) (lo' := [some (.ref (ea E 0)), some (.int v1), none, some (.int v3), some (.int (v4 + (-1 : Int32)))]) hC dX6_repeat_92 rfl (by decide) rfl rfl rfl rfl ?_
      refine g_goto (tgt := 65) hC dX6_repeat_95 (by decide) ?_
      exact hk65 _ _ _ _ h)
set_option maxRecDepth 200000 in
theorem c_X6_repeat (l : Launch) {E : GE} {rr : Int32} {mmz : Nat → Int32} {mtz : Nat → Int32} {mvz : Nat → Int64} {mxz : Nat → Int32} {v1 : Int32} {v2 : Int32} {v3 : Int32}  (h : p_X6_repeat v1 v2 v3 mm mt mv mx = some (rr, mmz, mtz, mvz, mxz)) : Met l yX6_repeat (.code yX6_repeat cX6_repeat 5 (some .int) :: gU) rm_X6_repeat (gP E (mws E mk mo mm mt mv mx mp mtd mf ms md mdd mn mst mpl mbb ma me mb mba mpg mdi mbl mby mw mz mso mbo mco mcd ml mr) [.ref (ea E 0), .int v1, .int v2, .int v3]) (gQ E (mws E mk mo mmz mtz mvz mxz mp mtd mf ms md mdd mn mst mpl mbb ma me mb mba mpg mdi mbl mby mw mz mso mbo mco mcd ml mr) (some (.int rr))) 0 0 E.2.2.1 := by
  refine met_of (y := yX6_repeat) (own := RX6) (lo := [some (.ref (ea E 0)), some (.int v1), some (.int v2), some (.int v3), none]) (by decide) rfl rfl rfl (fun κ hl hC => ?_)
  subst hl
  unfold p_X6_repeat at h
  refine g_iload_n (pc' := 1) (i := 1) hC dX6_repeat_0 rfl rfl rfl ?_
  obtain ⟨a_1, hc_2, h⟩ := bd1_some h
  refine g_callS (pc' := 4) hC (c_X6_isColumn _ hc_2) ml_X6_66  (by decide) rfl rfl rfl dX6_repeat_1 rfl ?_
  refine g_if_eq (pc' := 7) (tgt := 35) hC dX6_repeat_4 (by decide) rfl h (fun h => ?_) (fun h => ?_)
  · refine g_iconst (pc' := 36) (v := (-1 : Int32)) hC dX6_repeat_35 (by decide) rfl ?_
    obtain ⟨rfl, rfl, rfl, rfl, rfl⟩ := inj5 h; exact g_iret hC dX6_repeat_36
  · refine g_iload_n (pc' := 8) (i := 2) hC dX6_repeat_7 rfl rfl rfl ?_
    refine g_i2l (pc' := 9) hC dX6_repeat_8 rfl ?_
    refine g_lconst (pc' := 10) (v := (lN 0)) hC dX6_repeat_9 (by decide) rfl ?_
    refine g_aload_n (pc' := 11) (i := 0) hC dX6_repeat_10 rfl rfl rfl ?_
    refine gf_X6_17 (pc' := 14) hC dX6_repeat_11 rfl ?_
    refine g_iload_n (pc' := 15) (i := 1) hC dX6_repeat_14 rfl rfl rfl ?_
    obtain ⟨g_3, h⟩ := gd_some h
    refine ld_mm (pc' := 16) hC g_3 dX6_repeat_15 rfl ?_
    refine g_i2l (pc' := 17) hC dX6_repeat_16 rfl ?_
    obtain ⟨a_4, hc_5, h⟩ := bd1_some h
    refine g_callS (pc' := 20) hC (c_X6_in _ hc_5) ml_X6_62  (by decide) rfl rfl rfl dX6_repeat_17 rfl ?_
    refine g_if_eq (pc' := 23) (tgt := 35) hC dX6_repeat_20 (by decide) rfl h (fun h => ?_) (fun h => ?_)
    · refine g_iconst (pc' := 36) (v := (-1 : Int32)) hC dX6_repeat_35 (by decide) rfl ?_
      obtain ⟨rfl, rfl, rfl, rfl, rfl⟩ := inj5 h; exact g_iret hC dX6_repeat_36
    · refine g_iload_n (pc' := 24) (i := 3) hC dX6_repeat_23 rfl rfl rfl ?_
      refine g_i2l (pc' := 25) hC dX6_repeat_24 rfl ?_
      refine g_lconst (pc' := 26) (v := (lN 1)) hC dX6_repeat_25 (by decide) rfl ?_
      refine g_ldc2_w (pc' := 29) (v := (lN 200)) hC u_15 dX6_repeat_26 rfl ?_
      obtain ⟨a_6, hc_7, h⟩ := bd1_some h
      refine g_callS (pc' := 32) hC (c_X6_in _ hc_7) ml_X6_62  (by decide) rfl rfl rfl dX6_repeat_29 rfl ?_
      refine g_if_ne (pc' := 35) (tgt := 37) hC dX6_repeat_32 (by decide) rfl h (fun h => ?_) (fun h => ?_)
      · refine g_iconst (pc' := 36) (v := (-1 : Int32)) hC dX6_repeat_35 (by decide) rfl ?_
        obtain ⟨rfl, rfl, rfl, rfl, rfl⟩ := inj5 h; exact g_iret hC dX6_repeat_36
      · refine g_iload_n (pc' := 38) (i := 2) hC dX6_repeat_37 rfl rfl rfl ?_
        refine g_iload_n (pc' := 39) (i := 3) hC dX6_repeat_38 rfl rfl rfl ?_
        refine g_imul (pc' := 40) hC dX6_repeat_39 rfl ?_
        refine g_sipush (pc' := 43) (v := (nI 200)) hC dX6_repeat_40 (by decide) rfl ?_
        refine g_icmp_le (pc' := 46) (tgt := 49) hC dX6_repeat_43 (by decide) rfl h (fun h => ?_) (fun h => ?_)
        · refine g_bipush (pc' := 48) (v := (-3 : Int32)) hC dX6_repeat_46 (by decide) rfl ?_
          obtain ⟨rfl, rfl, rfl, rfl, rfl⟩ := inj5 h; exact g_iret hC dX6_repeat_48
        · refine g_aload_n (pc' := 50) (i := 0) hC dX6_repeat_49 rfl rfl rfl ?_
          refine gf_X6_17 (pc' := 53) hC dX6_repeat_50 rfl ?_
          refine g_iload_n (pc' := 54) (i := 1) hC dX6_repeat_53 rfl rfl rfl ?_
          refine g_iload_n (pc' := 55) (i := 2) hC dX6_repeat_54 rfl rfl rfl ?_
          refine g_iload_n (pc' := 56) (i := 3) hC dX6_repeat_55 rfl rfl rfl ?_
          refine g_imul (pc' := 57) hC dX6_repeat_56 rfl ?_
          obtain ⟨g_8, h⟩ := gd_some h
          refine st_mm (pc' := 58) hC g_8 dX6_repeat_57 rfl ?_
          refine g_iload_n (pc' := 59) (i := 2) hC dX6_repeat_58 rfl rfl rfl ?_
          refine g_iload_n (pc' := 60) (i := 3) hC dX6_repeat_59 rfl rfl rfl ?_
          refine g_imul (pc' := 61) hC dX6_repeat_60 rfl ?_
          refine g_iconst (pc' := 62) (v := (nI 1)) hC dX6_repeat_61 (by decide) rfl ?_
          refine g_isub (pc' := 63) hC dX6_repeat_62 rfl ?_
          refine g_istore (pc' := 65) (i := 4) (lo' := [some (.ref (ea E 0)), some (.int v1), some (.int v2), some (.int v3), some (.int ((v2 * v3) - (nI 1)))]) hC dX6_repeat_63 rfl rfl rfl rfl ?_
          refine g_weak (lo' := [some (.ref (ea E 0)), some (.int v1), none, some (.int v3), some (.int ((v2 * v3) - (nI 1)))]) rfl ?_
          refine w_X6_repeat_L65 hC   _ _ _ _ _ h
set_option maxRecDepth 200000 in
theorem w_X6_areLike_L40 {κ : GK} {E : GE} {rr : Int32} {v1 : Int32} {v2 : Int32}  (hC : gC κ E cX6_areLike RX6 (some .boolean) rm_X6_areLike 5)   : ∀ (n : Nat) (v3 : Int32) (v4 : Int32), itr2 (p_X6_areLike_L40 v1 v2 mx) n v3 v4 = some rr → GG κ E (mws E mk mo mm mt mv mx mp mtd mf ms md mdd mn mst mpl mbb ma me mb mba mpg mdi mbl mby mw mz mso mbo mco mcd ml mr, some (.int rr)) (mws E mk mo mm mt mv mx mp mtd mf ms md mdd mn mst mpl mbb ma me mb mba mpg mdi mbl mby mw mz mso mbo mco mcd ml mr) 40 [some (.ref (ea E 0)), some (.int v1), some (.int v2), some (.int v3), some (.int v4)] [] :=
  itr2_ind (fun k40 hk40 v3 v4 h => by
    unfold p_X6_areLike_L40 at h
    refine g_iload (pc' := 42) (i := 4) hC dX6_areLike_40 rfl rfl ?_
    refine g_bipush (pc' := 44) (v := (nI 40)) hC dX6_areLike_42 (by decide) rfl ?_
    refine g_icmp_ge (pc' := 47) (tgt := 90) hC dX6_areLike_44 (by decide) rfl h (fun h => ?_) (fun h => ?_)
    · refine g_iload_n (pc' := 48) (i := 3) hC dX6_areLike_47 rfl rfl rfl ?_
      refine g_if_eq (pc' := 51) (tgt := 90) hC dX6_areLike_48 (by decide) rfl h (fun h => ?_) (fun h => ?_)
      · refine g_iload_n (pc' := 91) (i := 3) hC dX6_areLike_90 rfl rfl rfl ?_
        obtain ⟨g_5, h⟩ := gd_some h
        obtain rfl := inj1 h; exact g_zret hC g_5 dX6_areLike_91
      · refine g_aload_n (pc' := 52) (i := 0) hC dX6_areLike_51 rfl rfl rfl ?_
        refine gf_X6_28 (pc' := 55) hC dX6_areLike_52 rfl ?_
        refine g_bipush (pc' := 57) (v := (nI 40)) hC dX6_areLike_55 (by decide) rfl ?_
        refine g_iload_n (pc' := 58) (i := 1) hC dX6_areLike_57 rfl rfl rfl ?_
        refine g_imul (pc' := 59) hC dX6_areLike_58 rfl ?_
        refine g_iload (pc' := 61) (i := 4) hC dX6_areLike_59 rfl rfl ?_
        refine g_iadd (pc' := 62) hC dX6_areLike_61 rfl ?_
        obtain ⟨g_6, h⟩ := gd_some h
        refine ld_mx (pc' := 63) hC g_6 dX6_areLike_62 rfl ?_
        refine g_aload_n (pc' := 64) (i := 0) hC dX6_areLike_63 rfl rfl rfl ?_
        refine gf_X6_28 (pc' := 67) hC dX6_areLike_64 rfl ?_
        refine g_bipush (pc' := 69) (v := (nI 40)) hC dX6_areLike_67 (by decide) rfl ?_
        refine g_iload_n (pc' := 70) (i := 2) hC dX6_areLike_69 rfl rfl rfl ?_
        refine g_imul (pc' := 71) hC dX6_areLike_70 rfl ?_
        refine g_iload (pc' := 73) (i := 4) hC dX6_areLike_71 rfl rfl ?_
        refine g_iadd (pc' := 74) hC dX6_areLike_73 rfl ?_
        obtain ⟨g_7, h⟩ := gd_some h
        refine ld_mx (pc' := 75) hC g_7 dX6_areLike_74 rfl ?_
        refine g_icmp_ne (pc' := 78) (tgt := 82) hC dX6_areLike_75 (by decide) rfl h (fun h => ?_) (fun h => ?_)
        · refine g_iconst (pc' := 79) (v := (nI 1)) hC dX6_areLike_78 (by decide) rfl ?_
          refine g_goto (tgt := 83) hC dX6_areLike_79 (by decide) ?_
          refine g_istore_n (pc' := 84) (i := 3) (lo' := [some (.ref (ea E 0)), some (.int v1), some (.int v2), some (.int (nI 1)), some (.int v4)]) hC dX6_areLike_83 rfl rfl rfl rfl rfl ?_
          refine g_iinc (pc' := 87) (i := 4) (x := v4) (k := (nI 1)) (lo' := [some (.ref (ea E 0)), some (.int v1), some (.int v2), some (.int (nI 1)), some (.int (v4 + (nI 1)))]) hC dX6_areLike_84 rfl (by decide) rfl rfl rfl rfl ?_
          refine g_goto (tgt := 40) hC dX6_areLike_87 (by decide) ?_
          exact hk40 _ _ h
        · refine g_iconst (pc' := 83) (v := (nI 0)) hC dX6_areLike_82 (by decide) rfl ?_
          refine g_istore_n (pc' := 84) (i := 3) (lo' := [some (.ref (ea E 0)), some (.int v1), some (.int v2), some (.int (nI 0)), some (.int v4)]) hC dX6_areLike_83 rfl rfl rfl rfl rfl ?_
          refine g_iinc (pc' := 87) (i := 4) (x := v4) (k := (nI 1)) (lo' := [some (.ref (ea E 0)), some (.int v1), some (.int v2), some (.int (nI 0)), some (.int (v4 + (nI 1)))]) hC dX6_areLike_84 rfl (by decide) rfl rfl rfl rfl ?_
          refine g_goto (tgt := 40) hC dX6_areLike_87 (by decide) ?_
          exact hk40 _ _ h
    · refine g_iload_n (pc' := 91) (i := 3) hC dX6_areLike_90 rfl rfl rfl ?_
      obtain ⟨g_8, h⟩ := gd_some h
      obtain rfl := inj1 h; exact g_zret hC g_8 dX6_areLike_91)
set_option maxRecDepth 200000 in
theorem c_X6_areLike (l : Launch) {E : GE} {rr : Int32} {v1 : Int32} {v2 : Int32}  (h : p_X6_areLike v1 v2 mt mv mx = some rr) : Met l yX6_areLike (.code yX6_areLike cX6_areLike 5 (some .boolean) :: gU) rm_X6_areLike (gP E (mws E mk mo mm mt mv mx mp mtd mf ms md mdd mn mst mpl mbb ma me mb mba mpg mdi mbl mby mw mz mso mbo mco mcd ml mr) [.ref (ea E 0), .int v1, .int v2]) (gQ E (mws E mk mo mm mt mv mx mp mtd mf ms md mdd mn mst mpl mbb ma me mb mba mpg mdi mbl mby mw mz mso mbo mco mcd ml mr) (some (.int rr))) 0 0 E.2.2.1 := by
  refine met_of (y := yX6_areLike) (own := RX6) (lo := [some (.ref (ea E 0)), some (.int v1), some (.int v2), none, none]) (by decide) rfl rfl rfl (fun κ hl hC => ?_)
  subst hl
  unfold p_X6_areLike at h
  refine g_aload_n (pc' := 1) (i := 0) hC dX6_areLike_0 rfl rfl rfl ?_
  refine gf_X6_20 (pc' := 4) hC dX6_areLike_1 rfl ?_
  refine g_iload_n (pc' := 5) (i := 1) hC dX6_areLike_4 rfl rfl rfl ?_
  obtain ⟨g_1, h⟩ := gd_some h
  refine ld_mt (pc' := 6) hC g_1 dX6_areLike_5 rfl ?_
  refine g_aload_n (pc' := 7) (i := 0) hC dX6_areLike_6 rfl rfl rfl ?_
  refine gf_X6_20 (pc' := 10) hC dX6_areLike_7 rfl ?_
  refine g_iload_n (pc' := 11) (i := 2) hC dX6_areLike_10 rfl rfl rfl ?_
  obtain ⟨g_2, h⟩ := gd_some h
  refine ld_mt (pc' := 12) hC g_2 dX6_areLike_11 rfl ?_
  refine g_icmp_ne (pc' := 15) (tgt := 35) hC dX6_areLike_12 (by decide) rfl h (fun h => ?_) (fun h => ?_)
  · refine g_aload_n (pc' := 16) (i := 0) hC dX6_areLike_15 rfl rfl rfl ?_
    refine gf_X6_23 (pc' := 19) hC dX6_areLike_16 rfl ?_
    refine g_iload_n (pc' := 20) (i := 1) hC dX6_areLike_19 rfl rfl rfl ?_
    obtain ⟨g_3, h⟩ := gd_some h
    refine ld_mv (pc' := 21) hC g_3 dX6_areLike_20 rfl ?_
    refine g_aload_n (pc' := 22) (i := 0) hC dX6_areLike_21 rfl rfl rfl ?_
    refine gf_X6_23 (pc' := 25) hC dX6_areLike_22 rfl ?_
    refine g_iload_n (pc' := 26) (i := 2) hC dX6_areLike_25 rfl rfl rfl ?_
    obtain ⟨g_4, h⟩ := gd_some h
    refine ld_mv (pc' := 27) hC g_4 dX6_areLike_26 rfl ?_
    refine g_lcmp_ne (pc' := 31) (tgt := 35) hC dX6_areLike_27 dX6_areLike_28 rfl (by decide) rfl h (fun h => ?_) (fun h => ?_)
    · refine g_iconst (pc' := 32) (v := (nI 1)) hC dX6_areLike_31 (by decide) rfl ?_
      refine g_goto (tgt := 36) hC dX6_areLike_32 (by decide) ?_
      refine g_istore_n (pc' := 37) (i := 3) (lo' := [some (.ref (ea E 0)), some (.int v1), some (.int v2), some (.int (nI 1)), none]) hC dX6_areLike_36 rfl rfl rfl rfl rfl ?_
      refine g_iconst (pc' := 38) (v := (nI 0)) hC dX6_areLike_37 (by decide) rfl ?_
      refine g_istore (pc' := 40) (i := 4) (lo' := [some (.ref (ea E 0)), some (.int v1), some (.int v2), some (.int (nI 1)), some (.int (nI 0))]) hC dX6_areLike_38 rfl rfl rfl rfl ?_
      refine w_X6_areLike_L40 hC   _ _ _ h
    · refine g_iconst (pc' := 36) (v := (nI 0)) hC dX6_areLike_35 (by decide) rfl ?_
      refine g_istore_n (pc' := 37) (i := 3) (lo' := [some (.ref (ea E 0)), some (.int v1), some (.int v2), some (.int (nI 0)), none]) hC dX6_areLike_36 rfl rfl rfl rfl rfl ?_
      refine g_iconst (pc' := 38) (v := (nI 0)) hC dX6_areLike_37 (by decide) rfl ?_
      refine g_istore (pc' := 40) (i := 4) (lo' := [some (.ref (ea E 0)), some (.int v1), some (.int v2), some (.int (nI 0)), some (.int (nI 0))]) hC dX6_areLike_38 rfl rfl rfl rfl ?_
      refine w_X6_areLike_L40 hC   _ _ _ h
  · refine g_iconst (pc' := 36) (v := (nI 0)) hC dX6_areLike_35 (by decide) rfl ?_
    refine g_istore_n (pc' := 37) (i := 3) (lo' := [some (.ref (ea E 0)), some (.int v1), some (.int v2), some (.int (nI 0)), none]) hC dX6_areLike_36 rfl rfl rfl rfl rfl ?_
    refine g_iconst (pc' := 38) (v := (nI 0)) hC dX6_areLike_37 (by decide) rfl ?_
    refine g_istore (pc' := 40) (i := 4) (lo' := [some (.ref (ea E 0)), some (.int v1), some (.int v2), some (.int (nI 0)), some (.int (nI 0))]) hC dX6_areLike_38 rfl rfl rfl rfl ?_
    refine w_X6_areLike_L40 hC   _ _ _ h
set_option maxRecDepth 200000 in
theorem w_X6_told_L127 {κ : GK} {E : GE} {rr : Int32} {v1 : Int32} {v2 : Int32} {v3 : Int32} {v4 : Int32} {v5 : Int32} {v6 : Int32} {k169 : Int32 → Option (Int32)} (hC : gC κ E cX6_told RX6 (some .int) rm_X6_told 9)  (hk169 : ∀ (v7 : Int32), k169 v7 = some rr → GG κ E (mws E mk mo mm mt mv mx mp mtd mf ms md mdd mn mst mpl mbb ma me mb mba mpg mdi mbl mby mw mz mso mbo mco mcd ml mr, some (.int rr)) (mws E mk mo mm mt mv mx mp mtd mf ms md mdd mn mst mpl mbb ma me mb mba mpg mdi mbl mby mw mz mso mbo mco mcd ml mr) 169 [some (.ref (ea E 0)), some (.int v1), some (.int v2), some (.int v3), some (.int v4), some (.int v5), none, some (.int v7), none] []) : ∀ (n : Nat) (v7 : Int32) (v8 : Int32), itr2 (p_X6_told_L127 v1 v5 v6 mt mv mx k169) n v7 v8 = some rr → GG κ E (mws E mk mo mm mt mv mx mp mtd mf ms md mdd mn mst mpl mbb ma me mb mba mpg mdi mbl mby mw mz mso mbo mco mcd ml mr, some (.int rr)) (mws E mk mo mm mt mv mx mp mtd mf ms md mdd mn mst mpl mbb ma me mb mba mpg mdi mbl mby mw mz mso mbo mco mcd ml mr) 127 [some (.ref (ea E 0)), some (.int v1), some (.int v2), some (.int v3), some (.int v4), some (.int v5), some (.int v6), some (.int v7), some (.int v8)] [] :=
  itr2_ind (fun k127 hk127 v7 v8 h => by
    unfold p_X6_told_L127 at h
    refine g_iload (pc' := 129) (i := 8) hC dX6_told_127 rfl rfl ?_
    refine g_iload (pc' := 131) (i := 5) hC dX6_told_129 rfl rfl ?_
    refine g_icmp_ge (pc' := 134) (tgt := 169) hC dX6_told_131 (by decide) rfl h (fun h => ?_) (fun h => ?_)
    · refine g_iload (pc' := 136) (i := 7) hC dX6_told_134 rfl rfl ?_
      refine g_if_eq (pc' := 139) (tgt := 169) hC dX6_told_136 (by decide) rfl h (fun h => ?_) (fun h => ?_)
      · refine g_weak (lo' := [some (.ref (ea E 0)), some (.int v1), some (.int v2), some (.int v3), some (.int v4), some (.int v5), none, some (.int v7), none]) rfl ?_
        exact hk169 _ h
      · refine g_aload_n (pc' := 140) (i := 0) hC dX6_told_139 rfl rfl rfl ?_
        refine g_sipush (pc' := 143) (v := (nI 200)) hC dX6_told_140 (by decide) rfl ?_
        refine g_iload_n (pc' := 144) (i := 1) hC dX6_told_143 rfl rfl rfl ?_
        refine g_imul (pc' := 145) hC dX6_told_144 rfl ?_
        refine g_iload (pc' := 147) (i := 8) hC dX6_told_145 rfl rfl ?_
        refine g_iadd (pc' := 148) hC dX6_told_147 rfl ?_
        refine g_iload (pc' := 150) (i := 6) hC dX6_told_148 rfl rfl ?_
        obtain ⟨a_11, hc_12, h⟩ := bd1_some h
        refine g_callV (pc' := 153) hC (c_X6_areLike _ hc_12) ml_X6_88 (rc_M) (by decide) rfl rfl rfl rfl dX6_told_150 rfl ?_
        refine g_if_ne (pc' := 156) (tgt := 160) hC dX6_told_153 (by decide) rfl h (fun h => ?_) (fun h => ?_)
        · refine g_iconst (pc' := 157) (v := (nI 1)) hC dX6_told_156 (by decide) rfl ?_
          refine g_goto (tgt := 161) hC dX6_told_157 (by decide) ?_
          refine g_istore (pc' := 163) (i := 7) (lo' := [some (.ref (ea E 0)), some (.int v1), some (.int v2), some (.int v3), some (.int v4), some (.int v5), some (.int v6), some (.int (nI 1)), some (.int v8)]) hC dX6_told_161 rfl rfl rfl rfl ?_
          refine g_iinc (pc' := 166) (i := 8) (x := v8) (k := (nI 1)) (lo' := [some (.ref (ea E 0)), some (.int v1), some (.int v2), some (.int v3), some (.int v4), some (.int v5), some (.int v6), some (.int (nI 1)), some (.int (v8 + (nI 1)))]) hC dX6_told_163 rfl (by decide) rfl rfl rfl rfl ?_
          refine g_goto (tgt := 127) hC dX6_told_166 (by decide) ?_
          exact hk127 _ _ h
        · refine g_iconst (pc' := 161) (v := (nI 0)) hC dX6_told_160 (by decide) rfl ?_
          refine g_istore (pc' := 163) (i := 7) (lo' := [some (.ref (ea E 0)), some (.int v1), some (.int v2), some (.int v3), some (.int v4), some (.int v5), some (.int v6), some (.int (nI 0)), some (.int v8)]) hC dX6_told_161 rfl rfl rfl rfl ?_
          refine g_iinc (pc' := 166) (i := 8) (x := v8) (k := (nI 1)) (lo' := [some (.ref (ea E 0)), some (.int v1), some (.int v2), some (.int v3), some (.int v4), some (.int v5), some (.int v6), some (.int (nI 0)), some (.int (v8 + (nI 1)))]) hC dX6_told_163 rfl (by decide) rfl rfl rfl rfl ?_
          refine g_goto (tgt := 127) hC dX6_told_166 (by decide) ?_
          exact hk127 _ _ h
    · refine g_weak (lo' := [some (.ref (ea E 0)), some (.int v1), some (.int v2), some (.int v3), some (.int v4), some (.int v5), none, some (.int v7), none]) rfl ?_
      exact hk169 _ h)
set_option maxRecDepth 200000 in
theorem w_X6_told_J169 {κ : GK} {E : GE} {rr : Int32} {v1 : Int32} {v2 : Int32} {v3 : Int32} {v4 : Int32} {v5 : Int32} {v7 : Int32} {k76 : Int32 → Int32 → Int32 → Option (Int32)} (hC : gC κ E cX6_told RX6 (some .int) rm_X6_told 9)  (hk76 : ∀ (v3 : Int32) (v4 : Int32) (v5 : Int32), k76 v3 v4 v5 = some rr → GG κ E (mws E mk mo mm mt mv mx mp mtd mf ms md mdd mn mst mpl mbb ma me mb mba mpg mdi mbl mby mw mz mso mbo mco mcd ml mr, some (.int rr)) (mws E mk mo mm mt mv mx mp mtd mf ms md mdd mn mst mpl mbb ma me mb mba mpg mdi mbl mby mw mz mso mbo mco mcd ml mr) 76 [some (.ref (ea E 0)), some (.int v1), some (.int v2), some (.int v3), some (.int v4), some (.int v5), none, none, none] []) (h : p_X6_told_J169 v3 v4 v5 v7 k76 = some rr) : GG κ E (mws E mk mo mm mt mv mx mp mtd mf ms md mdd mn mst mpl mbb ma me mb mba mpg mdi mbl mby mw mz mso mbo mco mcd ml mr, some (.int rr)) (mws E mk mo mm mt mv mx mp mtd mf ms md mdd mn mst mpl mbb ma me mb mba mpg mdi mbl mby mw mz mso mbo mco mcd ml mr) 169 [some (.ref (ea E 0)), some (.int v1), some (.int v2), some (.int v3), some (.int v4), some (.int v5), none, some (.int v7), none] [] := by
  unfold p_X6_told_J169 at h
  refine g_iload (pc' := 171) (i := 4) hC dX6_told_169 rfl rfl ?_
  refine g_iload (pc' := 173) (i := 7) hC dX6_told_171 rfl rfl ?_
  refine g_if_eq (pc' := 176) (tgt := 180) hC dX6_told_173 (by decide) rfl h (fun h => ?_) (fun h => ?_)
  · refine g_iconst (pc' := 181) (v := (nI 0)) hC dX6_told_180 (by decide) rfl ?_
    refine g_iadd (pc' := 182) hC dX6_told_181 rfl ?_
    refine g_istore (pc' := 184) (i := 4) (lo' := [some (.ref (ea E 0)), some (.int v1), some (.int v2), some (.int v3), some (.int (v4 + (nI 0))), some (.int v5), none, some (.int v7), none]) hC dX6_told_182 rfl rfl rfl rfl ?_
    refine g_iinc (pc' := 187) (i := 5) (x := v5) (k := (nI 1)) (lo' := [some (.ref (ea E 0)), some (.int v1), some (.int v2), some (.int v3), some (.int (v4 + (nI 0))), some (.int (v5 + (nI 1))), none, some (.int v7), none]) hC dX6_told_184 rfl (by decide) rfl rfl rfl rfl ?_
    refine g_goto (tgt := 76) hC dX6_told_187 (by decide) ?_
    refine g_weak (lo' := [some (.ref (ea E 0)), some (.int v1), some (.int v2), some (.int v3), some (.int (v4 + (nI 0))), some (.int (v5 + (nI 1))), none, none, none]) rfl ?_
    exact hk76 _ _ _ h
  · refine g_iconst (pc' := 177) (v := (nI 1)) hC dX6_told_176 (by decide) rfl ?_
    refine g_goto (tgt := 181) hC dX6_told_177 (by decide) ?_
    refine g_iadd (pc' := 182) hC dX6_told_181 rfl ?_
    refine g_istore (pc' := 184) (i := 4) (lo' := [some (.ref (ea E 0)), some (.int v1), some (.int v2), some (.int v3), some (.int (v4 + (nI 1))), some (.int v5), none, some (.int v7), none]) hC dX6_told_182 rfl rfl rfl rfl ?_
    refine g_iinc (pc' := 187) (i := 5) (x := v5) (k := (nI 1)) (lo' := [some (.ref (ea E 0)), some (.int v1), some (.int v2), some (.int v3), some (.int (v4 + (nI 1))), some (.int (v5 + (nI 1))), none, some (.int v7), none]) hC dX6_told_184 rfl (by decide) rfl rfl rfl rfl ?_
    refine g_goto (tgt := 76) hC dX6_told_187 (by decide) ?_
    refine g_weak (lo' := [some (.ref (ea E 0)), some (.int v1), some (.int v2), some (.int v3), some (.int (v4 + (nI 1))), some (.int (v5 + (nI 1))), none, none, none]) rfl ?_
    exact hk76 _ _ _ h
set_option maxRecDepth 200000 in
theorem w_X6_told_J113 {κ : GK} {E : GE} {rr : Int32} {v1 : Int32} {v2 : Int32} {v4 : Int32} {v5 : Int32} {v6 : Int32} {s0 : Int32} {s1 : Int32} {k76 : Int32 → Int32 → Int32 → Option (Int32)} (hC : gC κ E cX6_told RX6 (some .int) rm_X6_told 9)  (hk76 : ∀ (v3 : Int32) (v4 : Int32) (v5 : Int32), k76 v3 v4 v5 = some rr → GG κ E (mws E mk mo mm mt mv mx mp mtd mf ms md mdd mn mst mpl mbb ma me mb mba mpg mdi mbl mby mw mz mso mbo mco mcd ml mr, some (.int rr)) (mws E mk mo mm mt mv mx mp mtd mf ms md mdd mn mst mpl mbb ma me mb mba mpg mdi mbl mby mw mz mso mbo mco mcd ml mr) 76 [some (.ref (ea E 0)), some (.int v1), some (.int v2), some (.int v3), some (.int v4), some (.int v5), none, none, none] []) (h : p_X6_told_J113 v1 v4 v5 v6 s0 s1 mt mv mx k76 = some rr) : GG κ E (mws E mk mo mm mt mv mx mp mtd mf ms md mdd mn mst mpl mbb ma me mb mba mpg mdi mbl mby mw mz mso mbo mco mcd ml mr, some (.int rr)) (mws E mk mo mm mt mv mx mp mtd mf ms md mdd mn mst mpl mbb ma me mb mba mpg mdi mbl mby mw mz mso mbo mco mcd ml mr) 113 [some (.ref (ea E 0)), some (.int v1), some (.int v2), none, some (.int v4), some (.int v5), some (.int v6), none, none] [.int s1, .int s0] := by
  unfold p_X6_told_J113 at h
  refine g_iadd (pc' := 114) hC dX6_told_113 rfl ?_
  refine g_istore_n (pc' := 115) (i := 3) (lo' := [some (.ref (ea E 0)), some (.int v1), some (.int v2), some (.int (s0 + s1)), some (.int v4), some (.int v5), some (.int v6), none, none]) hC dX6_told_114 rfl rfl rfl rfl rfl ?_
  refine g_aload_n (pc' := 116) (i := 0) hC dX6_told_115 rfl rfl rfl ?_
  refine gf_X6_20 (pc' := 119) hC dX6_told_116 rfl ?_
  refine g_iload (pc' := 121) (i := 6) hC dX6_told_119 rfl rfl ?_
  obtain ⟨g_10, h⟩ := gd_some h
  refine ld_mt (pc' := 122) hC g_10 dX6_told_121 rfl ?_
  refine g_istore (pc' := 124) (i := 7) (lo' := [some (.ref (ea E 0)), some (.int v1), some (.int v2), some (.int (s0 + s1)), some (.int v4), some (.int v5), some (.int v6), some (.int (mt (ix v6))), none]) hC dX6_told_122 rfl rfl rfl rfl ?_
  refine g_iconst (pc' := 125) (v := (nI 0)) hC dX6_told_124 (by decide) rfl ?_
  refine g_istore (pc' := 127) (i := 8) (lo' := [some (.ref (ea E 0)), some (.int v1), some (.int v2), some (.int (s0 + s1)), some (.int v4), some (.int v5), some (.int v6), some (.int (mt (ix v6))), some (.int (nI 0))]) hC dX6_told_125 rfl rfl rfl rfl ?_
  refine w_X6_told_L127 hC  ?_ _ _ _ h
  · intro v7_13 h
    exact w_X6_told_J169 hC  hk76 h
set_option maxRecDepth 200000 in
theorem w_X6_told_L76 {κ : GK} {E : GE} {rr : Int32} {v1 : Int32} {v2 : Int32} {k190 : Int32 → Int32 → Option (Int32)} (hC : gC κ E cX6_told RX6 (some .int) rm_X6_told 9)  (hk190 : ∀ (v3 : Int32) (v4 : Int32), k190 v3 v4 = some rr → GG κ E (mws E mk mo mm mt mv mx mp mtd mf ms md mdd mn mst mpl mbb ma me mb mba mpg mdi mbl mby mw mz mso mbo mco mcd ml mr, some (.int rr)) (mws E mk mo mm mt mv mx mp mtd mf ms md mdd mn mst mpl mbb ma me mb mba mpg mdi mbl mby mw mz mso mbo mco mcd ml mr) 190 [none, none, some (.int v2), some (.int v3), some (.int v4), none, none, none, none] []) : ∀ (n : Nat) (v3 : Int32) (v4 : Int32) (v5 : Int32), itr3 (p_X6_told_L76 v1 mm mt mv mx k190) n v3 v4 v5 = some rr → GG κ E (mws E mk mo mm mt mv mx mp mtd mf ms md mdd mn mst mpl mbb ma me mb mba mpg mdi mbl mby mw mz mso mbo mco mcd ml mr, some (.int rr)) (mws E mk mo mm mt mv mx mp mtd mf ms md mdd mn mst mpl mbb ma me mb mba mpg mdi mbl mby mw mz mso mbo mco mcd ml mr) 76 [some (.ref (ea E 0)), some (.int v1), some (.int v2), some (.int v3), some (.int v4), some (.int v5), none, none, none] [] :=
  itr3_ind (fun k76 hk76 v3 v4 v5 h => by
    unfold p_X6_told_L76 at h
    refine g_iload (pc' := 78) (i := 5) hC dX6_told_76 rfl rfl ?_
    refine g_aload_n (pc' := 79) (i := 0) hC dX6_told_78 rfl rfl rfl ?_
    refine gf_X6_17 (pc' := 82) hC dX6_told_79 rfl ?_
    refine g_iload_n (pc' := 83) (i := 1) hC dX6_told_82 rfl rfl rfl ?_
    obtain ⟨g_8, h⟩ := gd_some h
    refine ld_mm (pc' := 84) hC g_8 dX6_told_83 rfl ?_
    refine g_icmp_ge (pc' := 87) (tgt := 190) hC dX6_told_84 (by decide) rfl h (fun h => ?_) (fun h => ?_)
    · refine g_sipush (pc' := 90) (v := (nI 200)) hC dX6_told_87 (by decide) rfl ?_
      refine g_iload_n (pc' := 91) (i := 1) hC dX6_told_90 rfl rfl rfl ?_
      refine g_imul (pc' := 92) hC dX6_told_91 rfl ?_
      refine g_iload (pc' := 94) (i := 5) hC dX6_told_92 rfl rfl ?_
      refine g_iadd (pc' := 95) hC dX6_told_94 rfl ?_
      refine g_istore (pc' := 97) (i := 6) (lo' := [some (.ref (ea E 0)), some (.int v1), some (.int v2), some (.int v3), some (.int v4), some (.int v5), some (.int (((nI 200) * v1) + v5)), none, none]) hC dX6_told_95 rfl rfl rfl rfl ?_
      refine g_iload_n (pc' := 98) (i := 3) hC dX6_told_97 rfl rfl rfl ?_
      refine g_aload_n (pc' := 99) (i := 0) hC dX6_told_98 rfl rfl rfl ?_
      refine gf_X6_20 (pc' := 102) hC dX6_told_99 rfl ?_
      refine g_iload (pc' := 104) (i := 6) hC dX6_told_102 rfl rfl ?_
      obtain ⟨g_9, h⟩ := gd_some h
      refine ld_mt (pc' := 105) hC g_9 dX6_told_104 rfl ?_
      refine g_if_eq (pc' := 108) (tgt := 112) hC dX6_told_105 (by decide) rfl h (fun h => ?_) (fun h => ?_)
      · refine g_iconst (pc' := 113) (v := (nI 1)) hC dX6_told_112 (by decide) rfl ?_
        refine g_weak (lo' := [some (.ref (ea E 0)), some (.int v1), some (.int v2), none, some (.int v4), some (.int v5), some (.int (((nI 200) * v1) + v5)), none, none]) rfl ?_
        exact w_X6_told_J113 hC  hk76 h
      · refine g_iconst (pc' := 109) (v := (nI 0)) hC dX6_told_108 (by decide) rfl ?_
        refine g_goto (tgt := 113) hC dX6_told_109 (by decide) ?_
        refine g_weak (lo' := [some (.ref (ea E 0)), some (.int v1), some (.int v2), none, some (.int v4), some (.int v5), some (.int (((nI 200) * v1) + v5)), none, none]) rfl ?_
        exact w_X6_told_J113 hC  hk76 h
    · refine g_weak (lo' := [none, none, some (.int v2), some (.int v3), some (.int v4), none, none, none, none]) rfl ?_
      exact hk190 _ _ h)
set_option maxRecDepth 200000 in
theorem c_X6_told (l : Launch) {E : GE} {rr : Int32} {v1 : Int32} {v2 : Int32}  (h : p_X6_told v1 v2 mk mo mm mt mv mx = some rr) : Met l yX6_told (.code yX6_told cX6_told 9 (some .int) :: gU) rm_X6_told (gP E (mws E mk mo mm mt mv mx mp mtd mf ms md mdd mn mst mpl mbb ma me mb mba mpg mdi mbl mby mw mz mso mbo mco mcd ml mr) [.ref (ea E 0), .int v1, .int v2]) (gQ E (mws E mk mo mm mt mv mx mp mtd mf ms md mdd mn mst mpl mbb ma me mb mba mpg mdi mbl mby mw mz mso mbo mco mcd ml mr) (some (.int rr))) 0 0 E.2.2.1 := by
  refine met_of (y := yX6_told) (own := RX6) (lo := [some (.ref (ea E 0)), some (.int v1), some (.int v2), none, none, none, none, none, none]) (by decide) rfl rfl rfl (fun κ hl hC => ?_)
  subst hl
  unfold p_X6_told at h
  refine g_iload_n (pc' := 1) (i := 1) hC dX6_told_0 rfl rfl rfl ?_
  obtain ⟨a_1, hc_2, h⟩ := bd1_some h
  refine g_callS (pc' := 4) hC (c_X6_isColumn _ hc_2) ml_X6_66  (by decide) rfl rfl rfl dX6_told_1 rfl ?_
  refine g_if_eq (pc' := 7) (tgt := 19) hC dX6_told_4 (by decide) rfl h (fun h => ?_) (fun h => ?_)
  · refine g_iconst (pc' := 20) (v := (-1 : Int32)) hC dX6_told_19 (by decide) rfl ?_
    obtain rfl := inj1 h; exact g_iret hC dX6_told_20
  · refine g_iload_n (pc' := 8) (i := 2) hC dX6_told_7 rfl rfl rfl ?_
    refine g_i2l (pc' := 9) hC dX6_told_8 rfl ?_
    refine g_lconst (pc' := 10) (v := (lN 0)) hC dX6_told_9 (by decide) rfl ?_
    refine g_ldc2_w (pc' := 13) (v := (lN 4)) hC u_16 dX6_told_10 rfl ?_
    obtain ⟨a_3, hc_4, h⟩ := bd1_some h
    refine g_callS (pc' := 16) hC (c_X6_in _ hc_4) ml_X6_62  (by decide) rfl rfl rfl dX6_told_13 rfl ?_
    refine g_if_ne (pc' := 19) (tgt := 21) hC dX6_told_16 (by decide) rfl h (fun h => ?_) (fun h => ?_)
    · refine g_iconst (pc' := 20) (v := (-1 : Int32)) hC dX6_told_19 (by decide) rfl ?_
      obtain rfl := inj1 h; exact g_iret hC dX6_told_20
    · refine g_iload_n (pc' := 22) (i := 2) hC dX6_told_21 rfl rfl rfl ?_
      refine g_iconst (pc' := 23) (v := (nI 3)) hC dX6_told_22 (by decide) rfl ?_
      refine g_icmp_ge (pc' := 26) (tgt := 68) hC dX6_told_23 (by decide) rfl h (fun h => ?_) (fun h => ?_)
      · refine g_iload_n (pc' := 27) (i := 2) hC dX6_told_26 rfl rfl rfl ?_
        refine g_if_ne (pc' := 30) (tgt := 39) hC dX6_told_27 (by decide) rfl h (fun h => ?_) (fun h => ?_)
        · refine g_aload_n (pc' := 31) (i := 0) hC dX6_told_30 rfl rfl rfl ?_
          refine gf_X6_7 (pc' := 34) hC dX6_told_31 rfl ?_
          refine g_iload_n (pc' := 35) (i := 1) hC dX6_told_34 rfl rfl rfl ?_
          obtain ⟨g_5, h⟩ := gd_some h
          refine ld_mk (pc' := 36) hC g_5 dX6_told_35 rfl ?_
          refine g_goto (tgt := 67) hC dX6_told_36 (by decide) ?_
          obtain rfl := inj1 h; exact g_iret hC dX6_told_67
        · refine g_iload_n (pc' := 40) (i := 2) hC dX6_told_39 rfl rfl rfl ?_
          refine g_iconst (pc' := 41) (v := (nI 1)) hC dX6_told_40 (by decide) rfl ?_
          refine g_icmp_ne (pc' := 44) (tgt := 61) hC dX6_told_41 (by decide) rfl h (fun h => ?_) (fun h => ?_)
          · refine g_aload_n (pc' := 45) (i := 0) hC dX6_told_44 rfl rfl rfl ?_
            refine gf_X6_13 (pc' := 48) hC dX6_told_45 rfl ?_
            refine g_iload_n (pc' := 49) (i := 1) hC dX6_told_48 rfl rfl rfl ?_
            obtain ⟨g_6, h⟩ := gd_some h
            refine ld_mo (pc' := 50) hC g_6 dX6_told_49 rfl ?_
            refine g_if_eq (pc' := 53) (tgt := 57) hC dX6_told_50 (by decide) rfl h (fun h => ?_) (fun h => ?_)
            · refine g_iconst (pc' := 58) (v := (nI 0)) hC dX6_told_57 (by decide) rfl ?_
              refine g_goto (tgt := 67) hC dX6_told_58 (by decide) ?_
              obtain rfl := inj1 h; exact g_iret hC dX6_told_67
            · refine g_iconst (pc' := 54) (v := (nI 1)) hC dX6_told_53 (by decide) rfl ?_
              refine g_goto (tgt := 67) hC dX6_told_54 (by decide) ?_
              obtain rfl := inj1 h; exact g_iret hC dX6_told_67
          · refine g_aload_n (pc' := 62) (i := 0) hC dX6_told_61 rfl rfl rfl ?_
            refine gf_X6_17 (pc' := 65) hC dX6_told_62 rfl ?_
            refine g_iload_n (pc' := 66) (i := 1) hC dX6_told_65 rfl rfl rfl ?_
            obtain ⟨g_7, h⟩ := gd_some h
            refine ld_mm (pc' := 67) hC g_7 dX6_told_66 rfl ?_
            obtain rfl := inj1 h; exact g_iret hC dX6_told_67
      · refine g_iconst (pc' := 69) (v := (nI 0)) hC dX6_told_68 (by decide) rfl ?_
        refine g_istore_n (pc' := 70) (i := 3) (lo' := [some (.ref (ea E 0)), some (.int v1), some (.int v2), some (.int (nI 0)), none, none, none, none, none]) hC dX6_told_69 rfl rfl rfl rfl rfl ?_
        refine g_iconst (pc' := 71) (v := (nI 0)) hC dX6_told_70 (by decide) rfl ?_
        refine g_istore (pc' := 73) (i := 4) (lo' := [some (.ref (ea E 0)), some (.int v1), some (.int v2), some (.int (nI 0)), some (.int (nI 0)), none, none, none, none]) hC dX6_told_71 rfl rfl rfl rfl ?_
        refine g_iconst (pc' := 74) (v := (nI 0)) hC dX6_told_73 (by decide) rfl ?_
        refine g_istore (pc' := 76) (i := 5) (lo' := [some (.ref (ea E 0)), some (.int v1), some (.int v2), some (.int (nI 0)), some (.int (nI 0)), some (.int (nI 0)), none, none, none]) hC dX6_told_74 rfl rfl rfl rfl ?_
        refine w_X6_told_L76 hC  ?_ _ _ _ _ h
        · intro v3_14 v4_15 h
          refine g_iload_n (pc' := 191) (i := 2) hC dX6_told_190 rfl rfl rfl ?_
          refine g_iconst (pc' := 192) (v := (nI 3)) hC dX6_told_191 (by decide) rfl ?_
          refine g_icmp_ne (pc' := 195) (tgt := 199) hC dX6_told_192 (by decide) rfl h (fun h => ?_) (fun h => ?_)
          · refine g_iload_n (pc' := 196) (i := 3) hC dX6_told_195 rfl rfl rfl ?_
            refine g_goto (tgt := 201) hC dX6_told_196 (by decide) ?_
            obtain rfl := inj1 h; exact g_iret hC dX6_told_201
          · refine g_iload (pc' := 201) (i := 4) hC dX6_told_199 rfl rfl ?_
            obtain rfl := inj1 h; exact g_iret hC dX6_told_201
set_option maxRecDepth 200000 in
theorem c_X6_isValue (l : Launch) {E : GE} {rr : Int32} {v1 : Int32} {v2 : Int32}  (h : p_X6_isValue v1 v2 mm = some rr) : Met l yX6_isValue (.code yX6_isValue cX6_isValue 3 (some .boolean) :: gU) rm_X6_isValue (gP E (mws E mk mo mm mt mv mx mp mtd mf ms md mdd mn mst mpl mbb ma me mb mba mpg mdi mbl mby mw mz mso mbo mco mcd ml mr) [.ref (ea E 0), .int v1, .int v2]) (gQ E (mws E mk mo mm mt mv mx mp mtd mf ms md mdd mn mst mpl mbb ma me mb mba mpg mdi mbl mby mw mz mso mbo mco mcd ml mr) (some (.int rr))) 0 0 E.2.2.1 := by
  refine met_of (y := yX6_isValue) (own := RX6) (lo := [some (.ref (ea E 0)), some (.int v1), some (.int v2)]) (by decide) rfl rfl rfl (fun κ hl hC => ?_)
  subst hl
  unfold p_X6_isValue at h
  refine g_iload_n (pc' := 1) (i := 1) hC dX6_isValue_0 rfl rfl rfl ?_
  obtain ⟨a_1, hc_2, h⟩ := bd1_some h
  refine g_callS (pc' := 4) hC (c_X6_isColumn _ hc_2) ml_X6_66  (by decide) rfl rfl rfl dX6_isValue_1 rfl ?_
  refine g_if_eq (pc' := 7) (tgt := 29) hC dX6_isValue_4 (by decide) rfl h (fun h => ?_) (fun h => ?_)
  · refine g_iconst (pc' := 30) (v := (nI 0)) hC dX6_isValue_29 (by decide) rfl ?_
    obtain rfl := inj1 h; exact g_zret hC (by decide) dX6_isValue_30
  · refine g_iload_n (pc' := 8) (i := 2) hC dX6_isValue_7 rfl rfl rfl ?_
    refine g_i2l (pc' := 9) hC dX6_isValue_8 rfl ?_
    refine g_lconst (pc' := 10) (v := (lN 0)) hC dX6_isValue_9 (by decide) rfl ?_
    refine g_aload_n (pc' := 11) (i := 0) hC dX6_isValue_10 rfl rfl rfl ?_
    refine gf_X6_17 (pc' := 14) hC dX6_isValue_11 rfl ?_
    refine g_iload_n (pc' := 15) (i := 1) hC dX6_isValue_14 rfl rfl rfl ?_
    obtain ⟨g_3, h⟩ := gd_some h
    refine ld_mm (pc' := 16) hC g_3 dX6_isValue_15 rfl ?_
    refine g_iconst (pc' := 17) (v := (nI 1)) hC dX6_isValue_16 (by decide) rfl ?_
    refine g_isub (pc' := 18) hC dX6_isValue_17 rfl ?_
    refine g_i2l (pc' := 19) hC dX6_isValue_18 rfl ?_
    obtain ⟨a_4, hc_5, h⟩ := bd1_some h
    refine g_callS (pc' := 22) hC (c_X6_in _ hc_5) ml_X6_62  (by decide) rfl rfl rfl dX6_isValue_19 rfl ?_
    refine g_if_eq (pc' := 25) (tgt := 29) hC dX6_isValue_22 (by decide) rfl h (fun h => ?_) (fun h => ?_)
    · refine g_iconst (pc' := 30) (v := (nI 0)) hC dX6_isValue_29 (by decide) rfl ?_
      obtain rfl := inj1 h; exact g_zret hC (by decide) dX6_isValue_30
    · refine g_iconst (pc' := 26) (v := (nI 1)) hC dX6_isValue_25 (by decide) rfl ?_
      refine g_goto (tgt := 30) hC dX6_isValue_26 (by decide) ?_
      obtain rfl := inj1 h; exact g_zret hC (by decide) dX6_isValue_30
set_option maxRecDepth 200000 in
theorem c_X6_has (l : Launch) {E : GE} {rr : Int32} {v1 : Int32} {v2 : Int32}  (h : p_X6_has v1 v2 mm mt = some rr) : Met l yX6_has (.code yX6_has cX6_has 3 (some .int) :: gU) rm_X6_has (gP E (mws E mk mo mm mt mv mx mp mtd mf ms md mdd mn mst mpl mbb ma me mb mba mpg mdi mbl mby mw mz mso mbo mco mcd ml mr) [.ref (ea E 0), .int v1, .int v2]) (gQ E (mws E mk mo mm mt mv mx mp mtd mf ms md mdd mn mst mpl mbb ma me mb mba mpg mdi mbl mby mw mz mso mbo mco mcd ml mr) (some (.int rr))) 0 0 E.2.2.1 := by
  refine met_of (y := yX6_has) (own := RX6) (lo := [some (.ref (ea E 0)), some (.int v1), some (.int v2)]) (by decide) rfl rfl rfl (fun κ hl hC => ?_)
  subst hl
  unfold p_X6_has at h
  refine g_aload_n (pc' := 1) (i := 0) hC dX6_has_0 rfl rfl rfl ?_
  refine g_iload_n (pc' := 2) (i := 1) hC dX6_has_1 rfl rfl rfl ?_
  refine g_iload_n (pc' := 3) (i := 2) hC dX6_has_2 rfl rfl rfl ?_
  obtain ⟨a_1, hc_2, h⟩ := bd1_some h
  refine g_callV (pc' := 6) hC (c_X6_isValue _ hc_2) ml_X6_92 (rc_M) (by decide) rfl rfl rfl rfl dX6_has_3 rfl ?_
  refine g_if_ne (pc' := 9) (tgt := 13) hC dX6_has_6 (by decide) rfl h (fun h => ?_) (fun h => ?_)
  · refine g_iconst (pc' := 10) (v := (-1 : Int32)) hC dX6_has_9 (by decide) rfl ?_
    refine g_goto (tgt := 33) hC dX6_has_10 (by decide) ?_
    obtain rfl := inj1 h; exact g_iret hC dX6_has_33
  · refine g_aload_n (pc' := 14) (i := 0) hC dX6_has_13 rfl rfl rfl ?_
    refine gf_X6_20 (pc' := 17) hC dX6_has_14 rfl ?_
    refine g_sipush (pc' := 20) (v := (nI 200)) hC dX6_has_17 (by decide) rfl ?_
    refine g_iload_n (pc' := 21) (i := 1) hC dX6_has_20 rfl rfl rfl ?_
    refine g_imul (pc' := 22) hC dX6_has_21 rfl ?_
    refine g_iload_n (pc' := 23) (i := 2) hC dX6_has_22 rfl rfl rfl ?_
    refine g_iadd (pc' := 24) hC dX6_has_23 rfl ?_
    obtain ⟨g_3, h⟩ := gd_some h
    refine ld_mt (pc' := 25) hC g_3 dX6_has_24 rfl ?_
    refine g_if_eq (pc' := 28) (tgt := 32) hC dX6_has_25 (by decide) rfl h (fun h => ?_) (fun h => ?_)
    · refine g_iconst (pc' := 33) (v := (nI 0)) hC dX6_has_32 (by decide) rfl ?_
      obtain rfl := inj1 h; exact g_iret hC dX6_has_33
    · refine g_iconst (pc' := 29) (v := (nI 1)) hC dX6_has_28 (by decide) rfl ?_
      refine g_goto (tgt := 33) hC dX6_has_29 (by decide) ?_
      obtain rfl := inj1 h; exact g_iret hC dX6_has_33
set_option maxRecDepth 200000 in
theorem c_X6_value (l : Launch) {E : GE} {rr : Int64} {v1 : Int32} {v2 : Int32}  (h : p_X6_value v1 v2 mm mt mv = some rr) : Met l yX6_value (.code yX6_value cX6_value 3 (some .long) :: gU) rm_X6_value (gP E (mws E mk mo mm mt mv mx mp mtd mf ms md mdd mn mst mpl mbb ma me mb mba mpg mdi mbl mby mw mz mso mbo mco mcd ml mr) [.ref (ea E 0), .int v1, .int v2]) (gQ E (mws E mk mo mm mt mv mx mp mtd mf ms md mdd mn mst mpl mbb ma me mb mba mpg mdi mbl mby mw mz mso mbo mco mcd ml mr) (some (.long rr))) 0 0 E.2.2.1 := by
  refine met_of (y := yX6_value) (own := RX6) (lo := [some (.ref (ea E 0)), some (.int v1), some (.int v2)]) (by decide) rfl rfl rfl (fun κ hl hC => ?_)
  subst hl
  unfold p_X6_value at h
  refine g_aload_n (pc' := 1) (i := 0) hC dX6_value_0 rfl rfl rfl ?_
  refine g_iload_n (pc' := 2) (i := 1) hC dX6_value_1 rfl rfl rfl ?_
  refine g_iload_n (pc' := 3) (i := 2) hC dX6_value_2 rfl rfl rfl ?_
  obtain ⟨a_1, hc_2, h⟩ := bd1_some h
  refine g_callV (pc' := 6) hC (c_X6_isValue _ hc_2) ml_X6_92 (rc_M) (by decide) rfl rfl rfl rfl dX6_value_3 rfl ?_
  refine g_if_eq (pc' := 9) (tgt := 39) hC dX6_value_6 (by decide) rfl h (fun h => ?_) (fun h => ?_)
  · refine g_lconst (pc' := 40) (v := (lN 0)) hC dX6_value_39 (by decide) rfl ?_
    obtain rfl := inj1 h; exact g_lret hC dX6_value_40
  · refine g_aload_n (pc' := 10) (i := 0) hC dX6_value_9 rfl rfl rfl ?_
    refine gf_X6_20 (pc' := 13) hC dX6_value_10 rfl ?_
    refine g_sipush (pc' := 16) (v := (nI 200)) hC dX6_value_13 (by decide) rfl ?_
    refine g_iload_n (pc' := 17) (i := 1) hC dX6_value_16 rfl rfl rfl ?_
    refine g_imul (pc' := 18) hC dX6_value_17 rfl ?_
    refine g_iload_n (pc' := 19) (i := 2) hC dX6_value_18 rfl rfl rfl ?_
    refine g_iadd (pc' := 20) hC dX6_value_19 rfl ?_
    obtain ⟨g_3, h⟩ := gd_some h
    refine ld_mt (pc' := 21) hC g_3 dX6_value_20 rfl ?_
    refine g_if_eq (pc' := 24) (tgt := 39) hC dX6_value_21 (by decide) rfl h (fun h => ?_) (fun h => ?_)
    · refine g_lconst (pc' := 40) (v := (lN 0)) hC dX6_value_39 (by decide) rfl ?_
      obtain rfl := inj1 h; exact g_lret hC dX6_value_40
    · refine g_aload_n (pc' := 25) (i := 0) hC dX6_value_24 rfl rfl rfl ?_
      refine gf_X6_23 (pc' := 28) hC dX6_value_25 rfl ?_
      refine g_sipush (pc' := 31) (v := (nI 200)) hC dX6_value_28 (by decide) rfl ?_
      refine g_iload_n (pc' := 32) (i := 1) hC dX6_value_31 rfl rfl rfl ?_
      refine g_imul (pc' := 33) hC dX6_value_32 rfl ?_
      refine g_iload_n (pc' := 34) (i := 2) hC dX6_value_33 rfl rfl rfl ?_
      refine g_iadd (pc' := 35) hC dX6_value_34 rfl ?_
      obtain ⟨g_4, h⟩ := gd_some h
      refine ld_mv (pc' := 36) hC g_4 dX6_value_35 rfl ?_
      refine g_goto (tgt := 40) hC dX6_value_36 (by decide) ?_
      obtain rfl := inj1 h; exact g_lret hC dX6_value_40
set_option maxRecDepth 200000 in
theorem w_X6_letter_J62 {κ : GK} {E : GE} {rr : Int32} {v1 : Int32} {v2 : Int32} {v3 : Int32} {s0 : Int32}  (hC : gC κ E cX6_letter RX6 (some .int) rm_X6_letter 5)   (h : p_X6_letter_J62 v1 v2 v3 s0 mx = some rr) : GG κ E (mws E mk mo mm mt mv mx mp mtd mf ms md mdd mn mst mpl mbb ma me mb mba mpg mdi mbl mby mw mz mso mbo mco mcd ml mr, some (.int rr)) (mws E mk mo mm mt mv mx mp mtd mf ms md mdd mn mst mpl mbb ma me mb mba mpg mdi mbl mby mw mz mso mbo mco mcd ml mr) 62 [some (.ref (ea E 0)), some (.int v1), some (.int v2), some (.int v3), none] [.int s0] := by
  unfold p_X6_letter_J62 at h
  refine g_istore (pc' := 64) (i := 4) (lo' := [some (.ref (ea E 0)), some (.int v1), some (.int v2), some (.int v3), some (.int s0)]) hC dX6_letter_62 rfl rfl rfl rfl ?_
  refine g_iload (pc' := 66) (i := 4) hC dX6_letter_64 rfl rfl ?_
  refine g_if_eq (pc' := 69) (tgt := 93) hC dX6_letter_66 (by decide) rfl h (fun h => ?_) (fun h => ?_)
  · refine g_iconst (pc' := 94) (v := (-1 : Int32)) hC dX6_letter_93 (by decide) rfl ?_
    obtain rfl := inj1 h; exact g_iret hC dX6_letter_94
  · refine g_aload_n (pc' := 70) (i := 0) hC dX6_letter_69 rfl rfl rfl ?_
    refine gf_X6_28 (pc' := 73) hC dX6_letter_70 rfl ?_
    refine g_bipush (pc' := 75) (v := (nI 40)) hC dX6_letter_73 (by decide) rfl ?_
    refine g_sipush (pc' := 78) (v := (nI 200)) hC dX6_letter_75 (by decide) rfl ?_
    refine g_iload_n (pc' := 79) (i := 1) hC dX6_letter_78 rfl rfl rfl ?_
    refine g_imul (pc' := 80) hC dX6_letter_79 rfl ?_
    refine g_iload_n (pc' := 81) (i := 2) hC dX6_letter_80 rfl rfl rfl ?_
    refine g_iadd (pc' := 82) hC dX6_letter_81 rfl ?_
    refine g_imul (pc' := 83) hC dX6_letter_82 rfl ?_
    refine g_iload_n (pc' := 84) (i := 3) hC dX6_letter_83 rfl rfl rfl ?_
    refine g_iadd (pc' := 85) hC dX6_letter_84 rfl ?_
    obtain ⟨g_3, h⟩ := gd_some h
    refine ld_mx (pc' := 86) hC g_3 dX6_letter_85 rfl ?_
    refine g_sipush (pc' := 89) (v := (nI 255)) hC dX6_letter_86 (by decide) rfl ?_
    refine g_iand (pc' := 90) hC dX6_letter_89 rfl ?_
    refine g_goto (tgt := 94) hC dX6_letter_90 (by decide) ?_
    obtain rfl := inj1 h; exact g_iret hC dX6_letter_94
set_option maxRecDepth 200000 in
theorem w_X6_letter_J61 {κ : GK} {E : GE} {rr : Int32} {v1 : Int32} {v2 : Int32} {v3 : Int32}  (hC : gC κ E cX6_letter RX6 (some .int) rm_X6_letter 5)   (h : p_X6_letter_J61 v1 v2 v3 mx = some rr) : GG κ E (mws E mk mo mm mt mv mx mp mtd mf ms md mdd mn mst mpl mbb ma me mb mba mpg mdi mbl mby mw mz mso mbo mco mcd ml mr, some (.int rr)) (mws E mk mo mm mt mv mx mp mtd mf ms md mdd mn mst mpl mbb ma me mb mba mpg mdi mbl mby mw mz mso mbo mco mcd ml mr) 61 [some (.ref (ea E 0)), some (.int v1), some (.int v2), some (.int v3), none] [] := by
  unfold p_X6_letter_J61 at h
  refine g_iconst (pc' := 62) (v := (nI 0)) hC dX6_letter_61 (by decide) rfl ?_
  exact w_X6_letter_J62 hC   h
set_option maxRecDepth 200000 in
theorem c_X6_letter (l : Launch) {E : GE} {rr : Int32} {v1 : Int32} {v2 : Int32} {v3 : Int32}  (h : p_X6_letter v1 v2 v3 mk mm mt mv mx = some rr) : Met l yX6_letter (.code yX6_letter cX6_letter 5 (some .int) :: gU) rm_X6_letter (gP E (mws E mk mo mm mt mv mx mp mtd mf ms md mdd mn mst mpl mbb ma me mb mba mpg mdi mbl mby mw mz mso mbo mco mcd ml mr) [.ref (ea E 0), .int v1, .int v2, .int v3]) (gQ E (mws E mk mo mm mt mv mx mp mtd mf ms md mdd mn mst mpl mbb ma me mb mba mpg mdi mbl mby mw mz mso mbo mco mcd ml mr) (some (.int rr))) 0 0 E.2.2.1 := by
  refine met_of (y := yX6_letter) (own := RX6) (lo := [some (.ref (ea E 0)), some (.int v1), some (.int v2), some (.int v3), none]) (by decide) rfl rfl rfl (fun κ hl hC => ?_)
  subst hl
  unfold p_X6_letter at h
  refine g_aload_n (pc' := 1) (i := 0) hC dX6_letter_0 rfl rfl rfl ?_
  refine g_iload_n (pc' := 2) (i := 1) hC dX6_letter_1 rfl rfl rfl ?_
  refine g_iload_n (pc' := 3) (i := 2) hC dX6_letter_2 rfl rfl rfl ?_
  obtain ⟨a_1, hc_2, h⟩ := bd1_some h
  refine g_callV (pc' := 6) hC (c_X6_isValue _ hc_2) ml_X6_92 (rc_M) (by decide) rfl rfl rfl rfl dX6_letter_3 rfl ?_
  refine g_if_eq (pc' := 9) (tgt := 61) hC dX6_letter_6 (by decide) rfl h (fun h => ?_) (fun h => ?_)
  · exact w_X6_letter_J61 hC   h
  · refine g_aload_n (pc' := 10) (i := 0) hC dX6_letter_9 rfl rfl rfl ?_
    refine gf_X6_7 (pc' := 13) hC dX6_letter_10 rfl ?_
    refine g_iload_n (pc' := 14) (i := 1) hC dX6_letter_13 rfl rfl rfl ?_
    obtain ⟨g_4, h⟩ := gd_some h
    refine ld_mk (pc' := 15) hC g_4 dX6_letter_14 rfl ?_
    refine g_iconst (pc' := 16) (v := (nI 2)) hC dX6_letter_15 (by decide) rfl ?_
    refine g_icmp_ne (pc' := 19) (tgt := 61) hC dX6_letter_16 (by decide) rfl h (fun h => ?_) (fun h => ?_)
    · refine g_aload_n (pc' := 20) (i := 0) hC dX6_letter_19 rfl rfl rfl ?_
      refine gf_X6_20 (pc' := 23) hC dX6_letter_20 rfl ?_
      refine g_sipush (pc' := 26) (v := (nI 200)) hC dX6_letter_23 (by decide) rfl ?_
      refine g_iload_n (pc' := 27) (i := 1) hC dX6_letter_26 rfl rfl rfl ?_
      refine g_imul (pc' := 28) hC dX6_letter_27 rfl ?_
      refine g_iload_n (pc' := 29) (i := 2) hC dX6_letter_28 rfl rfl rfl ?_
      refine g_iadd (pc' := 30) hC dX6_letter_29 rfl ?_
      obtain ⟨g_5, h⟩ := gd_some h
      refine ld_mt (pc' := 31) hC g_5 dX6_letter_30 rfl ?_
      refine g_if_eq (pc' := 34) (tgt := 61) hC dX6_letter_31 (by decide) rfl h (fun h => ?_) (fun h => ?_)
      · exact w_X6_letter_J61 hC   h
      · refine g_iload_n (pc' := 35) (i := 3) hC dX6_letter_34 rfl rfl rfl ?_
        refine g_i2l (pc' := 36) hC dX6_letter_35 rfl ?_
        refine g_lconst (pc' := 37) (v := (lN 0)) hC dX6_letter_36 (by decide) rfl ?_
        refine g_aload_n (pc' := 38) (i := 0) hC dX6_letter_37 rfl rfl rfl ?_
        refine gf_X6_23 (pc' := 41) hC dX6_letter_38 rfl ?_
        refine g_sipush (pc' := 44) (v := (nI 200)) hC dX6_letter_41 (by decide) rfl ?_
        refine g_iload_n (pc' := 45) (i := 1) hC dX6_letter_44 rfl rfl rfl ?_
        refine g_imul (pc' := 46) hC dX6_letter_45 rfl ?_
        refine g_iload_n (pc' := 47) (i := 2) hC dX6_letter_46 rfl rfl rfl ?_
        refine g_iadd (pc' := 48) hC dX6_letter_47 rfl ?_
        obtain ⟨g_6, h⟩ := gd_some h
        refine ld_mv (pc' := 49) hC g_6 dX6_letter_48 rfl ?_
        refine g_lconst (pc' := 50) (v := (lN 1)) hC dX6_letter_49 (by decide) rfl ?_
        refine g_lsub (pc' := 51) hC dX6_letter_50 rfl ?_
        obtain ⟨a_7, hc_8, h⟩ := bd1_some h
        refine g_callS (pc' := 54) hC (c_X6_in _ hc_8) ml_X6_62  (by decide) rfl rfl rfl dX6_letter_51 rfl ?_
        refine g_if_eq (pc' := 57) (tgt := 61) hC dX6_letter_54 (by decide) rfl h (fun h => ?_) (fun h => ?_)
        · exact w_X6_letter_J61 hC   h
        · refine g_iconst (pc' := 58) (v := (nI 1)) hC dX6_letter_57 (by decide) rfl ?_
          refine g_goto (tgt := 62) hC dX6_letter_58 (by decide) ?_
          exact w_X6_letter_J62 hC   h
    · exact w_X6_letter_J61 hC   h
set_option maxRecDepth 200000 in
theorem w_X6_alike_L55 {κ : GK} {E : GE} {rr : Int32} {v1 : Int32} {v2 : Int32} {k97 : Int32 → Option (Int32)} (hC : gC κ E cX6_alike RX6 (some .int) rm_X6_alike 5)  (hk97 : ∀ (v3 : Int32), k97 v3 = some rr → GG κ E (mws E mk mo mm mt mv mx mp mtd mf ms md mdd mn mst mpl mbb ma me mb mba mpg mdi mbl mby mw mz mso mbo mco mcd ml mr, some (.int rr)) (mws E mk mo mm mt mv mx mp mtd mf ms md mdd mn mst mpl mbb ma me mb mba mpg mdi mbl mby mw mz mso mbo mco mcd ml mr) 97 [none, none, none, some (.int v3), none] []) : ∀ (n : Nat) (v3 : Int32) (v4 : Int32), itr2 (p_X6_alike_L55 v1 v2 mm mt mv mx k97) n v3 v4 = some rr → GG κ E (mws E mk mo mm mt mv mx mp mtd mf ms md mdd mn mst mpl mbb ma me mb mba mpg mdi mbl mby mw mz mso mbo mco mcd ml mr, some (.int rr)) (mws E mk mo mm mt mv mx mp mtd mf ms md mdd mn mst mpl mbb ma me mb mba mpg mdi mbl mby mw mz mso mbo mco mcd ml mr) 55 [some (.ref (ea E 0)), some (.int v1), some (.int v2), some (.int v3), some (.int v4)] [] :=
  itr2_ind (fun k55 hk55 v3 v4 h => by
    unfold p_X6_alike_L55 at h
    refine g_iload (pc' := 57) (i := 4) hC dX6_alike_55 rfl rfl ?_
    refine g_aload_n (pc' := 58) (i := 0) hC dX6_alike_57 rfl rfl rfl ?_
    refine gf_X6_17 (pc' := 61) hC dX6_alike_58 rfl ?_
    refine g_iload_n (pc' := 62) (i := 1) hC dX6_alike_61 rfl rfl rfl ?_
    obtain ⟨g_9, h⟩ := gd_some h
    refine ld_mm (pc' := 63) hC g_9 dX6_alike_62 rfl ?_
    refine g_icmp_ge (pc' := 66) (tgt := 97) hC dX6_alike_63 (by decide) rfl h (fun h => ?_) (fun h => ?_)
    · refine g_iload_n (pc' := 67) (i := 3) hC dX6_alike_66 rfl rfl rfl ?_
      refine g_if_eq (pc' := 70) (tgt := 97) hC dX6_alike_67 (by decide) rfl h (fun h => ?_) (fun h => ?_)
      · refine g_weak (lo' := [none, none, none, some (.int v3), none]) rfl ?_
        exact hk97 _ h
      · refine g_aload_n (pc' := 71) (i := 0) hC dX6_alike_70 rfl rfl rfl ?_
        refine g_sipush (pc' := 74) (v := (nI 200)) hC dX6_alike_71 (by decide) rfl ?_
        refine g_iload_n (pc' := 75) (i := 1) hC dX6_alike_74 rfl rfl rfl ?_
        refine g_imul (pc' := 76) hC dX6_alike_75 rfl ?_
        refine g_iload (pc' := 78) (i := 4) hC dX6_alike_76 rfl rfl ?_
        refine g_iadd (pc' := 79) hC dX6_alike_78 rfl ?_
        refine g_sipush (pc' := 82) (v := (nI 200)) hC dX6_alike_79 (by decide) rfl ?_
        refine g_iload_n (pc' := 83) (i := 2) hC dX6_alike_82 rfl rfl rfl ?_
        refine g_imul (pc' := 84) hC dX6_alike_83 rfl ?_
        refine g_iload (pc' := 86) (i := 4) hC dX6_alike_84 rfl rfl ?_
        refine g_iadd (pc' := 87) hC dX6_alike_86 rfl ?_
        obtain ⟨a_10, hc_11, h⟩ := bd1_some h
        refine g_callV (pc' := 90) hC (c_X6_areLike _ hc_11) ml_X6_88 (rc_M) (by decide) rfl rfl rfl rfl dX6_alike_87 rfl ?_
        refine g_istore_n (pc' := 91) (i := 3) (lo' := [some (.ref (ea E 0)), some (.int v1), some (.int v2), some (.int a_10), some (.int v4)]) hC dX6_alike_90 rfl rfl rfl rfl rfl ?_
        refine g_iinc (pc' := 94) (i := 4) (x := v4) (k := (nI 1)) (lo' := [some (.ref (ea E 0)), some (.int v1), some (.int v2), some (.int a_10), some (.int (v4 + (nI 1)))]) hC dX6_alike_91 rfl (by decide) rfl rfl rfl rfl ?_
        refine g_goto (tgt := 55) hC dX6_alike_94 (by decide) ?_
        exact hk55 _ _ h
    · refine g_weak (lo' := [none, none, none, some (.int v3), none]) rfl ?_
      exact hk97 _ h)
set_option maxRecDepth 200000 in
theorem w_X6_alike_J97 {κ : GK} {E : GE} {rr : Int32} {v3 : Int32}  (hC : gC κ E cX6_alike RX6 (some .int) rm_X6_alike 5)   (h : p_X6_alike_J97 v3 = some rr) : GG κ E (mws E mk mo mm mt mv mx mp mtd mf ms md mdd mn mst mpl mbb ma me mb mba mpg mdi mbl mby mw mz mso mbo mco mcd ml mr, some (.int rr)) (mws E mk mo mm mt mv mx mp mtd mf ms md mdd mn mst mpl mbb ma me mb mba mpg mdi mbl mby mw mz mso mbo mco mcd ml mr) 97 [none, none, none, some (.int v3), none] [] := by
  unfold p_X6_alike_J97 at h
  refine g_iload_n (pc' := 98) (i := 3) hC dX6_alike_97 rfl rfl rfl ?_
  refine g_if_eq (pc' := 101) (tgt := 105) hC dX6_alike_98 (by decide) rfl h (fun h => ?_) (fun h => ?_)
  · refine g_iconst (pc' := 106) (v := (nI 0)) hC dX6_alike_105 (by decide) rfl ?_
    obtain rfl := inj1 h; exact g_iret hC dX6_alike_106
  · refine g_iconst (pc' := 102) (v := (nI 1)) hC dX6_alike_101 (by decide) rfl ?_
    refine g_goto (tgt := 106) hC dX6_alike_102 (by decide) ?_
    obtain rfl := inj1 h; exact g_iret hC dX6_alike_106
set_option maxRecDepth 200000 in
theorem c_X6_alike (l : Launch) {E : GE} {rr : Int32} {v1 : Int32} {v2 : Int32}  (h : p_X6_alike v1 v2 mk mm mt mv mx = some rr) : Met l yX6_alike (.code yX6_alike cX6_alike 5 (some .int) :: gU) rm_X6_alike (gP E (mws E mk mo mm mt mv mx mp mtd mf ms md mdd mn mst mpl mbb ma me mb mba mpg mdi mbl mby mw mz mso mbo mco mcd ml mr) [.ref (ea E 0), .int v1, .int v2]) (gQ E (mws E mk mo mm mt mv mx mp mtd mf ms md mdd mn mst mpl mbb ma me mb mba mpg mdi mbl mby mw mz mso mbo mco mcd ml mr) (some (.int rr))) 0 0 E.2.2.1 := by
  refine met_of (y := yX6_alike) (own := RX6) (lo := [some (.ref (ea E 0)), some (.int v1), some (.int v2), none, none]) (by decide) rfl rfl rfl (fun κ hl hC => ?_)
  subst hl
  unfold p_X6_alike at h
  refine g_iload_n (pc' := 1) (i := 1) hC dX6_alike_0 rfl rfl rfl ?_
  obtain ⟨a_1, hc_2, h⟩ := bd1_some h
  refine g_callS (pc' := 4) hC (c_X6_isColumn _ hc_2) ml_X6_66  (by decide) rfl rfl rfl dX6_alike_1 rfl ?_
  refine g_if_eq (pc' := 7) (tgt := 14) hC dX6_alike_4 (by decide) rfl h (fun h => ?_) (fun h => ?_)
  · refine g_iconst (pc' := 15) (v := (-1 : Int32)) hC dX6_alike_14 (by decide) rfl ?_
    obtain rfl := inj1 h; exact g_iret hC dX6_alike_15
  · refine g_iload_n (pc' := 8) (i := 2) hC dX6_alike_7 rfl rfl rfl ?_
    obtain ⟨a_3, hc_4, h⟩ := bd1_some h
    refine g_callS (pc' := 11) hC (c_X6_isColumn _ hc_4) ml_X6_66  (by decide) rfl rfl rfl dX6_alike_8 rfl ?_
    refine g_if_ne (pc' := 14) (tgt := 16) hC dX6_alike_11 (by decide) rfl h (fun h => ?_) (fun h => ?_)
    · refine g_iconst (pc' := 15) (v := (-1 : Int32)) hC dX6_alike_14 (by decide) rfl ?_
      obtain rfl := inj1 h; exact g_iret hC dX6_alike_15
    · refine g_aload_n (pc' := 17) (i := 0) hC dX6_alike_16 rfl rfl rfl ?_
      refine gf_X6_7 (pc' := 20) hC dX6_alike_17 rfl ?_
      refine g_iload_n (pc' := 21) (i := 1) hC dX6_alike_20 rfl rfl rfl ?_
      obtain ⟨g_5, h⟩ := gd_some h
      refine ld_mk (pc' := 22) hC g_5 dX6_alike_21 rfl ?_
      refine g_aload_n (pc' := 23) (i := 0) hC dX6_alike_22 rfl rfl rfl ?_
      refine gf_X6_7 (pc' := 26) hC dX6_alike_23 rfl ?_
      refine g_iload_n (pc' := 27) (i := 2) hC dX6_alike_26 rfl rfl rfl ?_
      obtain ⟨g_6, h⟩ := gd_some h
      refine ld_mk (pc' := 28) hC g_6 dX6_alike_27 rfl ?_
      refine g_icmp_ne (pc' := 31) (tgt := 50) hC dX6_alike_28 (by decide) rfl h (fun h => ?_) (fun h => ?_)
      · refine g_aload_n (pc' := 32) (i := 0) hC dX6_alike_31 rfl rfl rfl ?_
        refine gf_X6_17 (pc' := 35) hC dX6_alike_32 rfl ?_
        refine g_iload_n (pc' := 36) (i := 1) hC dX6_alike_35 rfl rfl rfl ?_
        obtain ⟨g_7, h⟩ := gd_some h
        refine ld_mm (pc' := 37) hC g_7 dX6_alike_36 rfl ?_
        refine g_aload_n (pc' := 38) (i := 0) hC dX6_alike_37 rfl rfl rfl ?_
        refine gf_X6_17 (pc' := 41) hC dX6_alike_38 rfl ?_
        refine g_iload_n (pc' := 42) (i := 2) hC dX6_alike_41 rfl rfl rfl ?_
        obtain ⟨g_8, h⟩ := gd_some h
        refine ld_mm (pc' := 43) hC g_8 dX6_alike_42 rfl ?_
        refine g_icmp_ne (pc' := 46) (tgt := 50) hC dX6_alike_43 (by decide) rfl h (fun h => ?_) (fun h => ?_)
        · refine g_iconst (pc' := 47) (v := (nI 1)) hC dX6_alike_46 (by decide) rfl ?_
          refine g_goto (tgt := 51) hC dX6_alike_47 (by decide) ?_
          refine g_istore_n (pc' := 52) (i := 3) (lo' := [some (.ref (ea E 0)), some (.int v1), some (.int v2), some (.int (nI 1)), none]) hC dX6_alike_51 rfl rfl rfl rfl rfl ?_
          refine g_iconst (pc' := 53) (v := (nI 0)) hC dX6_alike_52 (by decide) rfl ?_
          refine g_istore (pc' := 55) (i := 4) (lo' := [some (.ref (ea E 0)), some (.int v1), some (.int v2), some (.int (nI 1)), some (.int (nI 0))]) hC dX6_alike_53 rfl rfl rfl rfl ?_
          refine w_X6_alike_L55 hC  ?_ _ _ _ h
          · intro v3_12 h
            exact w_X6_alike_J97 hC   h
        · refine g_iconst (pc' := 51) (v := (nI 0)) hC dX6_alike_50 (by decide) rfl ?_
          refine g_istore_n (pc' := 52) (i := 3) (lo' := [some (.ref (ea E 0)), some (.int v1), some (.int v2), some (.int (nI 0)), none]) hC dX6_alike_51 rfl rfl rfl rfl rfl ?_
          refine g_iconst (pc' := 53) (v := (nI 0)) hC dX6_alike_52 (by decide) rfl ?_
          refine g_istore (pc' := 55) (i := 4) (lo' := [some (.ref (ea E 0)), some (.int v1), some (.int v2), some (.int (nI 0)), some (.int (nI 0))]) hC dX6_alike_53 rfl rfl rfl rfl ?_
          refine w_X6_alike_L55 hC  ?_ _ _ _ h
          · intro v3_13 h
            exact w_X6_alike_J97 hC   h
      · refine g_iconst (pc' := 51) (v := (nI 0)) hC dX6_alike_50 (by decide) rfl ?_
        refine g_istore_n (pc' := 52) (i := 3) (lo' := [some (.ref (ea E 0)), some (.int v1), some (.int v2), some (.int (nI 0)), none]) hC dX6_alike_51 rfl rfl rfl rfl rfl ?_
        refine g_iconst (pc' := 53) (v := (nI 0)) hC dX6_alike_52 (by decide) rfl ?_
        refine g_istore (pc' := 55) (i := 4) (lo' := [some (.ref (ea E 0)), some (.int v1), some (.int v2), some (.int (nI 0)), some (.int (nI 0))]) hC dX6_alike_53 rfl rfl rfl rfl ?_
        refine w_X6_alike_L55 hC  ?_ _ _ _ h
        · intro v3_14 h
          exact w_X6_alike_J97 hC   h
set_option maxRecDepth 200000 in
theorem c_X6_byteTo (l : Launch) {E : GE} {mdz : Nat → Int32} {mddz : Int32} {v1 : Int32}  (h : p_X6_byteTo v1 md mdd = some (mdz, mddz)) : Met l yX6_byteTo (.code yX6_byteTo cX6_byteTo 2 none :: gU) rm_X6_byteTo (gP E (mws E mk mo mm mt mv mx mp mtd mf ms md mdd mn mst mpl mbb ma me mb mba mpg mdi mbl mby mw mz mso mbo mco mcd ml mr) [.ref (ea E 0), .int v1]) (gQ E (mws E mk mo mm mt mv mx mp mtd mf ms mdz mddz mn mst mpl mbb ma me mb mba mpg mdi mbl mby mw mz mso mbo mco mcd ml mr) none) 0 0 E.2.2.1 := by
  refine met_of (y := yX6_byteTo) (own := RX6) (lo := [some (.ref (ea E 0)), some (.int v1)]) (by decide) rfl rfl rfl (fun κ hl hC => ?_)
  subst hl
  unfold p_X6_byteTo at h
  refine g_aload_n (pc' := 1) (i := 0) hC dX6_byteTo_0 rfl rfl rfl ?_
  refine gf_X6_39 (pc' := 4) hC dX6_byteTo_1 rfl ?_
  refine g_aload_n (pc' := 5) (i := 0) hC dX6_byteTo_4 rfl rfl rfl ?_
  refine gf_X6_95 (pc' := 8) hC dX6_byteTo_5 rfl ?_
  refine g_iload_n (pc' := 9) (i := 1) hC dX6_byteTo_8 rfl rfl rfl ?_
  refine g_i2b (pc' := 10) hC dX6_byteTo_9 rfl ?_
  obtain ⟨g_1, h⟩ := gd_some h
  refine st_mdb (pc' := 11) hC g_1 dX6_byteTo_10 rfl ?_
  refine g_aload_n (pc' := 12) (i := 0) hC dX6_byteTo_11 rfl rfl rfl ?_
  refine g_dup (pc' := 13) hC dX6_byteTo_12 rfl rfl ?_
  refine gf_X6_95 (pc' := 16) hC dX6_byteTo_13 rfl ?_
  refine g_iconst (pc' := 17) (v := (nI 1)) hC dX6_byteTo_16 (by decide) rfl ?_
  refine g_iadd (pc' := 18) hC dX6_byteTo_17 rfl ?_
  refine pf_X6_95 (pc' := 21) hC dX6_byteTo_18 rfl ?_
  obtain ⟨rfl, rfl⟩ := inj2 h; exact g_vret hC dX6_byteTo_21
set_option maxRecDepth 200000 in
theorem w_X6_bytesTo_L3 {κ : GK} {E : GE} {mdz : Nat → Int32} {mddz : Int32} {v1 : Int64} {v3 : Int32}  (hC : gC κ E cX6_bytesTo RX6 none rm_X6_bytesTo 5)   : ∀ (n : Nat) (v4 : Int32) (md : Nat → Int32) (mdd : Int32), itr3 (p_X6_bytesTo_L3 v1 v3) n v4 md mdd = some (mdz, mddz) → GG κ E (mws E mk mo mm mt mv mx mp mtd mf ms mdz mddz mn mst mpl mbb ma me mb mba mpg mdi mbl mby mw mz mso mbo mco mcd ml mr, none) (mws E mk mo mm mt mv mx mp mtd mf ms md mdd mn mst mpl mbb ma me mb mba mpg mdi mbl mby mw mz mso mbo mco mcd ml mr) 3 [some (.ref (ea E 0)), some (.long v1), none, some (.int v3), some (.int v4)] [] :=
  itr3_ind (fun k3 hk3 v4 md mdd h => by
    unfold p_X6_bytesTo_L3 at h
    refine g_iload (pc' := 5) (i := 4) hC dX6_bytesTo_3 rfl rfl ?_
    refine g_iload_n (pc' := 6) (i := 3) hC dX6_bytesTo_5 rfl rfl rfl ?_
    refine g_icmp_ge (pc' := 9) (tgt := 27) hC dX6_bytesTo_6 (by decide) rfl h (fun h => ?_) (fun h => ?_)
    · refine g_aload_n (pc' := 10) (i := 0) hC dX6_bytesTo_9 rfl rfl rfl ?_
      refine g_lload_n (pc' := 11) (i := 1) hC dX6_bytesTo_10 rfl rfl rfl ?_
      refine g_bipush (pc' := 13) (v := (nI 8)) hC dX6_bytesTo_11 (by decide) rfl ?_
      refine g_iload (pc' := 15) (i := 4) hC dX6_bytesTo_13 rfl rfl ?_
      refine g_imul (pc' := 16) hC dX6_bytesTo_15 rfl ?_
      refine g_lshr (pc' := 17) hC dX6_bytesTo_16 rfl ?_
      refine g_l2i (pc' := 18) hC dX6_bytesTo_17 rfl ?_
      obtain ⟨md_1, mdd_2, hc_3, h⟩ := bd2_some h
      refine g_callV (pc' := 21) hC (c_X6_byteTo _ hc_3) ml_X6_98 (rc_M) (by decide) rfl rfl rfl rfl dX6_bytesTo_18 rfl ?_
      refine g_iinc (pc' := 24) (i := 4) (x := v4) (k := (nI 1)) (lo' := [some (.ref (ea E 0)), some (.long v1), none, some (.int v3), some (.int (v4 + (nI 1)))]) hC dX6_bytesTo_21 rfl (by decide) rfl rfl rfl rfl ?_
      refine g_goto (tgt := 3) hC dX6_bytesTo_24 (by decide) ?_
      exact hk3 _ _ _ h
    · obtain ⟨rfl, rfl⟩ := inj2 h; exact g_vret hC dX6_bytesTo_27)
set_option maxRecDepth 200000 in
theorem c_X6_bytesTo (l : Launch) {E : GE} {mdz : Nat → Int32} {mddz : Int32} {v1 : Int64} {v3 : Int32}  (h : p_X6_bytesTo v1 v3 md mdd = some (mdz, mddz)) : Met l yX6_bytesTo (.code yX6_bytesTo cX6_bytesTo 5 none :: gU) rm_X6_bytesTo (gP E (mws E mk mo mm mt mv mx mp mtd mf ms md mdd mn mst mpl mbb ma me mb mba mpg mdi mbl mby mw mz mso mbo mco mcd ml mr) [.ref (ea E 0), .long v1, .int v3]) (gQ E (mws E mk mo mm mt mv mx mp mtd mf ms mdz mddz mn mst mpl mbb ma me mb mba mpg mdi mbl mby mw mz mso mbo mco mcd ml mr) none) 0 0 E.2.2.1 := by
  refine met_of (y := yX6_bytesTo) (own := RX6) (lo := [some (.ref (ea E 0)), some (.long v1), none, some (.int v3), none]) (by decide) rfl rfl rfl (fun κ hl hC => ?_)
  subst hl
  unfold p_X6_bytesTo at h
  refine g_iconst (pc' := 1) (v := (nI 0)) hC dX6_bytesTo_0 (by decide) rfl ?_
  refine g_istore (pc' := 3) (i := 4) (lo' := [some (.ref (ea E 0)), some (.long v1), none, some (.int v3), some (.int (nI 0))]) hC dX6_bytesTo_1 rfl rfl rfl rfl ?_
  refine w_X6_bytesTo_L3 hC   _ _ _ _ h
set_option maxRecDepth 200000 in
theorem w_X6_var_L2 {κ : GK} {E : GE} {mdz : Nat → Int32} {mddz : Int32}   (hC : gC κ E cX6_var RX6 none rm_X6_var 5)   : ∀ (n : Nat) (v3 : Int64) (md : Nat → Int32) (mdd : Int32), itr3 (p_X6_var_L2 ) n v3 md mdd = some (mdz, mddz) → GG κ E (mws E mk mo mm mt mv mx mp mtd mf ms mdz mddz mn mst mpl mbb ma me mb mba mpg mdi mbl mby mw mz mso mbo mco mcd ml mr, none) (mws E mk mo mm mt mv mx mp mtd mf ms md mdd mn mst mpl mbb ma me mb mba mpg mdi mbl mby mw mz mso mbo mco mcd ml mr) 2 [some (.ref (ea E 0)), none, none, some (.long v3), none] [] :=
  itr3_ind (fun k2 hk2 v3 md mdd h => by
    unfold p_X6_var_L2 at h
    refine g_lload_n (pc' := 3) (i := 3) hC dX6_var_2 rfl rfl rfl ?_
    refine g_ldc2_w (pc' := 6) (v := (-128 : Int64)) hC u_17 dX6_var_3 rfl ?_
    refine g_land (pc' := 7) hC dX6_var_6 rfl ?_
    refine g_lconst (pc' := 8) (v := (lN 0)) hC dX6_var_7 (by decide) rfl ?_
    refine g_lcmp_eq (pc' := 12) (tgt := 34) hC dX6_var_8 dX6_var_9 rfl (by decide) rfl h (fun h => ?_) (fun h => ?_)
    · refine g_aload_n (pc' := 35) (i := 0) hC dX6_var_34 rfl rfl rfl ?_
      refine g_lload_n (pc' := 36) (i := 3) hC dX6_var_35 rfl rfl rfl ?_
      refine g_l2i (pc' := 37) hC dX6_var_36 rfl ?_
      obtain ⟨md_1, mdd_2, hc_3, h⟩ := bd2_some h
      refine g_callV (pc' := 40) hC (c_X6_byteTo _ hc_3) ml_X6_98 (rc_M) (by decide) rfl rfl rfl rfl dX6_var_37 rfl ?_
      obtain ⟨rfl, rfl⟩ := inj2 h; exact g_vret hC dX6_var_40
    · refine g_aload_n (pc' := 13) (i := 0) hC dX6_var_12 rfl rfl rfl ?_
      refine g_lload_n (pc' := 14) (i := 3) hC dX6_var_13 rfl rfl rfl ?_
      refine g_ldc2_w (pc' := 17) (v := (lN 127)) hC u_18 dX6_var_14 rfl ?_
      refine g_land (pc' := 18) hC dX6_var_17 rfl ?_
      refine g_l2i (pc' := 19) hC dX6_var_18 rfl ?_
      refine g_sipush (pc' := 22) (v := (nI 128)) hC dX6_var_19 (by decide) rfl ?_
      refine g_ior (pc' := 23) hC dX6_var_22 rfl ?_
      obtain ⟨md_4, mdd_5, hc_6, h⟩ := bd2_some h
      refine g_callV (pc' := 26) hC (c_X6_byteTo _ hc_6) ml_X6_98 (rc_M) (by decide) rfl rfl rfl rfl dX6_var_23 rfl ?_
      refine g_lload_n (pc' := 27) (i := 3) hC dX6_var_26 rfl rfl rfl ?_
      refine g_bipush (pc' := 29) (v := (nI 7)) hC dX6_var_27 (by decide) rfl ?_
      refine g_lushr (pc' := 30) hC dX6_var_29 rfl ?_
      refine g_lstore_n (pc' := 31) (i := 3) (lo' := [some (.ref (ea E 0)), none, none, some (.long (lushr v3 (nI 7))), none]) hC dX6_var_30 rfl rfl rfl rfl rfl ?_
      refine g_goto (tgt := 2) hC dX6_var_31 (by decide) ?_
      exact hk2 _ _ _ h)
set_option maxRecDepth 200000 in
theorem c_X6_var (l : Launch) {E : GE} {mdz : Nat → Int32} {mddz : Int32} {v1 : Int64}  (h : p_X6_var v1 md mdd = some (mdz, mddz)) : Met l yX6_var (.code yX6_var cX6_var 5 none :: gU) rm_X6_var (gP E (mws E mk mo mm mt mv mx mp mtd mf ms md mdd mn mst mpl mbb ma me mb mba mpg mdi mbl mby mw mz mso mbo mco mcd ml mr) [.ref (ea E 0), .long v1]) (gQ E (mws E mk mo mm mt mv mx mp mtd mf ms mdz mddz mn mst mpl mbb ma me mb mba mpg mdi mbl mby mw mz mso mbo mco mcd ml mr) none) 0 0 E.2.2.1 := by
  refine met_of (y := yX6_var) (own := RX6) (lo := [some (.ref (ea E 0)), some (.long v1), none, none, none]) (by decide) rfl rfl rfl (fun κ hl hC => ?_)
  subst hl
  unfold p_X6_var at h
  refine g_lload_n (pc' := 1) (i := 1) hC dX6_var_0 rfl rfl rfl ?_
  refine g_lstore_n (pc' := 2) (i := 3) (lo' := [some (.ref (ea E 0)), some (.long v1), none, some (.long v1), none]) hC dX6_var_1 rfl rfl rfl rfl rfl ?_
  refine g_weak (lo' := [some (.ref (ea E 0)), none, none, some (.long v1), none]) rfl ?_
  refine w_X6_var_L2 hC   _ _ _ _ h
set_option maxRecDepth 200000 in
theorem c_X6_zig (l : Launch) {E : GE} {mdz : Nat → Int32} {mddz : Int32} {v1 : Int64}  (h : p_X6_zig v1 md mdd = some (mdz, mddz)) : Met l yX6_zig (.code yX6_zig cX6_zig 3 none :: gU) rm_X6_zig (gP E (mws E mk mo mm mt mv mx mp mtd mf ms md mdd mn mst mpl mbb ma me mb mba mpg mdi mbl mby mw mz mso mbo mco mcd ml mr) [.ref (ea E 0), .long v1]) (gQ E (mws E mk mo mm mt mv mx mp mtd mf ms mdz mddz mn mst mpl mbb ma me mb mba mpg mdi mbl mby mw mz mso mbo mco mcd ml mr) none) 0 0 E.2.2.1 := by
  refine met_of (y := yX6_zig) (own := RX6) (lo := [some (.ref (ea E 0)), some (.long v1), none]) (by decide) rfl rfl rfl (fun κ hl hC => ?_)
  subst hl
  unfold p_X6_zig at h
  refine g_aload_n (pc' := 1) (i := 0) hC dX6_zig_0 rfl rfl rfl ?_
  refine g_lload_n (pc' := 2) (i := 1) hC dX6_zig_1 rfl rfl rfl ?_
  refine g_iconst (pc' := 3) (v := (nI 1)) hC dX6_zig_2 (by decide) rfl ?_
  refine g_lshl (pc' := 4) hC dX6_zig_3 rfl ?_
  refine g_lload_n (pc' := 5) (i := 1) hC dX6_zig_4 rfl rfl rfl ?_
  refine g_bipush (pc' := 7) (v := (nI 63)) hC dX6_zig_5 (by decide) rfl ?_
  refine g_lshr (pc' := 8) hC dX6_zig_7 rfl ?_
  refine g_lxor (pc' := 9) hC dX6_zig_8 rfl ?_
  obtain ⟨md_1, mdd_2, hc_3, h⟩ := bd2_some h
  refine g_callV (pc' := 12) hC (c_X6_var _ hc_3) ml_X6_106 (rc_M) (by decide) rfl rfl rfl rfl dX6_zig_9 rfl ?_
  obtain ⟨rfl, rfl⟩ := inj2 h; exact g_vret hC dX6_zig_12
end WALK
