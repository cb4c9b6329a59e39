section WALK
variable {xk : Nat → Int32} {xo : Nat → Int32} {xc : Nat → Int32} {xt : Nat → Nat → Int32} {xn : Nat → Nat → Int64} {xl : Nat → Nat → Int32} {rc : Nat → Int32} {rv : Nat → Int32} {rb : Nat → Nat → Int32} {la : Nat → Nat → Int64} {wch : Nat → Int32} {wcc : Int32} {wpl : Nat → Int32} {wun : Int32} {srow : Option Nat} {ssp : Int32} {sen : Int32} {str : Int32} {stp : Int32} {swd : Nat → Int32} {rwp : Int32} {rdr : Int32} {rpd : Int32} {rpv : Int32} {rpc : Int32} {rzp : Int32}
set_option maxRecDepth 200000 in
theorem w_X1_readOwnRuns_J45 {κ : GK} {E : GE} {laz : Nat → Nat → Int64} {sspz : Int32} {senz : Int32} {strz : Int32} {stpz : Int32} {v1 : Nat} {v2 : Int32} {v3 : Int32} {v4 : Int32} {s1 : Int32}  (hC : gC κ E cX1_readOwnRuns RX1 none rm_X1_readOwnRuns 6) (hv1 : v1 < 3)  (h : p_X1_readOwnRuns_J45 v1 v2 v3 v4 s1 rb la srow ssp sen str stp = some (laz, sspz, senz, strz, stpz)) : GG κ E (xws E xk xo xc xt xn xl rc rv rb laz wch wcc wpl wun srow sspz senz strz stpz swd rwp rdr rpd rpv rpc rzp, none) (xws E xk xo xc xt xn xl rc rv rb la wch wcc wpl wun srow ssp sen str stp swd rwp rdr rpd rpv rpc rzp) 45 [some (.ref (ea E 42)), some (.ref (ea E (32 + v1))), some (.int v2), some (.int v3), some (.int v4), none] [.int s1, .ref (ea E 40)] := by
  unfold p_X1_readOwnRuns_J45 at h
  refine g_bipush (pc' := 47) (v := (nI 10)) hC dX1_readOwnRuns_45 (by decide) rfl ?_
  refine g_iload_n (pc' := 48) (i := 3) hC dX1_readOwnRuns_47 rfl rfl rfl ?_
  obtain ⟨str_6, stp_7, hc_8, h⟩ := bd2_some h
  refine g_callV (pc' := 51) hC (c_X4_demand _ hc_8) ml_X1_96 (rc_Src) (by decide) rfl rfl rfl rfl dX1_readOwnRuns_48 rfl ?_
  refine g_aload_n (pc' := 52) (i := 0) hC dX1_readOwnRuns_51 rfl rfl rfl ?_
  refine gf_X1_12 (pc' := 55) hC dX1_readOwnRuns_52 rfl ?_
  obtain ⟨a_9, hc_10, h⟩ := bd1_some h
  refine g_callV (pc' := 58) hC (c_X4_isSound _ hc_10) ml_X1_50 (rc_Src) (by decide) rfl rfl rfl rfl dX1_readOwnRuns_55 rfl ?_
  refine g_if_ne (pc' := 61) (tgt := 62) hC dX1_readOwnRuns_58 (by decide) rfl h (fun h => ?_) (fun h => ?_)
  · obtain ⟨rfl, rfl, rfl, rfl, rfl⟩ := inj5 h; exact g_vret hC dX1_readOwnRuns_61
  · refine g_aload_n (pc' := 63) (i := 0) hC dX1_readOwnRuns_62 rfl rfl rfl ?_
    refine gf_X1_12 (pc' := 66) hC dX1_readOwnRuns_63 rfl ?_
    refine gf_X1_78 (pc' := 69) hC dX1_readOwnRuns_66 rfl ?_
    refine g_istore (pc' := 71) (i := 5) (lo' := [some (.ref (ea E 42)), some (.ref (ea E (32 + v1))), some (.int v2), some (.int v3), some (.int v4), some (.int sen)]) hC dX1_readOwnRuns_69 rfl rfl rfl rfl ?_
    refine g_aload_n (pc' := 72) (i := 0) hC dX1_readOwnRuns_71 rfl rfl rfl ?_
    refine gf_X1_12 (pc' := 75) hC dX1_readOwnRuns_72 rfl ?_
    refine g_aload_n (pc' := 76) (i := 0) hC dX1_readOwnRuns_75 rfl rfl rfl ?_
    refine gf_X1_12 (pc' := 79) hC dX1_readOwnRuns_76 rfl ?_
    refine gf_X1_81 (pc' := 82) hC dX1_readOwnRuns_79 rfl ?_
    refine g_iload (pc' := 84) (i := 4) hC dX1_readOwnRuns_82 rfl rfl ?_
    refine g_iadd (pc' := 85) hC dX1_readOwnRuns_84 rfl ?_
    refine pf_X1_78 (pc' := 88) hC dX1_readOwnRuns_85 rfl ?_
    refine g_aload_n (pc' := 89) (i := 0) hC dX1_readOwnRuns_88 rfl rfl rfl ?_
    refine gf_X1_12 (pc' := 92) hC dX1_readOwnRuns_89 rfl ?_
    refine g_aload_n (pc' := 93) (i := 1) hC dX1_readOwnRuns_92 rfl rfl rfl ?_
    refine g_iload_n (pc' := 94) (i := 2) hC dX1_readOwnRuns_93 rfl rfl rfl ?_
    refine g_iconst (pc' := 95) (v := (nI 1)) hC dX1_readOwnRuns_94 (by decide) rfl ?_
    obtain ⟨la_11, ssp_12, str_13, stp_14, hc_15, h⟩ := bd4_some h
    refine g_callV (pc' := 98) hC (c_X4_nextRuns _ hv1 hc_15) ml_X1_166 (rc_Src) (by decide) rfl rfl rfl rfl dX1_readOwnRuns_95 rfl ?_
    refine g_aload_n (pc' := 99) (i := 0) hC dX1_readOwnRuns_98 rfl rfl rfl ?_
    refine gf_X1_12 (pc' := 102) hC dX1_readOwnRuns_99 rfl ?_
    obtain ⟨str_16, stp_17, hc_18, h⟩ := bd2_some h
    refine g_callV (pc' := 105) hC (c_X4_demandNothingLeft _ hc_18) ml_X1_70 (rc_Src) (by decide) rfl rfl rfl rfl dX1_readOwnRuns_102 rfl ?_
    refine g_aload_n (pc' := 106) (i := 0) hC dX1_readOwnRuns_105 rfl rfl rfl ?_
    refine gf_X1_12 (pc' := 109) hC dX1_readOwnRuns_106 rfl ?_
    refine g_iload (pc' := 111) (i := 5) hC dX1_readOwnRuns_109 rfl rfl ?_
    refine pf_X1_78 (pc' := 114) hC dX1_readOwnRuns_111 rfl ?_
    obtain ⟨rfl, rfl, rfl, rfl, rfl⟩ := inj5 h; exact g_vret hC dX1_readOwnRuns_114
set_option maxRecDepth 200000 in
theorem w_X1_readOwnRuns_J44 {κ : GK} {E : GE} {laz : Nat → Nat → Int64} {sspz : Int32} {senz : Int32} {strz : Int32} {stpz : Int32} {v1 : Nat} {v2 : Int32} {v3 : Int32} {v4 : Int32}  (hC : gC κ E cX1_readOwnRuns RX1 none rm_X1_readOwnRuns 6) (hv1 : v1 < 3)  (h : p_X1_readOwnRuns_J44 v1 v2 v3 v4 rb la srow ssp sen str stp = some (laz, sspz, senz, strz, stpz)) : GG κ E (xws E xk xo xc xt xn xl rc rv rb laz wch wcc wpl wun srow sspz senz strz stpz swd rwp rdr rpd rpv rpc rzp, none) (xws E xk xo xc xt xn xl rc rv rb la wch wcc wpl wun srow ssp sen str stp swd rwp rdr rpd rpv rpc rzp) 44 [some (.ref (ea E 42)), some (.ref (ea E (32 + v1))), some (.int v2), some (.int v3), some (.int v4), none] [.ref (ea E 40)] := by
  unfold p_X1_readOwnRuns_J44 at h
  refine g_iconst (pc' := 45) (v := (nI 0)) hC dX1_readOwnRuns_44 (by decide) rfl ?_
  exact w_X1_readOwnRuns_J45 hC hv1  h
set_option maxRecDepth 200000 in
theorem c_X1_readOwnRuns (l : Launch) {E : GE} {laz : Nat → Nat → Int64} {sspz : Int32} {senz : Int32} {strz : Int32} {stpz : Int32} {v1 : Nat} {v2 : Int32} (hv1 : v1 < 3) (h : p_X1_readOwnRuns v1 v2 rb la srow ssp sen str stp = some (laz, sspz, senz, strz, stpz)) : Met l yX1_readOwnRuns (.code yX1_readOwnRuns cX1_readOwnRuns 6 none :: gU) rm_X1_readOwnRuns (gP E (xws E xk xo xc xt xn xl rc rv rb la wch wcc wpl wun srow ssp sen str stp swd rwp rdr rpd rpv rpc rzp) [.ref (ea E 42), .ref (ea E (32 + v1)), .int v2]) (gQ E (xws E xk xo xc xt xn xl rc rv rb laz wch wcc wpl wun srow sspz senz strz stpz swd rwp rdr rpd rpv rpc rzp) none) 0 0 E.2.2.1 := by
  refine met_of (y := yX1_readOwnRuns) (own := RX1) (lo := [some (.ref (ea E 42)), some (.ref (ea E (32 + v1))), some (.int v2), none, none, none]) (by decide) rfl rfl rfl (fun κ hl hC => ?_)
  subst hl
  unfold p_X1_readOwnRuns at h
  refine g_aload_n (pc' := 1) (i := 0) hC dX1_readOwnRuns_0 rfl rfl rfl ?_
  refine gf_X1_12 (pc' := 4) hC dX1_readOwnRuns_1 rfl ?_
  refine gf_X1_81 (pc' := 7) hC dX1_readOwnRuns_4 rfl ?_
  refine g_istore_n (pc' := 8) (i := 3) (lo' := [some (.ref (ea E 42)), some (.ref (ea E (32 + v1))), some (.int v2), some (.int ssp), none, none]) hC dX1_readOwnRuns_7 rfl rfl rfl rfl rfl ?_
  refine g_aload_n (pc' := 9) (i := 0) hC dX1_readOwnRuns_8 rfl rfl rfl ?_
  refine gf_X1_12 (pc' := 12) hC dX1_readOwnRuns_9 rfl ?_
  refine g_iconst (pc' := 13) (v := (nI 4)) hC dX1_readOwnRuns_12 (by decide) rfl ?_
  obtain ⟨a_1, ssp_2, str_3, stp_4, hc_5, h⟩ := bd4_some h
  refine g_callV (pc' := 16) hC (c_X4_nextLittle _ hc_5) ml_X1_162 (rc_Src) (by decide) rfl rfl rfl rfl dX1_readOwnRuns_13 rfl ?_
  refine g_l2i (pc' := 17) hC dX1_readOwnRuns_16 rfl ?_
  refine g_istore (pc' := 19) (i := 4) (lo' := [some (.ref (ea E 42)), some (.ref (ea E (32 + v1))), some (.int v2), some (.int ssp), some (.int (l2i a_1)), none]) hC dX1_readOwnRuns_17 rfl rfl rfl rfl ?_
  refine g_aload_n (pc' := 20) (i := 0) hC dX1_readOwnRuns_19 rfl rfl rfl ?_
  refine gf_X1_12 (pc' := 23) hC dX1_readOwnRuns_20 rfl ?_
  refine g_iload (pc' := 25) (i := 4) hC dX1_readOwnRuns_23 rfl rfl ?_
  refine g_if_lt (pc' := 28) (tgt := 44) hC dX1_readOwnRuns_25 (by decide) rfl h (fun h => ?_) (fun h => ?_)
  · exact w_X1_readOwnRuns_J44 hC hv1  h
  · refine g_iload (pc' := 30) (i := 4) hC dX1_readOwnRuns_28 rfl rfl ?_
    refine g_aload_n (pc' := 31) (i := 0) hC dX1_readOwnRuns_30 rfl rfl rfl ?_
    refine gf_X1_12 (pc' := 34) hC dX1_readOwnRuns_31 rfl ?_
    obtain ⟨a_19, hc_20, h⟩ := bd1_some h
    refine g_callV (pc' := 37) hC (c_X4_left _ hc_20) ml_X1_54 (rc_Src) (by decide) rfl rfl rfl rfl dX1_readOwnRuns_34 rfl ?_
    refine g_icmp_gt (pc' := 40) (tgt := 44) hC dX1_readOwnRuns_37 (by decide) rfl h (fun h => ?_) (fun h => ?_)
    · exact w_X1_readOwnRuns_J44 hC hv1  h
    · refine g_iconst (pc' := 41) (v := (nI 1)) hC dX1_readOwnRuns_40 (by decide) rfl ?_
      refine g_goto (tgt := 45) hC dX1_readOwnRuns_41 (by decide) ?_
      exact w_X1_readOwnRuns_J45 hC hv1  h
set_option maxRecDepth 200000 in
theorem w_X1_readPlaces_L62 {κ : GK} {E : GE} {xcz : Nat → Int32} {xtz : Nat → Nat → Int32} {xnz : Nat → Nat → Int64} {xlz : Nat → Nat → Int32} {laz : Nat → Nat → Int64} {sspz : Int32} {strz : Int32} {stpz : Int32} {v1 : Int32} {v4 : Int32} {k119 : Int32 → Int32 → Option ((Nat → Int32) × (Nat → Nat → Int32) × (Nat → Nat → Int64) × (Nat → Nat → Int32) × (Nat → Nat → Int64) × Int32 × Int32 × Int32)} (hC : gC κ E cX1_readPlaces RX1 none rm_X1_readPlaces 6)  (hk119 : ∀ (str : Int32) (stp : Int32), k119 str stp = some (xcz, xtz, xnz, xlz, laz, sspz, strz, stpz) → GG κ E (xws E xk xo xcz xtz xnz xlz rc rv rb laz wch wcc wpl wun srow sspz sen strz stpz swd rwp rdr rpd rpv rpc rzp, none) (xws E xk xo xc xt xn xl rc rv rb la wch wcc wpl wun srow ssp sen str stp swd rwp rdr rpd rpv rpc rzp) 119 [some (.ref (ea E 42)), some (.int v1), none, none, none, none] []) : ∀ (n : Nat) (v5 : Int32) (str : Int32) (stp : Int32), itr3 (p_X1_readPlaces_L62 v1 v4 xc la k119) n v5 str stp = some (xcz, xtz, xnz, xlz, laz, sspz, strz, stpz) → GG κ E (xws E xk xo xcz xtz xnz xlz rc rv rb laz wch wcc wpl wun srow sspz sen strz stpz swd rwp rdr rpd rpv rpc rzp, none) (xws E xk xo xc xt xn xl rc rv rb la wch wcc wpl wun srow ssp sen str stp swd rwp rdr rpd rpv rpc rzp) 62 [some (.ref (ea E 42)), some (.int v1), none, none, some (.int v4), some (.int v5)] [] :=
  itr3_ind (fun k62 hk62 v5 str stp h => by
    unfold p_X1_readPlaces_L62 at h
    refine g_iload (pc' := 64) (i := 5) hC dX1_readPlaces_62 rfl rfl ?_
    refine g_iload_n (pc' := 65) (i := 1) hC dX1_readPlaces_64 rfl rfl rfl ?_
    refine g_icmp_ge (pc' := 68) (tgt := 119) hC dX1_readPlaces_65 (by decide) rfl h (fun h => ?_) (fun h => ?_)
    · refine g_iload (pc' := 70) (i := 5) hC dX1_readPlaces_68 rfl rfl ?_
      refine g_aload_n (pc' := 71) (i := 0) hC dX1_readPlaces_70 rfl rfl rfl ?_
      refine gf_X1_32 (pc' := 74) hC dX1_readPlaces_71 rfl ?_
      refine al_la (pc' := 75) hC (by decide) dX1_readPlaces_74 rfl ?_
      refine g_icmp_ge (pc' := 78) (tgt := 119) hC dX1_readPlaces_75 (by decide) rfl h (fun h => ?_) (fun h => ?_)
      · refine g_aload_n (pc' := 79) (i := 0) hC dX1_readPlaces_78 rfl rfl rfl ?_
        refine gf_X1_12 (pc' := 82) hC dX1_readPlaces_79 rfl ?_
        refine g_aload_n (pc' := 83) (i := 0) hC dX1_readPlaces_82 rfl rfl rfl ?_
        refine gf_X1_32 (pc' := 86) hC dX1_readPlaces_83 rfl ?_
        refine g_iload (pc' := 88) (i := 5) hC dX1_readPlaces_86 rfl rfl ?_
        obtain ⟨g_14, h⟩ := gd_some h
        refine ld_la (pc' := 89) hC (by decide) g_14 dX1_readPlaces_88 rfl ?_
        refine g_aload_n (pc' := 90) (i := 0) hC dX1_readPlaces_89 rfl rfl rfl ?_
        refine gf_X1_25 (pc' := 93) hC dX1_readPlaces_90 rfl ?_
        refine gf_X1_104 (pc' := 96) hC (by decide) dX1_readPlaces_93 rfl ?_
        refine g_i2l (pc' := 97) hC dX1_readPlaces_96 rfl ?_
        refine g_lcmp_ge (pc' := 101) (tgt := 105) hC dX1_readPlaces_97 dX1_readPlaces_98 rfl (by decide) rfl h (fun h => ?_) (fun h => ?_)
        · refine g_iconst (pc' := 102) (v := (nI 1)) hC dX1_readPlaces_101 (by decide) rfl ?_
          refine g_goto (tgt := 106) hC dX1_readPlaces_102 (by decide) ?_
          refine g_bipush (pc' := 108) (v := (nI 12)) hC dX1_readPlaces_106 (by decide) rfl ?_
          refine g_iload (pc' := 110) (i := 4) hC dX1_readPlaces_108 rfl rfl ?_
          obtain ⟨str_15, stp_16, hc_17, h⟩ := bd2_some h
          refine g_callV (pc' := 113) hC (c_X4_demand _ hc_17) ml_X1_96 (rc_Src) (by decide) rfl rfl rfl rfl dX1_readPlaces_110 rfl ?_
          refine g_iinc (pc' := 116) (i := 5) (x := v5) (k := (nI 1)) (lo' := [some (.ref (ea E 42)), some (.int v1), none, none, some (.int v4), some (.int (v5 + (nI 1)))]) hC dX1_readPlaces_113 rfl (by decide) rfl rfl rfl rfl ?_
          refine g_goto (tgt := 62) hC dX1_readPlaces_116 (by decide) ?_
          exact hk62 _ _ _ h
        · refine g_iconst (pc' := 106) (v := (nI 0)) hC dX1_readPlaces_105 (by decide) rfl ?_
          refine g_bipush (pc' := 108) (v := (nI 12)) hC dX1_readPlaces_106 (by decide) rfl ?_
          refine g_iload (pc' := 110) (i := 4) hC dX1_readPlaces_108 rfl rfl ?_
          obtain ⟨str_18, stp_19, hc_20, h⟩ := bd2_some h
          refine g_callV (pc' := 113) hC (c_X4_demand _ hc_20) ml_X1_96 (rc_Src) (by decide) rfl rfl rfl rfl dX1_readPlaces_110 rfl ?_
          refine g_iinc (pc' := 116) (i := 5) (x := v5) (k := (nI 1)) (lo' := [some (.ref (ea E 42)), some (.int v1), none, none, some (.int v4), some (.int (v5 + (nI 1)))]) hC dX1_readPlaces_113 rfl (by decide) rfl rfl rfl rfl ?_
          refine g_goto (tgt := 62) hC dX1_readPlaces_116 (by decide) ?_
          exact hk62 _ _ _ h
      · refine g_weak (lo' := [some (.ref (ea E 42)), some (.int v1), none, none, none, none]) rfl ?_
        exact hk119 _ _ h
    · refine g_weak (lo' := [some (.ref (ea E 42)), some (.int v1), none, none, none, none]) rfl ?_
      exact hk119 _ _ h)
set_option maxRecDepth 200000 in
theorem w_X1_readPlaces_L122 {κ : GK} {E : GE} {xcz : Nat → Int32} {xtz : Nat → Nat → Int32} {xnz : Nat → Nat → Int64} {xlz : Nat → Nat → Int32} {laz : Nat → Nat → Int64} {sspz : Int32} {strz : Int32} {stpz : Int32} {v1 : Int32}  (hC : gC κ E cX1_readPlaces RX1 none rm_X1_readPlaces 6)   : ∀ (n : Nat) (v5 : Int32) (xc : Nat → Int32) (xt : Nat → Nat → Int32) (xn : Nat → Nat → Int64) (xl : Nat → Nat → Int32), itr5 (p_X1_readPlaces_L122 v1 xk la ssp str stp) n v5 xc xt xn xl = some (xcz, xtz, xnz, xlz, laz, sspz, strz, stpz) → GG κ E (xws E xk xo xcz xtz xnz xlz rc rv rb laz wch wcc wpl wun srow sspz sen strz stpz swd rwp rdr rpd rpv rpc rzp, none) (xws E xk xo xc xt xn xl rc rv rb la wch wcc wpl wun srow ssp sen str stp swd rwp rdr rpd rpv rpc rzp) 122 [some (.ref (ea E 42)), some (.int v1), none, none, none, some (.int v5)] [] :=
  itr5_ind (fun k122 hk122 v5 xc xt xn xl h => by
    unfold p_X1_readPlaces_L122 at h
    refine g_iload (pc' := 124) (i := 5) hC dX1_readPlaces_122 rfl rfl ?_
    refine g_iload_n (pc' := 125) (i := 1) hC dX1_readPlaces_124 rfl rfl rfl ?_
    refine g_icmp_ge (pc' := 128) (tgt := 173) hC dX1_readPlaces_125 (by decide) rfl h (fun h => ?_) (fun h => ?_)
    · refine g_iload (pc' := 130) (i := 5) hC dX1_readPlaces_128 rfl rfl ?_
      refine g_aload_n (pc' := 131) (i := 0) hC dX1_readPlaces_130 rfl rfl rfl ?_
      refine gf_X1_32 (pc' := 134) hC dX1_readPlaces_131 rfl ?_
      refine al_la (pc' := 135) hC (by decide) dX1_readPlaces_134 rfl ?_
      refine g_icmp_ge (pc' := 138) (tgt := 173) hC dX1_readPlaces_135 (by decide) rfl h (fun h => ?_) (fun h => ?_)
      · refine g_aload_n (pc' := 139) (i := 0) hC dX1_readPlaces_138 rfl rfl rfl ?_
        refine gf_X1_12 (pc' := 142) hC dX1_readPlaces_139 rfl ?_
        obtain ⟨a_23, hc_24, h⟩ := bd1_some h
        refine g_callV (pc' := 145) hC (c_X4_isSound _ hc_24) ml_X1_50 (rc_Src) (by decide) rfl rfl rfl rfl dX1_readPlaces_142 rfl ?_
        refine g_if_eq (pc' := 148) (tgt := 173) hC dX1_readPlaces_145 (by decide) rfl h (fun h => ?_) (fun h => ?_)
        · obtain ⟨rfl, rfl, rfl, rfl, rfl, rfl, rfl, rfl⟩ := inj8 h; exact g_vret hC dX1_readPlaces_173
        · refine g_aload_n (pc' := 149) (i := 0) hC dX1_readPlaces_148 rfl rfl rfl ?_
          refine gf_X1_21 (pc' := 152) hC dX1_readPlaces_149 rfl ?_
          refine g_aload_n (pc' := 153) (i := 0) hC dX1_readPlaces_152 rfl rfl rfl ?_
          refine gf_X1_25 (pc' := 156) hC dX1_readPlaces_153 rfl ?_
          refine g_aload_n (pc' := 157) (i := 0) hC dX1_readPlaces_156 rfl rfl rfl ?_
          refine gf_X1_32 (pc' := 160) hC dX1_readPlaces_157 rfl ?_
          refine g_iload (pc' := 162) (i := 5) hC dX1_readPlaces_160 rfl rfl ?_
          obtain ⟨g_25, h⟩ := gd_some h
          refine ld_la (pc' := 163) hC (by decide) g_25 dX1_readPlaces_162 rfl ?_
          refine g_l2i (pc' := 164) hC dX1_readPlaces_163 rfl ?_
          obtain ⟨xc_26, xt_27, xn_28, xl_29, hc_30, h⟩ := bd4_some h
          refine g_callV (pc' := 167) hC (c_X0_pushCopy _ (by decide) (by decide) hc_30) ml_X1_189 (rc_Col (by decide)) (by decide) rfl rfl rfl rfl dX1_readPlaces_164 rfl ?_
          refine g_iinc (pc' := 170) (i := 5) (x := v5) (k := (nI 1)) (lo' := [some (.ref (ea E 42)), some (.int v1), none, none, none, some (.int (v5 + (nI 1)))]) hC dX1_readPlaces_167 rfl (by decide) rfl rfl rfl rfl ?_
          refine g_goto (tgt := 122) hC dX1_readPlaces_170 (by decide) ?_
          exact hk122 _ _ _ _ _ h
      · obtain ⟨rfl, rfl, rfl, rfl, rfl, rfl, rfl, rfl⟩ := inj8 h; exact g_vret hC dX1_readPlaces_173
    · obtain ⟨rfl, rfl, rfl, rfl, rfl, rfl, rfl, rfl⟩ := inj8 h; exact g_vret hC dX1_readPlaces_173)
set_option maxRecDepth 200000 in
theorem w_X1_readPlaces_J31 {κ : GK} {E : GE} {xcz : Nat → Int32} {xtz : Nat → Nat → Int32} {xnz : Nat → Nat → Int64} {xlz : Nat → Nat → Int32} {laz : Nat → Nat → Int64} {sspz : Int32} {strz : Int32} {stpz : Int32} {v1 : Int32} {v2 : Int32} {v3 : Int32} {s1 : Int32}  (hC : gC κ E cX1_readPlaces RX1 none rm_X1_readPlaces 6)   (h : p_X1_readPlaces_J31 v1 v2 v3 s1 xk xc xt xn xl rb la srow ssp sen str stp = some (xcz, xtz, xnz, xlz, laz, sspz, strz, stpz)) : GG κ E (xws E xk xo xcz xtz xnz xlz rc rv rb laz wch wcc wpl wun srow sspz sen strz stpz swd rwp rdr rpd rpv rpc rzp, none) (xws E xk xo xc xt xn xl rc rv rb la wch wcc wpl wun srow ssp sen str stp swd rwp rdr rpd rpv rpc rzp) 31 [some (.ref (ea E 42)), some (.int v1), some (.int v2), some (.int v3), none, none] [.int s1, .ref (ea E 40)] := by
  unfold p_X1_readPlaces_J31 at h
  refine g_bipush (pc' := 33) (v := (nI 11)) hC dX1_readPlaces_31 (by decide) rfl ?_
  refine g_iload_n (pc' := 34) (i := 2) hC dX1_readPlaces_33 rfl rfl rfl ?_
  obtain ⟨str_6, stp_7, hc_8, h⟩ := bd2_some h
  refine g_callV (pc' := 37) hC (c_X4_demand _ hc_8) ml_X1_96 (rc_Src) (by decide) rfl rfl rfl rfl dX1_readPlaces_34 rfl ?_
  refine g_aload_n (pc' := 38) (i := 0) hC dX1_readPlaces_37 rfl rfl rfl ?_
  refine gf_X1_12 (pc' := 41) hC dX1_readPlaces_38 rfl ?_
  refine gf_X1_81 (pc' := 44) hC dX1_readPlaces_41 rfl ?_
  refine g_istore (pc' := 46) (i := 4) (lo' := [some (.ref (ea E 42)), some (.int v1), some (.int v2), some (.int v3), some (.int ssp), none]) hC dX1_readPlaces_44 rfl rfl rfl rfl ?_
  refine g_aload_n (pc' := 47) (i := 0) hC dX1_readPlaces_46 rfl rfl rfl ?_
  refine gf_X1_12 (pc' := 50) hC dX1_readPlaces_47 rfl ?_
  refine g_aload_n (pc' := 51) (i := 0) hC dX1_readPlaces_50 rfl rfl rfl ?_
  refine gf_X1_32 (pc' := 54) hC dX1_readPlaces_51 rfl ?_
  refine g_iload_n (pc' := 55) (i := 1) hC dX1_readPlaces_54 rfl rfl rfl ?_
  refine g_iload_n (pc' := 56) (i := 3) hC dX1_readPlaces_55 rfl rfl rfl ?_
  obtain ⟨la_9, ssp_10, str_11, stp_12, hc_13, h⟩ := bd4_some h
  refine g_callV (pc' := 59) hC (c_X4_nextRuns _ (by decide) hc_13) ml_X1_166 (rc_Src) (by decide) rfl rfl rfl rfl dX1_readPlaces_56 rfl ?_
  refine g_iconst (pc' := 60) (v := (nI 0)) hC dX1_readPlaces_59 (by decide) rfl ?_
  refine g_istore (pc' := 62) (i := 5) (lo' := [some (.ref (ea E 42)), some (.int v1), some (.int v2), some (.int v3), some (.int ssp), some (.int (nI 0))]) hC dX1_readPlaces_60 rfl rfl rfl rfl ?_
  refine g_weak (lo' := [some (.ref (ea E 42)), some (.int v1), none, none, some (.int ssp), some (.int (nI 0))]) rfl ?_
  refine w_X1_readPlaces_L62 hC  ?_ _ _ _ _ h
  · intro str_21 stp_22 h
    refine g_iconst (pc' := 120) (v := (nI 0)) hC dX1_readPlaces_119 (by decide) rfl ?_
    refine g_istore (pc' := 122) (i := 5) (lo' := [some (.ref (ea E 42)), some (.int v1), none, none, none, some (.int (nI 0))]) hC dX1_readPlaces_120 rfl rfl rfl rfl ?_
    refine w_X1_readPlaces_L122 hC   _ _ _ _ _ _ h
set_option maxRecDepth 200000 in
theorem c_X1_readPlaces (l : Launch) {E : GE} {xcz : Nat → Int32} {xtz : Nat → Nat → Int32} {xnz : Nat → Nat → Int64} {xlz : Nat → Nat → Int32} {laz : Nat → Nat → Int64} {sspz : Int32} {strz : Int32} {stpz : Int32} {v1 : Int32}  (h : p_X1_readPlaces v1 xk xc xt xn xl rb la srow ssp sen str stp = some (xcz, xtz, xnz, xlz, laz, sspz, strz, stpz)) : Met l yX1_readPlaces (.code yX1_readPlaces cX1_readPlaces 6 none :: gU) rm_X1_readPlaces (gP E (xws E xk xo xc xt xn xl rc rv rb la wch wcc wpl wun srow ssp sen str stp swd rwp rdr rpd rpv rpc rzp) [.ref (ea E 42), .int v1]) (gQ E (xws E xk xo xcz xtz xnz xlz rc rv rb laz wch wcc wpl wun srow sspz sen strz stpz swd rwp rdr rpd rpv rpc rzp) none) 0 0 E.2.2.1 := by
  refine met_of (y := yX1_readPlaces) (own := RX1) (lo := [some (.ref (ea E 42)), some (.int v1), none, none, none, none]) (by decide) rfl rfl rfl (fun κ hl hC => ?_)
  subst hl
  unfold p_X1_readPlaces at h
  refine g_aload_n (pc' := 1) (i := 0) hC dX1_readPlaces_0 rfl rfl rfl ?_
  refine gf_X1_12 (pc' := 4) hC dX1_readPlaces_1 rfl ?_
  refine gf_X1_81 (pc' := 7) hC dX1_readPlaces_4 rfl ?_
  refine g_istore_n (pc' := 8) (i := 2) (lo' := [some (.ref (ea E 42)), some (.int v1), some (.int ssp), none, none, none]) hC dX1_readPlaces_7 rfl rfl rfl rfl rfl ?_
  refine g_aload_n (pc' := 9) (i := 0) hC dX1_readPlaces_8 rfl rfl rfl ?_
  refine gf_X1_12 (pc' := 12) hC dX1_readPlaces_9 rfl ?_
  obtain ⟨a_1, ssp_2, str_3, stp_4, hc_5, h⟩ := bd4_some h
  refine g_callV (pc' := 15) hC (c_X4_next _ hc_5) ml_X1_186 (rc_Src) (by decide) rfl rfl rfl rfl dX1_readPlaces_12 rfl ?_
  refine g_istore_n (pc' := 16) (i := 3) (lo' := [some (.ref (ea E 42)), some (.int v1), some (.int ssp), some (.int a_1), none, none]) hC dX1_readPlaces_15 rfl rfl rfl rfl rfl ?_
  refine g_aload_n (pc' := 17) (i := 0) hC dX1_readPlaces_16 rfl rfl rfl ?_
  refine gf_X1_12 (pc' := 20) hC dX1_readPlaces_17 rfl ?_
  refine g_iload_n (pc' := 21) (i := 3) hC dX1_readPlaces_20 rfl rfl rfl ?_
  refine g_bipush (pc' := 23) (v := (nI 32)) hC dX1_readPlaces_21 (by decide) rfl ?_
  refine g_icmp_gt (pc' := 26) (tgt := 30) hC dX1_readPlaces_23 (by decide) rfl h (fun h => ?_) (fun h => ?_)
  · refine g_iconst (pc' := 31) (v := (nI 0)) hC dX1_readPlaces_30 (by decide) rfl ?_
    exact w_X1_readPlaces_J31 hC   h
  · refine g_iconst (pc' := 27) (v := (nI 1)) hC dX1_readPlaces_26 (by decide) rfl ?_
    refine g_goto (tgt := 31) hC dX1_readPlaces_27 (by decide) ?_
    exact w_X1_readPlaces_J31 hC   h
set_option maxRecDepth 200000 in
theorem w_X1_readPlain_J137 {κ : GK} {E : GE} {xcz : Nat → Int32} {xtz : Nat → Nat → Int32} {xnz : Nat → Nat → Int64} {xlz : Nat → Nat → Int32} {laz : Nat → Nat → Int64} {sspz : Int32} {strz : Int32} {stpz : Int32} {v1 : Nat} {v2 : Int32} {v3 : Int32} {v4 : Int32} {v5 : Int32} {s0 : Int32} {k37 : Int32 → (Nat → Int32) → (Nat → Nat → Int32) → (Nat → Nat → Int64) → (Nat → Nat → Int32) → Int32 → Int32 → Int32 → Option ((Nat → Int32) × (Nat → Nat → Int32) × (Nat → Nat → Int64) × (Nat → Nat → Int32) × (Nat → Nat → Int64) × Int32 × Int32 × Int32)} (hC : gC κ E cX1_readPlain RX1 none rm_X1_readPlain 7) (hv1 : v1 < 6) (hk37 : ∀ (v3 : Int32) (xc : Nat → Int32) (xt : Nat → Nat → Int32) (xn : Nat → Nat → Int64) (xl : Nat → Nat → Int32) (ssp : Int32) (str : Int32) (stp : Int32), k37 v3 xc xt xn xl ssp str stp = some (xcz, xtz, xnz, xlz, laz, sspz, strz, stpz) → GG κ E (xws E xk xo xcz xtz xnz xlz rc rv rb laz wch wcc wpl wun srow sspz sen strz stpz swd rwp rdr rpd rpv rpc rzp, none) (xws E xk xo xc xt xn xl rc rv rb la wch wcc wpl wun srow ssp sen str stp swd rwp rdr rpd rpv rpc rzp) 37 [some (.ref (ea E 42)), some (.ref (ea E (4 * v1))), some (.int v2), some (.int v3), none, none, none] []) (h : p_X1_readPlain_J137 v1 v3 v4 v5 s0 xc xt xn xl rc rb srow ssp sen str stp k37 = some (xcz, xtz, xnz, xlz, laz, sspz, strz, stpz)) : GG κ E (xws E xk xo xcz xtz xnz xlz rc rv rb laz wch wcc wpl wun srow sspz sen strz stpz swd rwp rdr rpd rpv rpc rzp, none) (xws E xk xo xc xt xn xl rc rv rb la wch wcc wpl wun srow ssp sen str stp swd rwp rdr rpd rpv rpc rzp) 137 [some (.ref (ea E 42)), some (.ref (ea E (4 * v1))), some (.int v2), some (.int v3), some (.int v4), some (.int v5), none] [.int s0] := by
  unfold p_X1_readPlain_J137 at h
  refine g_istore (pc' := 139) (i := 6) (lo' := [some (.ref (ea E 42)), some (.ref (ea E (4 * v1))), some (.int v2), some (.int v3), some (.int v4), some (.int v5), some (.int s0)]) hC dX1_readPlain_137 rfl rfl rfl rfl ?_
  refine g_aload_n (pc' := 140) (i := 0) hC dX1_readPlain_139 rfl rfl rfl ?_
  refine gf_X1_12 (pc' := 143) hC dX1_readPlain_140 rfl ?_
  refine g_iload (pc' := 145) (i := 6) hC dX1_readPlain_143 rfl rfl ?_
  refine g_bipush (pc' := 147) (v := (nI 10)) hC dX1_readPlain_145 (by decide) rfl ?_
  refine g_iload (pc' := 149) (i := 4) hC dX1_readPlain_147 rfl rfl ?_
  obtain ⟨str_19, stp_20, hc_21, h⟩ := bd2_some h
  refine g_callV (pc' := 152) hC (c_X4_demand _ hc_21) ml_X1_96 (rc_Src) (by decide) rfl rfl rfl rfl dX1_readPlain_149 rfl ?_
  refine g_aload_n (pc' := 153) (i := 0) hC dX1_readPlain_152 rfl rfl rfl ?_
  refine gf_X1_12 (pc' := 156) hC dX1_readPlain_153 rfl ?_
  refine g_aload_n (pc' := 157) (i := 1) hC dX1_readPlain_156 rfl rfl rfl ?_
  refine g_iload (pc' := 159) (i := 5) hC dX1_readPlain_157 rfl rfl ?_
  obtain ⟨xc_22, xt_23, xn_24, xl_25, ssp_26, hc_27, h⟩ := bd5_some h
  refine g_callV (pc' := 162) hC (c_X4_nextText _ hv1 hc_27) ml_X1_181 (rc_Src) (by decide) rfl rfl rfl rfl dX1_readPlain_159 rfl ?_
  refine g_iinc (pc' := 165) (i := 3) (x := v3) (k := (nI 1)) (lo' := [some (.ref (ea E 42)), some (.ref (ea E (4 * v1))), some (.int v2), some (.int (v3 + (nI 1))), some (.int v4), some (.int v5), some (.int s0)]) hC dX1_readPlain_162 rfl (by decide) rfl rfl rfl rfl ?_
  refine g_goto (tgt := 37) hC dX1_readPlain_165 (by decide) ?_
  refine g_weak (lo' := [some (.ref (ea E 42)), some (.ref (ea E (4 * v1))), some (.int v2), some (.int (v3 + (nI 1))), none, none, none]) rfl ?_
  exact hk37 _ _ _ _ _ _ _ _ h
set_option maxRecDepth 200000 in
theorem w_X1_readPlain_J136 {κ : GK} {E : GE} {xcz : Nat → Int32} {xtz : Nat → Nat → Int32} {xnz : Nat → Nat → Int64} {xlz : Nat → Nat → Int32} {laz : Nat → Nat → Int64} {sspz : Int32} {strz : Int32} {stpz : Int32} {v1 : Nat} {v2 : Int32} {v3 : Int32} {v4 : Int32} {v5 : Int32} {k37 : Int32 → (Nat → Int32) → (Nat → Nat → Int32) → (Nat → Nat → Int64) → (Nat → Nat → Int32) → Int32 → Int32 → Int32 → Option ((Nat → Int32) × (Nat → Nat → Int32) × (Nat → Nat → Int64) × (Nat → Nat → Int32) × (Nat → Nat → Int64) × Int32 × Int32 × Int32)} (hC : gC κ E cX1_readPlain RX1 none rm_X1_readPlain 7) (hv1 : v1 < 6) (hk37 : ∀ (v3 : Int32) (xc : Nat → Int32) (xt : Nat → Nat → Int32) (xn : Nat → Nat → Int64) (xl : Nat → Nat → Int32) (ssp : Int32) (str : Int32) (stp : Int32), k37 v3 xc xt xn xl ssp str stp = some (xcz, xtz, xnz, xlz, laz, sspz, strz, stpz) → GG κ E (xws E xk xo xcz xtz xnz xlz rc rv rb laz wch wcc wpl wun srow sspz sen strz stpz swd rwp rdr rpd rpv rpc rzp, none) (xws E xk xo xc xt xn xl rc rv rb la wch wcc wpl wun srow ssp sen str stp swd rwp rdr rpd rpv rpc rzp) 37 [some (.ref (ea E 42)), some (.ref (ea E (4 * v1))), some (.int v2), some (.int v3), none, none, none] []) (h : p_X1_readPlain_J136 v1 v3 v4 v5 xc xt xn xl rc rb srow ssp sen str stp k37 = some (xcz, xtz, xnz, xlz, laz, sspz, strz, stpz)) : GG κ E (xws E xk xo xcz xtz xnz xlz rc rv rb laz wch wcc wpl wun srow sspz sen strz stpz swd rwp rdr rpd rpv rpc rzp, none) (xws E xk xo xc xt xn xl rc rv rb la wch wcc wpl wun srow ssp sen str stp swd rwp rdr rpd rpv rpc rzp) 136 [some (.ref (ea E 42)), some (.ref (ea E (4 * v1))), some (.int v2), some (.int v3), some (.int v4), some (.int v5), none] [] := by
  unfold p_X1_readPlain_J136 at h
  refine g_iconst (pc' := 137) (v := (nI 0)) hC dX1_readPlain_136 (by decide) rfl ?_
  exact w_X1_readPlain_J137 hC hv1 hk37 h
set_option maxRecDepth 200000 in
theorem w_X1_readPlain_L37 {κ : GK} {E : GE} {xcz : Nat → Int32} {xtz : Nat → Nat → Int32} {xnz : Nat → Nat → Int64} {xlz : Nat → Nat → Int32} {laz : Nat → Nat → Int64} {sspz : Int32} {strz : Int32} {stpz : Int32} {v1 : Nat} {v2 : Int32}  (hC : gC κ E cX1_readPlain RX1 none rm_X1_readPlain 7) (hv1 : v1 < 6)  : ∀ (n : Nat) (v3 : Int32) (xc : Nat → Int32) (xt : Nat → Nat → Int32) (xn : Nat → Nat → Int64) (xl : Nat → Nat → Int32) (ssp : Int32) (str : Int32) (stp : Int32), itr8 (p_X1_readPlain_L37 v1 v2 xk rc rb la srow sen) n v3 xc xt xn xl ssp str stp = some (xcz, xtz, xnz, xlz, laz, sspz, strz, stpz) → GG κ E (xws E xk xo xcz xtz xnz xlz rc rv rb laz wch wcc wpl wun srow sspz sen strz stpz swd rwp rdr rpd rpv rpc rzp, none) (xws E xk xo xc xt xn xl rc rv rb la wch wcc wpl wun srow ssp sen str stp swd rwp rdr rpd rpv rpc rzp) 37 [some (.ref (ea E 42)), some (.ref (ea E (4 * v1))), some (.int v2), some (.int v3), none, none, none] [] :=
  itr8_ind (fun k37 hk37 v3 xc xt xn xl ssp str stp h => by
    unfold p_X1_readPlain_L37 at h
    refine g_iload_n (pc' := 38) (i := 3) hC dX1_readPlain_37 rfl rfl rfl ?_
    refine g_iload_n (pc' := 39) (i := 2) hC dX1_readPlain_38 rfl rfl rfl ?_
    refine g_icmp_ge (pc' := 42) (tgt := 168) hC dX1_readPlain_39 (by decide) rfl h (fun h => ?_) (fun h => ?_)
    · refine g_aload_n (pc' := 43) (i := 0) hC dX1_readPlain_42 rfl rfl rfl ?_
      refine gf_X1_12 (pc' := 46) hC dX1_readPlain_43 rfl ?_
      obtain ⟨a_12, hc_13, h⟩ := bd1_some h
      refine g_callV (pc' := 49) hC (c_X4_isSound _ hc_13) ml_X1_50 (rc_Src) (by decide) rfl rfl rfl rfl dX1_readPlain_46 rfl ?_
      refine g_if_eq (pc' := 52) (tgt := 168) hC dX1_readPlain_49 (by decide) rfl h (fun h => ?_) (fun h => ?_)
      · obtain ⟨rfl, rfl, rfl, rfl, rfl, rfl, rfl, rfl⟩ := inj8 h; exact g_vret hC dX1_readPlain_168
      · refine g_aload_n (pc' := 53) (i := 1) hC dX1_readPlain_52 rfl rfl rfl ?_
        refine gf_X1_90 (pc' := 56) hC hv1 dX1_readPlain_53 rfl ?_
        refine g_iconst (pc' := 57) (v := (nI 2)) hC dX1_readPlain_56 (by decide) rfl ?_
        refine g_icmp_eq (pc' := 60) (tgt := 88) hC dX1_readPlain_57 (by decide) rfl h (fun h => ?_) (fun h => ?_)
        · refine g_aload_n (pc' := 89) (i := 0) hC dX1_readPlain_88 rfl rfl rfl ?_
          refine gf_X1_12 (pc' := 92) hC dX1_readPlain_89 rfl ?_
          refine gf_X1_81 (pc' := 95) hC dX1_readPlain_92 rfl ?_
          refine g_istore (pc' := 97) (i := 4) (lo' := [some (.ref (ea E 42)), some (.ref (ea E (4 * v1))), some (.int v2), some (.int v3), some (.int ssp), none, none]) hC dX1_readPlain_95 rfl rfl rfl rfl ?_
          refine g_aload_n (pc' := 98) (i := 0) hC dX1_readPlain_97 rfl rfl rfl ?_
          refine gf_X1_12 (pc' := 101) hC dX1_readPlain_98 rfl ?_
          refine g_iconst (pc' := 102) (v := (nI 4)) hC dX1_readPlain_101 (by decide) rfl ?_
          obtain ⟨a_14, ssp_15, str_16, stp_17, hc_18, h⟩ := bd4_some h
          refine g_callV (pc' := 105) hC (c_X4_nextLittle _ hc_18) ml_X1_162 (rc_Src) (by decide) rfl rfl rfl rfl dX1_readPlain_102 rfl ?_
          refine g_l2i (pc' := 106) hC dX1_readPlain_105 rfl ?_
          refine g_istore (pc' := 108) (i := 5) (lo' := [some (.ref (ea E 42)), some (.ref (ea E (4 * v1))), some (.int v2), some (.int v3), some (.int ssp), some (.int (l2i a_14)), none]) hC dX1_readPlain_106 rfl rfl rfl rfl ?_
          refine g_iload (pc' := 110) (i := 5) hC dX1_readPlain_108 rfl rfl ?_
          refine g_if_lt (pc' := 113) (tgt := 136) hC dX1_readPlain_110 (by decide) rfl h (fun h => ?_) (fun h => ?_)
          · exact w_X1_readPlain_J136 hC hv1 hk37 h
          · refine g_iload (pc' := 115) (i := 5) hC dX1_readPlain_113 rfl rfl ?_
            refine g_bipush (pc' := 117) (v := (nI 40)) hC dX1_readPlain_115 (by decide) rfl ?_
            refine g_icmp_gt (pc' := 120) (tgt := 136) hC dX1_readPlain_117 (by decide) rfl h (fun h => ?_) (fun h => ?_)
            · exact w_X1_readPlain_J136 hC hv1 hk37 h
            · refine g_iload (pc' := 122) (i := 5) hC dX1_readPlain_120 rfl rfl ?_
              refine g_aload_n (pc' := 123) (i := 0) hC dX1_readPlain_122 rfl rfl rfl ?_
              refine gf_X1_12 (pc' := 126) hC dX1_readPlain_123 rfl ?_
              obtain ⟨a_28, hc_29, h⟩ := bd1_some h
              refine g_callV (pc' := 129) hC (c_X4_left _ hc_29) ml_X1_54 (rc_Src) (by decide) rfl rfl rfl rfl dX1_readPlain_126 rfl ?_
              refine g_icmp_gt (pc' := 132) (tgt := 136) hC dX1_readPlain_129 (by decide) rfl h (fun h => ?_) (fun h => ?_)
              · exact w_X1_readPlain_J136 hC hv1 hk37 h
              · refine g_iconst (pc' := 133) (v := (nI 1)) hC dX1_readPlain_132 (by decide) rfl ?_
                refine g_goto (tgt := 137) hC dX1_readPlain_133 (by decide) ?_
                exact w_X1_readPlain_J137 hC hv1 hk37 h
        · refine g_aload_n (pc' := 61) (i := 1) hC dX1_readPlain_60 rfl rfl rfl ?_
          refine g_aload_n (pc' := 62) (i := 0) hC dX1_readPlain_61 rfl rfl rfl ?_
          refine gf_X1_12 (pc' := 65) hC dX1_readPlain_62 rfl ?_
          refine g_aload_n (pc' := 66) (i := 1) hC dX1_readPlain_65 rfl rfl rfl ?_
          refine gf_X1_90 (pc' := 69) hC hv1 dX1_readPlain_66 rfl ?_
          refine g_iconst (pc' := 70) (v := (nI 1)) hC dX1_readPlain_69 (by decide) rfl ?_
          refine g_icmp_ne (pc' := 73) (tgt := 78) hC dX1_readPlain_70 (by decide) rfl h (fun h => ?_) (fun h => ?_)
          · refine g_bipush (pc' := 75) (v := (nI 8)) hC dX1_readPlain_73 (by decide) rfl ?_
            refine g_goto (tgt := 79) hC dX1_readPlain_75 (by decide) ?_
            obtain ⟨a_30, ssp_31, str_32, stp_33, hc_34, h⟩ := bd4_some h
            refine g_callV (pc' := 82) hC (c_X4_nextLittle _ hc_34) ml_X1_162 (rc_Src) (by decide) rfl rfl rfl rfl dX1_readPlain_79 rfl ?_
            obtain ⟨xc_35, xt_36, xn_37, hc_38, h⟩ := bd3_some h
            refine g_callV (pc' := 85) hC (c_X0_pushNumber _ hv1 hc_38) ml_X1_170 (rc_Col hv1) (by decide) rfl rfl rfl rfl dX1_readPlain_82 rfl ?_
            refine g_goto (tgt := 162) hC dX1_readPlain_85 (by decide) ?_
            refine g_iinc (pc' := 165) (i := 3) (x := v3) (k := (nI 1)) (lo' := [some (.ref (ea E 42)), some (.ref (ea E (4 * v1))), some (.int v2), some (.int (v3 + (nI 1))), none, none, none]) hC dX1_readPlain_162 rfl (by decide) rfl rfl rfl rfl ?_
            refine g_goto (tgt := 37) hC dX1_readPlain_165 (by decide) ?_
            exact hk37 _ _ _ _ _ _ _ _ h
          · refine g_iconst (pc' := 79) (v := (nI 4)) hC dX1_readPlain_78 (by decide) rfl ?_
            obtain ⟨a_39, ssp_40, str_41, stp_42, hc_43, h⟩ := bd4_some h
            refine g_callV (pc' := 82) hC (c_X4_nextLittle _ hc_43) ml_X1_162 (rc_Src) (by decide) rfl rfl rfl rfl dX1_readPlain_79 rfl ?_
            obtain ⟨xc_44, xt_45, xn_46, hc_47, h⟩ := bd3_some h
            refine g_callV (pc' := 85) hC (c_X0_pushNumber _ hv1 hc_47) ml_X1_170 (rc_Col hv1) (by decide) rfl rfl rfl rfl dX1_readPlain_82 rfl ?_
            refine g_goto (tgt := 162) hC dX1_readPlain_85 (by decide) ?_
            refine g_iinc (pc' := 165) (i := 3) (x := v3) (k := (nI 1)) (lo' := [some (.ref (ea E 42)), some (.ref (ea E (4 * v1))), some (.int v2), some (.int (v3 + (nI 1))), none, none, none]) hC dX1_readPlain_162 rfl (by decide) rfl rfl rfl rfl ?_
            refine g_goto (tgt := 37) hC dX1_readPlain_165 (by decide) ?_
            exact hk37 _ _ _ _ _ _ _ _ h
    · obtain ⟨rfl, rfl, rfl, rfl, rfl, rfl, rfl, rfl⟩ := inj8 h; exact g_vret hC dX1_readPlain_168)
set_option maxRecDepth 200000 in
theorem c_X1_readPlain (l : Launch) {E : GE} {xcz : Nat → Int32} {xtz : Nat → Nat → Int32} {xnz : Nat → Nat → Int64} {xlz : Nat → Nat → Int32} {laz : Nat → Nat → Int64} {sspz : Int32} {strz : Int32} {stpz : Int32} {v1 : Nat} {v2 : Int32} (hv1 : v1 < 6) (h : p_X1_readPlain v1 v2 xk xc xt xn xl rc rb la srow ssp sen str stp = some (xcz, xtz, xnz, xlz, laz, sspz, strz, stpz)) : Met l yX1_readPlain (.code yX1_readPlain cX1_readPlain 7 none :: gU) rm_X1_readPlain (gP E (xws E xk xo xc xt xn xl rc rv rb la wch wcc wpl wun srow ssp sen str stp swd rwp rdr rpd rpv rpc rzp) [.ref (ea E 42), .ref (ea E (4 * v1)), .int v2]) (gQ E (xws E xk xo xcz xtz xnz xlz rc rv rb laz wch wcc wpl wun srow sspz sen strz stpz swd rwp rdr rpd rpv rpc rzp) none) 0 0 E.2.2.1 := by
  refine met_of (y := yX1_readPlain) (own := RX1) (lo := [some (.ref (ea E 42)), some (.ref (ea E (4 * v1))), some (.int v2), none, none, none, none]) (by decide) rfl rfl rfl (fun κ hl hC => ?_)
  subst hl
  unfold p_X1_readPlain at h
  refine g_aload_n (pc' := 1) (i := 1) hC dX1_readPlain_0 rfl rfl rfl ?_
  refine gf_X1_90 (pc' := 4) hC hv1 dX1_readPlain_1 rfl ?_
  refine g_iconst (pc' := 5) (v := (nI 3)) hC dX1_readPlain_4 (by decide) rfl ?_
  refine g_icmp_ne (pc' := 8) (tgt := 35) hC dX1_readPlain_5 (by decide) rfl h (fun h => ?_) (fun h => ?_)
  · refine g_aload_n (pc' := 9) (i := 0) hC dX1_readPlain_8 rfl rfl rfl ?_
    refine gf_X1_12 (pc' := 12) hC dX1_readPlain_9 rfl ?_
    refine g_aload_n (pc' := 13) (i := 0) hC dX1_readPlain_12 rfl rfl rfl ?_
    refine gf_X1_32 (pc' := 16) hC dX1_readPlain_13 rfl ?_
    refine g_iconst (pc' := 17) (v := (nI 0)) hC dX1_readPlain_16 (by decide) rfl ?_
    refine g_iload_n (pc' := 18) (i := 2) hC dX1_readPlain_17 rfl rfl rfl ?_
    refine g_iload_n (pc' := 19) (i := 2) hC dX1_readPlain_18 rfl rfl rfl ?_
    obtain ⟨a_1, hc_2, h⟩ := bd1_some h
    refine g_callN (pc' := 22) hC (c_X5_wholeGroups _ hc_2) ml_X1_174  (by decide) rfl rfl rfl dX1_readPlain_19 rfl ?_
    refine g_bipush (pc' := 24) (v := (nI 8)) hC dX1_readPlain_22 (by decide) rfl ?_
    refine g_imul (pc' := 25) hC dX1_readPlain_24 rfl ?_
    refine g_iconst (pc' := 26) (v := (nI 1)) hC dX1_readPlain_25 (by decide) rfl ?_
    obtain ⟨la_3, ssp_4, str_5, stp_6, hc_7, h⟩ := bd4_some h
    refine g_callV (pc' := 29) hC (c_X4_nextPacked _ (by decide) hc_7) ml_X1_177 (rc_Src) (by decide) rfl rfl rfl rfl dX1_readPlain_26 rfl ?_
    refine g_aload_n (pc' := 30) (i := 0) hC dX1_readPlain_29 rfl rfl rfl ?_
    refine g_iload_n (pc' := 31) (i := 2) hC dX1_readPlain_30 rfl rfl rfl ?_
    obtain ⟨xc_8, xt_9, xn_10, hc_11, h⟩ := bd3_some h
    refine g_callV (pc' := 34) hC (c_X1_pushNumbers _ hc_11) ml_X1_149 (rc_Rd) (by decide) rfl rfl rfl rfl dX1_readPlain_31 rfl ?_
    obtain ⟨rfl, rfl, rfl, rfl, rfl, rfl, rfl, rfl⟩ := inj8 h; exact g_vret hC dX1_readPlain_34
  · refine g_iconst (pc' := 36) (v := (nI 0)) hC dX1_readPlain_35 (by decide) rfl ?_
    refine g_istore_n (pc' := 37) (i := 3) (lo' := [some (.ref (ea E 42)), some (.ref (ea E (4 * v1))), some (.int v2), some (.int (nI 0)), none, none, none]) hC dX1_readPlain_36 rfl rfl rfl rfl rfl ?_
    refine w_X1_readPlain_L37 hC hv1  _ _ _ _ _ _ _ _ _ h
set_option maxRecDepth 200000 in
theorem w_X1_readData_J169 {κ : GK} {E : GE} {xcz : Nat → Int32} {xtz : Nat → Nat → Int32} {xnz : Nat → Nat → Int64} {xlz : Nat → Nat → Int32} {laz : Nat → Nat → Int64} {sspz : Int32} {senz : Int32} {strz : Int32} {stpz : Int32} {swdz : Nat → Int32} {v1 : Int32}  (hC : gC κ E cX1_readData RX1 none rm_X1_readData 3)   (h : p_X1_readData_J169 v1 xk xo xc xt xn xl la ssp sen str stp swd rpv = some (xcz, xtz, xnz, xlz, laz, sspz, senz, strz, stpz, swdz)) : GG κ E (xws E xk xo xcz xtz xnz xlz rc rv rb laz wch wcc wpl wun srow sspz senz strz stpz swdz rwp rdr rpd rpv rpc rzp, none) (xws E xk xo xc xt xn xl rc rv rb la wch wcc wpl wun srow ssp sen str stp swd rwp rdr rpd rpv rpc rzp) 169 [some (.ref (ea E 42)), some (.int v1), none] [] := by
  unfold p_X1_readData_J169 at h
  refine g_aload_n (pc' := 170) (i := 0) hC dX1_readData_169 rfl rfl rfl ?_
  refine gf_X1_21 (pc' := 173) hC dX1_readData_170 rfl ?_
  refine gf_X1_134 (pc' := 176) hC (by decide) dX1_readData_173 rfl ?_
  refine g_if_eq (pc' := 179) (tgt := 205) hC dX1_readData_176 (by decide) rfl h (fun h => ?_) (fun h => ?_)
  · obtain ⟨rfl, rfl, rfl, rfl, rfl, rfl, rfl, rfl, rfl, rfl⟩ := inj10 h; exact g_vret hC dX1_readData_205
  · refine g_aload_n (pc' := 180) (i := 0) hC dX1_readData_179 rfl rfl rfl ?_
    refine gf_X1_12 (pc' := 183) hC dX1_readData_180 rfl ?_
    obtain ⟨a_11, hc_12, h⟩ := bd1_some h
    refine g_callV (pc' := 186) hC (c_X4_isSound _ hc_12) ml_X1_50 (rc_Src) (by decide) rfl rfl rfl rfl dX1_readData_183 rfl ?_
    refine g_if_eq (pc' := 189) (tgt := 205) hC dX1_readData_186 (by decide) rfl h (fun h => ?_) (fun h => ?_)
    · obtain ⟨rfl, rfl, rfl, rfl, rfl, rfl, rfl, rfl, rfl, rfl⟩ := inj10 h; exact g_vret hC dX1_readData_205
    · refine g_aload_n (pc' := 190) (i := 0) hC dX1_readData_189 rfl rfl rfl ?_
      refine gf_X1_21 (pc' := 193) hC dX1_readData_190 rfl ?_
      refine g_iload_n (pc' := 194) (i := 1) hC dX1_readData_193 rfl rfl rfl ?_
      refine g_aload_n (pc' := 195) (i := 0) hC dX1_readData_194 rfl rfl rfl ?_
      refine gf_X1_109 (pc' := 198) hC dX1_readData_195 rfl ?_
      refine g_aload_n (pc' := 199) (i := 0) hC dX1_readData_198 rfl rfl rfl ?_
      refine gf_X1_28 (pc' := 202) hC dX1_readData_199 rfl ?_
      obtain ⟨xc_13, xt_14, xn_15, xl_16, hc_17, h⟩ := bd4_some h
      refine g_callV (pc' := 205) hC (c_X0_spread _ (by decide) (by decide) hc_17) ml_X1_158 (rc_Col (by decide)) (by decide) rfl rfl rfl rfl dX1_readData_202 rfl ?_
      obtain ⟨rfl, rfl, rfl, rfl, rfl, rfl, rfl, rfl, rfl, rfl⟩ := inj10 h; exact g_vret hC dX1_readData_205
set_option maxRecDepth 200000 in
theorem w_X1_readData_J128 {κ : GK} {E : GE} {xcz : Nat → Int32} {xtz : Nat → Nat → Int32} {xnz : Nat → Nat → Int64} {xlz : Nat → Nat → Int32} {laz : Nat → Nat → Int64} {sspz : Int32} {senz : Int32} {strz : Int32} {stpz : Int32} {swdz : Nat → Int32} {v1 : Int32} {v2 : Int32} {s2 : Int32} {s3 : Int32}  (hC : gC κ E cX1_readData RX1 none rm_X1_readData 3)   (h : p_X1_readData_J128 v1 v2 s2 s3 xk xo xc xt xn xl rb la srow ssp sen str stp swd rpv = some (xcz, xtz, xnz, xlz, laz, sspz, senz, strz, stpz, swdz)) : GG κ E (xws E xk xo xcz xtz xnz xlz rc rv rb laz wch wcc wpl wun srow sspz senz strz stpz swdz rwp rdr rpd rpv rpc rzp, none) (xws E xk xo xc xt xn xl rc rv rb la wch wcc wpl wun srow ssp sen str stp swd rwp rdr rpd rpv rpc rzp) 128 [some (.ref (ea E 42)), some (.int v1), some (.int v2)] [.int s3, .int s2, .ref (ea E (32 + 2)), .ref (ea E 40)] := by
  unfold p_X1_readData_J128 at h
  obtain ⟨la_60, ssp_61, str_62, stp_63, swd_64, hc_65, h⟩ := bd5_some h
  refine g_callV (pc' := 131) hC (c_X4_nextDifferences _ (by decide) hc_65) ml_X1_145 (rc_Src) (by decide) rfl rfl rfl rfl dX1_readData_128 rfl ?_
  refine g_aload_n (pc' := 132) (i := 0) hC dX1_readData_131 rfl rfl rfl ?_
  refine g_iload_n (pc' := 133) (i := 2) hC dX1_readData_132 rfl rfl rfl ?_
  obtain ⟨xc_66, xt_67, xn_68, hc_69, h⟩ := bd3_some h
  refine g_callV (pc' := 136) hC (c_X1_pushNumbers _ hc_69) ml_X1_149 (rc_Rd) (by decide) rfl rfl rfl rfl dX1_readData_133 rfl ?_
  refine g_goto (tgt := 169) hC dX1_readData_136 (by decide) ?_
  refine g_weak (lo' := [some (.ref (ea E 42)), some (.int v1), none]) rfl ?_
  exact w_X1_readData_J169 hC   h
set_option maxRecDepth 200000 in
theorem w_X1_readData_J44 {κ : GK} {E : GE} {xcz : Nat → Int32} {xtz : Nat → Nat → Int32} {xnz : Nat → Nat → Int64} {xlz : Nat → Nat → Int32} {laz : Nat → Nat → Int64} {sspz : Int32} {senz : Int32} {strz : Int32} {stpz : Int32} {swdz : Nat → Int32} {v1 : Int32} {v2 : Int32}  (hC : gC κ E cX1_readData RX1 none rm_X1_readData 3)   (h : p_X1_readData_J44 v1 v2 xk xo xc xt xn xl rc rb la srow ssp sen str stp swd rpv rpc = some (xcz, xtz, xnz, xlz, laz, sspz, senz, strz, stpz, swdz)) : GG κ E (xws E xk xo xcz xtz xnz xlz rc rv rb laz wch wcc wpl wun srow sspz senz strz stpz swdz rwp rdr rpd rpv rpc rzp, none) (xws E xk xo xc xt xn xl rc rv rb la wch wcc wpl wun srow ssp sen str stp swd rwp rdr rpd rpv rpc rzp) 44 [some (.ref (ea E 42)), some (.int v1), some (.int v2)] [] := by
  unfold p_X1_readData_J44 at h
  refine g_aload_n (pc' := 45) (i := 0) hC dX1_readData_44 rfl rfl rfl ?_
  refine gf_X1_112 (pc' := 48) hC dX1_readData_45 rfl ?_
  refine g_case h (fun c_1 h => ?_) (fun c_1 h => ?_)
  · refine g_tswIn hC (tgt := 92) dX1_readData_48 (by rw [c_1]; decide) (by rw [c_1]; decide) (by rw [c_1]; rfl) (by decide) ?_
    refine g_aload_n (pc' := 93) (i := 0) hC dX1_readData_92 rfl rfl rfl ?_
    refine g_aload_n (pc' := 94) (i := 0) hC dX1_readData_93 rfl rfl rfl ?_
    refine gf_X1_21 (pc' := 97) hC dX1_readData_94 rfl ?_
    refine g_iload_n (pc' := 98) (i := 2) hC dX1_readData_97 rfl rfl rfl ?_
    obtain ⟨xc_2, xt_3, xn_4, xl_5, la_6, ssp_7, str_8, stp_9, hc_10, h⟩ := bd8_some h
    refine g_callV (pc' := 101) hC (c_X1_readPlain _ (by decide) hc_10) ml_X1_130 (rc_Rd) (by decide) rfl rfl rfl rfl dX1_readData_98 rfl ?_
    refine g_goto (tgt := 169) hC dX1_readData_101 (by decide) ?_
    refine g_weak (lo' := [some (.ref (ea E 42)), some (.int v1), none]) rfl ?_
    exact w_X1_readData_J169 hC   h
  · skip
    refine g_case h (fun c_18 h => ?_) (fun c_18 h => ?_)
    · refine g_tswIn hC (tgt := 164) dX1_readData_48 (by rw [c_18]; decide) (by rw [c_18]; decide) (by rw [c_18]; rfl) (by decide) ?_
      refine g_aload_n (pc' := 165) (i := 0) hC dX1_readData_164 rfl rfl rfl ?_
      refine g_iload_n (pc' := 166) (i := 2) hC dX1_readData_165 rfl rfl rfl ?_
      obtain ⟨xc_19, xt_20, xn_21, xl_22, la_23, ssp_24, str_25, stp_26, hc_27, h⟩ := bd8_some h
      refine g_callV (pc' := 169) hC (c_X1_readPlaces _ hc_27) ml_X1_155 (rc_Rd) (by decide) rfl rfl rfl rfl dX1_readData_166 rfl ?_
      refine g_weak (lo' := [some (.ref (ea E 42)), some (.int v1), none]) rfl ?_
      exact w_X1_readData_J169 hC   h
    · skip
      refine g_case h (fun c_28 h => ?_) (fun c_28 h => ?_)
      · refine g_tswIn hC (tgt := 164) dX1_readData_48 (by rw [c_28]; decide) (by rw [c_28]; decide) (by rw [c_28]; rfl) (by decide) ?_
        refine g_aload_n (pc' := 165) (i := 0) hC dX1_readData_164 rfl rfl rfl ?_
        refine g_iload_n (pc' := 166) (i := 2) hC dX1_readData_165 rfl rfl rfl ?_
        obtain ⟨xc_29, xt_30, xn_31, xl_32, la_33, ssp_34, str_35, stp_36, hc_37, h⟩ := bd8_some h
        refine g_callV (pc' := 169) hC (c_X1_readPlaces _ hc_37) ml_X1_155 (rc_Rd) (by decide) rfl rfl rfl rfl dX1_readData_166 rfl ?_
        refine g_weak (lo' := [some (.ref (ea E 42)), some (.int v1), none]) rfl ?_
        exact w_X1_readData_J169 hC   h
      · skip
        refine g_case h (fun c_38 h => ?_) (fun c_38 h => ?_)
        · refine g_tswIn hC (tgt := 147) dX1_readData_48 (by rw [c_38]; decide) (by rw [c_38]; decide) (by rw [c_38]; rfl) (by decide) ?_
          refine g_aload_n (pc' := 148) (i := 0) hC dX1_readData_147 rfl rfl rfl ?_
          refine g_aload_n (pc' := 149) (i := 0) hC dX1_readData_148 rfl rfl rfl ?_
          refine gf_X1_32 (pc' := 152) hC dX1_readData_149 rfl ?_
          refine g_iload_n (pc' := 153) (i := 2) hC dX1_readData_152 rfl rfl rfl ?_
          obtain ⟨la_39, ssp_40, sen_41, str_42, stp_43, hc_44, h⟩ := bd5_some h
          refine g_callV (pc' := 156) hC (c_X1_readOwnRuns _ (by decide) hc_44) ml_X1_137 (rc_Rd) (by decide) rfl rfl rfl rfl dX1_readData_153 rfl ?_
          refine g_aload_n (pc' := 157) (i := 0) hC dX1_readData_156 rfl rfl rfl ?_
          refine g_iload_n (pc' := 158) (i := 2) hC dX1_readData_157 rfl rfl rfl ?_
          obtain ⟨xc_45, xt_46, xn_47, hc_48, h⟩ := bd3_some h
          refine g_callV (pc' := 161) hC (c_X1_pushNumbers _ hc_48) ml_X1_149 (rc_Rd) (by decide) rfl rfl rfl rfl dX1_readData_158 rfl ?_
          refine g_goto (tgt := 169) hC dX1_readData_161 (by decide) ?_
          refine g_weak (lo' := [some (.ref (ea E 42)), some (.int v1), none]) rfl ?_
          exact w_X1_readData_J169 hC   h
        · skip
          refine g_case h (fun c_49 h => ?_) (fun c_49 h => ?_)
          · refine g_tswIn hC (tgt := 164) dX1_readData_48 (by rw [c_49]; decide) (by rw [c_49]; decide) (by rw [c_49]; rfl) (by decide) ?_
            refine g_aload_n (pc' := 165) (i := 0) hC dX1_readData_164 rfl rfl rfl ?_
            refine g_iload_n (pc' := 166) (i := 2) hC dX1_readData_165 rfl rfl rfl ?_
            obtain ⟨xc_50, xt_51, xn_52, xl_53, la_54, ssp_55, str_56, stp_57, hc_58, h⟩ := bd8_some h
            refine g_callV (pc' := 169) hC (c_X1_readPlaces _ hc_58) ml_X1_155 (rc_Rd) (by decide) rfl rfl rfl rfl dX1_readData_166 rfl ?_
            refine g_weak (lo' := [some (.ref (ea E 42)), some (.int v1), none]) rfl ?_
            exact w_X1_readData_J169 hC   h
          · skip
            refine g_case h (fun c_59 h => ?_) (fun c_59 h => ?_)
            · refine g_tswIn hC (tgt := 104) dX1_readData_48 (by rw [c_59]; decide) (by rw [c_59]; decide) (by rw [c_59]; rfl) (by decide) ?_
              refine g_aload_n (pc' := 105) (i := 0) hC dX1_readData_104 rfl rfl rfl ?_
              refine gf_X1_12 (pc' := 108) hC dX1_readData_105 rfl ?_
              refine g_aload_n (pc' := 109) (i := 0) hC dX1_readData_108 rfl rfl rfl ?_
              refine gf_X1_32 (pc' := 112) hC dX1_readData_109 rfl ?_
              refine g_iload_n (pc' := 113) (i := 2) hC dX1_readData_112 rfl rfl rfl ?_
              refine g_aload_n (pc' := 114) (i := 0) hC dX1_readData_113 rfl rfl rfl ?_
              refine gf_X1_21 (pc' := 117) hC dX1_readData_114 rfl ?_
              refine gf_X1_90 (pc' := 120) hC (by decide) dX1_readData_117 rfl ?_
              refine g_if_ne (pc' := 123) (tgt := 127) hC dX1_readData_120 (by decide) rfl h (fun h => ?_) (fun h => ?_)
              · refine g_iconst (pc' := 124) (v := (nI 1)) hC dX1_readData_123 (by decide) rfl ?_
                refine g_goto (tgt := 128) hC dX1_readData_124 (by decide) ?_
                exact w_X1_readData_J128 hC   h
              · refine g_iconst (pc' := 128) (v := (nI 0)) hC dX1_readData_127 (by decide) rfl ?_
                exact w_X1_readData_J128 hC   h
            · skip
              refine g_case h (fun c_70 h => ?_) (fun c_70 h => ?_)
              · refine g_tswIn hC (tgt := 139) dX1_readData_48 (by rw [c_70]; decide) (by rw [c_70]; decide) (by rw [c_70]; rfl) (by decide) ?_
                refine g_aload_n (pc' := 140) (i := 0) hC dX1_readData_139 rfl rfl rfl ?_
                refine g_iload_n (pc' := 141) (i := 2) hC dX1_readData_140 rfl rfl rfl ?_
                obtain ⟨xc_71, xt_72, xn_73, xl_74, la_75, ssp_76, str_77, stp_78, swd_79, hc_80, h⟩ := bd9_some h
                refine g_callV (pc' := 144) hC (c_X1_readLengths _ hc_80) ml_X1_152 (rc_Rd) (by decide) rfl rfl rfl rfl dX1_readData_141 rfl ?_
                refine g_goto (tgt := 169) hC dX1_readData_144 (by decide) ?_
                refine g_weak (lo' := [some (.ref (ea E 42)), some (.int v1), none]) rfl ?_
                exact w_X1_readData_J169 hC   h
              · skip
                refine g_tswOut hC (tgt := 164) dX1_readData_48 (tsw_out6 c_1 c_18 c_28 c_38 c_49 c_59 c_70) (by decide) ?_
                refine g_aload_n (pc' := 165) (i := 0) hC dX1_readData_164 rfl rfl rfl ?_
                refine g_iload_n (pc' := 166) (i := 2) hC dX1_readData_165 rfl rfl rfl ?_
                obtain ⟨xc_81, xt_82, xn_83, xl_84, la_85, ssp_86, str_87, stp_88, hc_89, h⟩ := bd8_some h
                refine g_callV (pc' := 169) hC (c_X1_readPlaces _ hc_89) ml_X1_155 (rc_Rd) (by decide) rfl rfl rfl rfl dX1_readData_166 rfl ?_
                refine g_weak (lo' := [some (.ref (ea E 42)), some (.int v1), none]) rfl ?_
                exact w_X1_readData_J169 hC   h
set_option maxRecDepth 200000 in
theorem c_X1_readData (l : Launch) {E : GE} {xcz : Nat → Int32} {xtz : Nat → Nat → Int32} {xnz : Nat → Nat → Int64} {xlz : Nat → Nat → Int32} {laz : Nat → Nat → Int64} {sspz : Int32} {senz : Int32} {strz : Int32} {stpz : Int32} {swdz : Nat → Int32}   (h : p_X1_readData xk xo xc xt xn xl rc rb la srow ssp sen str stp swd rpv rpc = some (xcz, xtz, xnz, xlz, laz, sspz, senz, strz, stpz, swdz)) : Met l yX1_readData (.code yX1_readData cX1_readData 3 none :: gU) rm_X1_readData (gP E (xws E xk xo xc xt xn xl rc rv rb la wch wcc wpl wun srow ssp sen str stp swd rwp rdr rpd rpv rpc rzp) [.ref (ea E 42)]) (gQ E (xws E xk xo xcz xtz xnz xlz rc rv rb laz wch wcc wpl wun srow sspz senz strz stpz swdz rwp rdr rpd rpv rpc rzp) none) 0 0 E.2.2.1 := by
  refine met_of (y := yX1_readData) (own := RX1) (lo := [some (.ref (ea E 42)), none, none]) (by decide) rfl rfl rfl (fun κ hl hC => ?_)
  subst hl
  unfold p_X1_readData at h
  refine g_aload_n (pc' := 1) (i := 0) hC dX1_readData_0 rfl rfl rfl ?_
  refine gf_X1_21 (pc' := 4) hC dX1_readData_1 rfl ?_
  refine gf_X1_104 (pc' := 7) hC (by decide) dX1_readData_4 rfl ?_
  refine g_istore_n (pc' := 8) (i := 1) (lo' := [some (.ref (ea E 42)), some (.int (xc 4)), none]) hC dX1_readData_7 rfl rfl rfl rfl rfl ?_
  refine g_aload_n (pc' := 9) (i := 0) hC dX1_readData_8 rfl rfl rfl ?_
  refine gf_X1_109 (pc' := 12) hC dX1_readData_9 rfl ?_
  refine g_istore_n (pc' := 13) (i := 2) (lo' := [some (.ref (ea E 42)), some (.int (xc 4)), some (.int rpv)]) hC dX1_readData_12 rfl rfl rfl rfl rfl ?_
  refine g_aload_n (pc' := 14) (i := 0) hC dX1_readData_13 rfl rfl rfl ?_
  refine gf_X1_21 (pc' := 17) hC dX1_readData_14 rfl ?_
  refine gf_X1_134 (pc' := 20) hC (by decide) dX1_readData_17 rfl ?_
  refine g_if_eq (pc' := 23) (tgt := 44) hC dX1_readData_20 (by decide) rfl h (fun h => ?_) (fun h => ?_)
  · exact w_X1_readData_J44 hC   h
  · refine g_aload_n (pc' := 24) (i := 0) hC dX1_readData_23 rfl rfl rfl ?_
    refine g_aload_n (pc' := 25) (i := 0) hC dX1_readData_24 rfl rfl rfl ?_
    refine gf_X1_28 (pc' := 28) hC dX1_readData_25 rfl ?_
    refine g_aload_n (pc' := 29) (i := 0) hC dX1_readData_28 rfl rfl rfl ?_
    refine gf_X1_109 (pc' := 32) hC dX1_readData_29 rfl ?_
    obtain ⟨la_90, ssp_91, sen_92, str_93, stp_94, hc_95, h⟩ := bd5_some h
    refine g_callV (pc' := 35) hC (c_X1_readOwnRuns _ (by decide) hc_95) ml_X1_137 (rc_Rd) (by decide) rfl rfl rfl rfl dX1_readData_32 rfl ?_
    refine g_aload_n (pc' := 36) (i := 0) hC dX1_readData_35 rfl rfl rfl ?_
    refine g_aload_n (pc' := 37) (i := 0) hC dX1_readData_36 rfl rfl rfl ?_
    refine gf_X1_109 (pc' := 40) hC dX1_readData_37 rfl ?_
    obtain ⟨a_96, hc_97, h⟩ := bd1_some h
    refine g_callV (pc' := 43) hC (c_X1_countOnes _ hc_97) ml_X1_141 (rc_Rd) (by decide) rfl rfl rfl rfl dX1_readData_40 rfl ?_
    refine g_istore_n (pc' := 44) (i := 2) (lo' := [some (.ref (ea E 42)), some (.int (xc 4)), some (.int a_96)]) hC dX1_readData_43 rfl rfl rfl rfl rfl ?_
    exact w_X1_readData_J44 hC   h
set_option maxRecDepth 200000 in
theorem c_X1_readDictionary (l : Launch) {E : GE} {xcz : Nat → Int32} {xtz : Nat → Nat → Int32} {xnz : Nat → Nat → Int64} {xlz : Nat → Nat → Int32} {laz : Nat → Nat → Int64} {sspz : Int32} {strz : Int32} {stpz : Int32} {rdrz : Int32}   (h : p_X1_readDictionary xk xc xt xn xl rc rb la srow ssp sen str stp rdr rpv = some (xcz, xtz, xnz, xlz, laz, sspz, strz, stpz, rdrz)) : Met l yX1_readDictionary (.code yX1_readDictionary cX1_readDictionary 1 none :: gU) rm_X1_readDictionary (gP E (xws E xk xo xc xt xn xl rc rv rb la wch wcc wpl wun srow ssp sen str stp swd rwp rdr rpd rpv rpc rzp) [.ref (ea E 42)]) (gQ E (xws E xk xo xcz xtz xnz xlz rc rv rb laz wch wcc wpl wun srow sspz sen strz stpz swd rwp rdrz rpd rpv rpc rzp) none) 0 0 E.2.2.1 := by
  refine met_of (y := yX1_readDictionary) (own := RX1) (lo := [some (.ref (ea E 42))]) (by decide) rfl rfl rfl (fun κ hl hC => ?_)
  subst hl
  unfold p_X1_readDictionary at h
  refine g_aload_n (pc' := 1) (i := 0) hC dX1_readDictionary_0 rfl rfl rfl ?_
  refine g_aload_n (pc' := 2) (i := 0) hC dX1_readDictionary_1 rfl rfl rfl ?_
  refine gf_X1_25 (pc' := 5) hC dX1_readDictionary_2 rfl ?_
  refine g_aload_n (pc' := 6) (i := 0) hC dX1_readDictionary_5 rfl rfl rfl ?_
  refine gf_X1_109 (pc' := 9) hC dX1_readDictionary_6 rfl ?_
  obtain ⟨xc_1, xt_2, xn_3, xl_4, la_5, ssp_6, str_7, stp_8, hc_9, h⟩ := bd8_some h
  refine g_callV (pc' := 12) hC (c_X1_readPlain _ (by decide) hc_9) ml_X1_130 (rc_Rd) (by decide) rfl rfl rfl rfl dX1_readDictionary_9 rfl ?_
  refine g_aload_n (pc' := 13) (i := 0) hC dX1_readDictionary_12 rfl rfl rfl ?_
  refine gf_X1_12 (pc' := 16) hC dX1_readDictionary_13 rfl ?_
  obtain ⟨a_10, hc_11, h⟩ := bd1_some h
  refine g_callV (pc' := 19) hC (c_X4_isSound _ hc_11) ml_X1_50 (rc_Src) (by decide) rfl rfl rfl rfl dX1_readDictionary_16 rfl ?_
  refine g_if_eq (pc' := 22) (tgt := 30) hC dX1_readDictionary_19 (by decide) rfl h (fun h => ?_) (fun h => ?_)
  · refine g_aload_n (pc' := 31) (i := 0) hC dX1_readDictionary_30 rfl rfl rfl ?_
    refine gf_X1_25 (pc' := 34) hC dX1_readDictionary_31 rfl ?_
    refine g_iconst (pc' := 35) (v := (nI 0)) hC dX1_readDictionary_34 (by decide) rfl ?_
    refine pf_X1_104 (pc' := 38) hC (by decide) dX1_readDictionary_35 rfl ?_
    obtain ⟨rfl, rfl, rfl, rfl, rfl, rfl, rfl, rfl, rfl⟩ := inj9 h; exact g_vret hC dX1_readDictionary_38
  · refine g_aload_n (pc' := 23) (i := 0) hC dX1_readDictionary_22 rfl rfl rfl ?_
    refine g_iconst (pc' := 24) (v := (nI 1)) hC dX1_readDictionary_23 (by decide) rfl ?_
    refine pf_X1_46 (pc' := 27) hC (by decide) dX1_readDictionary_24 rfl ?_
    refine g_goto (tgt := 38) hC dX1_readDictionary_27 (by decide) ?_
    obtain ⟨rfl, rfl, rfl, rfl, rfl, rfl, rfl, rfl, rfl⟩ := inj9 h; exact g_vret hC dX1_readDictionary_38
set_option maxRecDepth 200000 in
theorem c_X1_isDataCode (l : Launch) {E : GE} {rr : Int32} {v1 : Int64}  (h : p_X1_isDataCode v1 xk rdr = some rr) : Met l yX1_isDataCode (.code yX1_isDataCode cX1_isDataCode 3 (some .boolean) :: gU) rm_X1_isDataCode (gP E (xws E xk xo xc xt xn xl rc rv rb la wch wcc wpl wun srow ssp sen str stp swd rwp rdr rpd rpv rpc rzp) [.ref (ea E 42), .long v1]) (gQ E (xws E xk xo xc xt xn xl rc rv rb la wch wcc wpl wun srow ssp sen str stp swd rwp rdr rpd rpv rpc rzp) (some (.int rr))) 0 0 E.2.2.1 := by
  refine met_of (y := yX1_isDataCode) (own := RX1) (lo := [some (.ref (ea E 42)), some (.long v1), none]) (by decide) rfl rfl rfl (fun κ hl hC => ?_)
  subst hl
  unfold p_X1_isDataCode at h
  refine g_lload_n (pc' := 1) (i := 1) hC dX1_isDataCode_0 rfl rfl rfl ?_
  refine g_ldc2_w (pc' := 4) (v := (lN 5)) hC u_3 dX1_isDataCode_1 rfl ?_
  refine g_lcmp_ne (pc' := 8) (tgt := 35) hC dX1_isDataCode_4 dX1_isDataCode_5 rfl (by decide) rfl h (fun h => ?_) (fun h => ?_)
  · refine g_aload_n (pc' := 9) (i := 0) hC dX1_isDataCode_8 rfl rfl rfl ?_
    refine gf_X1_21 (pc' := 12) hC dX1_isDataCode_9 rfl ?_
    refine gf_X1_90 (pc' := 15) hC (by decide) dX1_isDataCode_12 rfl ?_
    refine g_if_eq (pc' := 18) (tgt := 29) hC dX1_isDataCode_15 (by decide) rfl h (fun h => ?_) (fun h => ?_)
    · refine g_iconst (pc' := 30) (v := (nI 1)) hC dX1_isDataCode_29 (by decide) rfl ?_
      refine g_goto (tgt := 34) hC dX1_isDataCode_30 (by decide) ?_
      obtain rfl := inj1 h; exact g_zret hC (by decide) dX1_isDataCode_34
    · refine g_aload_n (pc' := 19) (i := 0) hC dX1_isDataCode_18 rfl rfl rfl ?_
      refine gf_X1_21 (pc' := 22) hC dX1_isDataCode_19 rfl ?_
      refine gf_X1_90 (pc' := 25) hC (by decide) dX1_isDataCode_22 rfl ?_
      refine g_iconst (pc' := 26) (v := (nI 1)) hC dX1_isDataCode_25 (by decide) rfl ?_
      refine g_icmp_ne (pc' := 29) (tgt := 33) hC dX1_isDataCode_26 (by decide) rfl h (fun h => ?_) (fun h => ?_)
      · refine g_iconst (pc' := 30) (v := (nI 1)) hC dX1_isDataCode_29 (by decide) rfl ?_
        refine g_goto (tgt := 34) hC dX1_isDataCode_30 (by decide) ?_
        obtain rfl := inj1 h; exact g_zret hC (by decide) dX1_isDataCode_34
      · refine g_iconst (pc' := 34) (v := (nI 0)) hC dX1_isDataCode_33 (by decide) rfl ?_
        obtain rfl := inj1 h; exact g_zret hC (by decide) dX1_isDataCode_34
  · refine g_lload_n (pc' := 36) (i := 1) hC dX1_isDataCode_35 rfl rfl rfl ?_
    refine g_ldc2_w (pc' := 39) (v := (lN 6)) hC u_4 dX1_isDataCode_36 rfl ?_
    refine g_lcmp_ne (pc' := 43) (tgt := 60) hC dX1_isDataCode_39 dX1_isDataCode_40 rfl (by decide) rfl h (fun h => ?_) (fun h => ?_)
    · refine g_aload_n (pc' := 44) (i := 0) hC dX1_isDataCode_43 rfl rfl rfl ?_
      refine gf_X1_21 (pc' := 47) hC dX1_isDataCode_44 rfl ?_
      refine gf_X1_90 (pc' := 50) hC (by decide) dX1_isDataCode_47 rfl ?_
      refine g_iconst (pc' := 51) (v := (nI 2)) hC dX1_isDataCode_50 (by decide) rfl ?_
      refine g_icmp_ne (pc' := 54) (tgt := 58) hC dX1_isDataCode_51 (by decide) rfl h (fun h => ?_) (fun h => ?_)
      · refine g_iconst (pc' := 55) (v := (nI 1)) hC dX1_isDataCode_54 (by decide) rfl ?_
        refine g_goto (tgt := 59) hC dX1_isDataCode_55 (by decide) ?_
        obtain rfl := inj1 h; exact g_zret hC (by decide) dX1_isDataCode_59
      · refine g_iconst (pc' := 59) (v := (nI 0)) hC dX1_isDataCode_58 (by decide) rfl ?_
        obtain rfl := inj1 h; exact g_zret hC (by decide) dX1_isDataCode_59
    · refine g_lload_n (pc' := 61) (i := 1) hC dX1_isDataCode_60 rfl rfl rfl ?_
      refine g_ldc2_w (pc' := 64) (v := (lN 3)) hC u_5 dX1_isDataCode_61 rfl ?_
      refine g_lcmp_ne (pc' := 68) (tgt := 85) hC dX1_isDataCode_64 dX1_isDataCode_65 rfl (by decide) rfl h (fun h => ?_) (fun h => ?_)
      · refine g_aload_n (pc' := 69) (i := 0) hC dX1_isDataCode_68 rfl rfl rfl ?_
        refine gf_X1_21 (pc' := 72) hC dX1_isDataCode_69 rfl ?_
        refine gf_X1_90 (pc' := 75) hC (by decide) dX1_isDataCode_72 rfl ?_
        refine g_iconst (pc' := 76) (v := (nI 3)) hC dX1_isDataCode_75 (by decide) rfl ?_
        refine g_icmp_ne (pc' := 79) (tgt := 83) hC dX1_isDataCode_76 (by decide) rfl h (fun h => ?_) (fun h => ?_)
        · refine g_iconst (pc' := 80) (v := (nI 1)) hC dX1_isDataCode_79 (by decide) rfl ?_
          refine g_goto (tgt := 84) hC dX1_isDataCode_80 (by decide) ?_
          obtain rfl := inj1 h; exact g_zret hC (by decide) dX1_isDataCode_84
        · refine g_iconst (pc' := 84) (v := (nI 0)) hC dX1_isDataCode_83 (by decide) rfl ?_
          obtain rfl := inj1 h; exact g_zret hC (by decide) dX1_isDataCode_84
      · refine g_lload_n (pc' := 86) (i := 1) hC dX1_isDataCode_85 rfl rfl rfl ?_
        refine g_ldc2_w (pc' := 89) (v := (lN 8)) hC u_6 dX1_isDataCode_86 rfl ?_
        refine g_lcmp_ne (pc' := 93) (tgt := 98) hC dX1_isDataCode_89 dX1_isDataCode_90 rfl (by decide) rfl h (fun h => ?_) (fun h => ?_)
        · refine g_aload_n (pc' := 94) (i := 0) hC dX1_isDataCode_93 rfl rfl rfl ?_
          refine gf_X1_46 (pc' := 97) hC dX1_isDataCode_94 rfl ?_
          obtain ⟨g_1, h⟩ := gd_some h
          obtain rfl := inj1 h; exact g_zret hC g_1 dX1_isDataCode_97
        · refine g_lload_n (pc' := 99) (i := 1) hC dX1_isDataCode_98 rfl rfl rfl ?_
          refine g_lconst (pc' := 100) (v := (lN 0)) hC dX1_isDataCode_99 (by decide) rfl ?_
          refine g_lcmp_ne (pc' := 104) (tgt := 108) hC dX1_isDataCode_100 dX1_isDataCode_101 rfl (by decide) rfl h (fun h => ?_) (fun h => ?_)
          · refine g_iconst (pc' := 105) (v := (nI 1)) hC dX1_isDataCode_104 (by decide) rfl ?_
            refine g_goto (tgt := 109) hC dX1_isDataCode_105 (by decide) ?_
            obtain rfl := inj1 h; exact g_zret hC (by decide) dX1_isDataCode_109
          · refine g_iconst (pc' := 109) (v := (nI 0)) hC dX1_isDataCode_108 (by decide) rfl ?_
            obtain rfl := inj1 h; exact g_zret hC (by decide) dX1_isDataCode_109
set_option maxRecDepth 200000 in
theorem c_X4_expect (l : Launch) {E : GE} {sspz : Int32} {strz : Int32} {stpz : Int32} {v1 : Int32}  (h : p_X4_expect v1 rb srow ssp sen str stp = some (sspz, strz, stpz)) : Met l yX4_expect (.code yX4_expect cX4_expect 3 none :: gU) rm_X4_expect (gP E (xws E xk xo xc xt xn xl rc rv rb la wch wcc wpl wun srow ssp sen str stp swd rwp rdr rpd rpv rpc rzp) [.ref (ea E 40), .int v1]) (gQ E (xws E xk xo xc xt xn xl rc rv rb la wch wcc wpl wun srow sspz sen strz stpz swd rwp rdr rpd rpv rpc rzp) none) 0 0 E.2.2.1 := by
  refine met_of (y := yX4_expect) (own := RX4) (lo := [some (.ref (ea E 40)), some (.int v1), none]) (by decide) rfl rfl rfl (fun κ hl hC => ?_)
  subst hl
  unfold p_X4_expect at h
  refine g_aload_n (pc' := 1) (i := 0) hC dX4_expect_0 rfl rfl rfl ?_
  refine gf_X4_19 (pc' := 4) hC dX4_expect_1 rfl ?_
  refine g_istore_n (pc' := 5) (i := 2) (lo' := [some (.ref (ea E 40)), some (.int v1), some (.int ssp)]) hC dX4_expect_4 rfl rfl rfl rfl rfl ?_
  refine g_aload_n (pc' := 6) (i := 0) hC dX4_expect_5 rfl rfl rfl ?_
  refine g_aload_n (pc' := 7) (i := 0) hC dX4_expect_6 rfl rfl rfl ?_
  obtain ⟨a_1, ssp_2, str_3, stp_4, hc_5, h⟩ := bd4_some h
  refine g_callV (pc' := 10) hC (c_X4_next _ hc_5) ml_X4_41 (rc_Src) (by decide) rfl rfl rfl rfl dX4_expect_7 rfl ?_
  refine g_iload_n (pc' := 11) (i := 1) hC dX4_expect_10 rfl rfl rfl ?_
  refine g_icmp_ne (pc' := 14) (tgt := 18) hC dX4_expect_11 (by decide) rfl h (fun h => ?_) (fun h => ?_)
  · refine g_iconst (pc' := 15) (v := (nI 1)) hC dX4_expect_14 (by decide) rfl ?_
    refine g_goto (tgt := 19) hC dX4_expect_15 (by decide) ?_
    refine g_bipush (pc' := 21) (v := (nI 7)) hC dX4_expect_19 (by decide) rfl ?_
    refine g_iload_n (pc' := 22) (i := 2) hC dX4_expect_21 rfl rfl rfl ?_
    obtain ⟨str_6, stp_7, hc_8, h⟩ := bd2_some h
    refine g_callV (pc' := 25) hC (c_X4_demand _ hc_8) ml_X4_45 (rc_Src) (by decide) rfl rfl rfl rfl dX4_expect_22 rfl ?_
    obtain ⟨rfl, rfl, rfl⟩ := inj3 h; exact g_vret hC dX4_expect_25
  · refine g_iconst (pc' := 19) (v := (nI 0)) hC dX4_expect_18 (by decide) rfl ?_
    refine g_bipush (pc' := 21) (v := (nI 7)) hC dX4_expect_19 (by decide) rfl ?_
    refine g_iload_n (pc' := 22) (i := 2) hC dX4_expect_21 rfl rfl rfl ?_
    obtain ⟨str_9, stp_10, hc_11, h⟩ := bd2_some h
    refine g_callV (pc' := 25) hC (c_X4_demand _ hc_11) ml_X4_45 (rc_Src) (by decide) rfl rfl rfl rfl dX4_expect_22 rfl ?_
    obtain ⟨rfl, rfl, rfl⟩ := inj3 h; exact g_vret hC dX4_expect_25
set_option maxRecDepth 200000 in
theorem c_X1_nextZigField (l : Launch) {E : GE} {rr : Int64} {sspz : Int32} {strz : Int32} {stpz : Int32} {rzpz : Int32}   (h : p_X1_nextZigField rb srow ssp sen str stp rzp = some (rr, sspz, strz, stpz, rzpz)) : Met l yX1_nextZigField (.code yX1_nextZigField cX1_nextZigField 1 (some .long) :: gU) rm_X1_nextZigField (gP E (xws E xk xo xc xt xn xl rc rv rb la wch wcc wpl wun srow ssp sen str stp swd rwp rdr rpd rpv rpc rzp) [.ref (ea E 42)]) (gQ E (xws E xk xo xc xt xn xl rc rv rb la wch wcc wpl wun srow sspz sen strz stpz swd rwp rdr rpd rpv rpc rzpz) (some (.long rr))) 0 0 E.2.2.1 := by
  refine met_of (y := yX1_nextZigField) (own := RX1) (lo := [some (.ref (ea E 42))]) (by decide) rfl rfl rfl (fun κ hl hC => ?_)
  subst hl
  unfold p_X1_nextZigField at h
  refine g_aload_n (pc' := 1) (i := 0) hC dX1_nextZigField_0 rfl rfl rfl ?_
  refine gf_X1_12 (pc' := 4) hC dX1_nextZigField_1 rfl ?_
  refine g_bipush (pc' := 6) (v := (nI 21)) hC dX1_nextZigField_4 (by decide) rfl ?_
  obtain ⟨ssp_1, str_2, stp_3, hc_4, h⟩ := bd3_some h
  refine g_callV (pc' := 9) hC (c_X4_expect _ hc_4) ml_X1_100 (rc_Src) (by decide) rfl rfl rfl rfl dX1_nextZigField_6 rfl ?_
  refine g_aload_n (pc' := 10) (i := 0) hC dX1_nextZigField_9 rfl rfl rfl ?_
  refine g_aload_n (pc' := 11) (i := 0) hC dX1_nextZigField_10 rfl rfl rfl ?_
  refine gf_X1_12 (pc' := 14) hC dX1_nextZigField_11 rfl ?_
  refine gf_X1_81 (pc' := 17) hC dX1_nextZigField_14 rfl ?_
  refine pf_X1_93 (pc' := 20) hC dX1_nextZigField_17 rfl ?_
  refine g_aload_n (pc' := 21) (i := 0) hC dX1_nextZigField_20 rfl rfl rfl ?_
  refine gf_X1_12 (pc' := 24) hC dX1_nextZigField_21 rfl ?_
  obtain ⟨a_5, ssp_6, str_7, stp_8, hc_9, h⟩ := bd4_some h
  refine g_callV (pc' := 27) hC (c_X4_nextVar _ hc_9) ml_X1_115 (rc_Src) (by decide) rfl rfl rfl rfl dX1_nextZigField_24 rfl ?_
  obtain ⟨a_10, hc_11, h⟩ := bd1_some h
  refine g_callN (pc' := 30) hC (c_X5_unzigged _ hc_11) ml_X1_118  (by decide) rfl rfl rfl dX1_nextZigField_27 rfl ?_
  obtain ⟨rfl, rfl, rfl, rfl, rfl⟩ := inj5 h; exact g_lret hC dX1_nextZigField_30
set_option maxRecDepth 200000 in
theorem w_X1_readHead_J371 {κ : GK} {E : GE} {sspz : Int32} {senz : Int32} {strz : Int32} {stpz : Int32} {rpdz : Int32} {rpvz : Int32} {rpcz : Int32} {rzpz : Int32} {v5 : Int64} {v9 : Int64} {v12 : Int64} {s1 : Int32}  (hC : gC κ E cX1_readHead RX1 none rm_X1_readHead 14)   (h : p_X1_readHead_J371 v5 v9 v12 s1 ssp str stp rzp = some (sspz, senz, strz, stpz, rpdz, rpvz, rpcz, rzpz)) : GG κ E (xws E xk xo xc xt xn xl rc rv rb la wch wcc wpl wun srow sspz senz strz stpz swd rwp rdr rpdz rpvz rpcz rzpz, none) (xws E xk xo xc xt xn xl rc rv rb la wch wcc wpl wun srow ssp sen str stp swd rwp rdr rpd rpv rpc rzp) 371 [some (.ref (ea E 42)), none, none, none, none, some (.long v5), none, none, none, some (.long v9), none, none, some (.long v12), none] [.int s1, .ref (ea E 42)] := by
  unfold p_X1_readHead_J371 at h
  obtain ⟨g_68, h⟩ := gd_some h
  refine pf_X1_61 (pc' := 374) hC g_68 dX1_readHead_371 rfl ?_
  refine g_aload_n (pc' := 375) (i := 0) hC dX1_readHead_374 rfl rfl rfl ?_
  refine g_lload (pc' := 377) (i := 9) hC dX1_readHead_375 rfl rfl ?_
  refine g_l2i (pc' := 378) hC dX1_readHead_377 rfl ?_
  refine pf_X1_109 (pc' := 381) hC dX1_readHead_378 rfl ?_
  refine g_aload_n (pc' := 382) (i := 0) hC dX1_readHead_381 rfl rfl rfl ?_
  refine g_lload (pc' := 384) (i := 12) hC dX1_readHead_382 rfl rfl ?_
  refine g_l2i (pc' := 385) hC dX1_readHead_384 rfl ?_
  refine pf_X1_112 (pc' := 388) hC dX1_readHead_385 rfl ?_
  refine g_aload_n (pc' := 389) (i := 0) hC dX1_readHead_388 rfl rfl rfl ?_
  refine gf_X1_12 (pc' := 392) hC dX1_readHead_389 rfl ?_
  refine g_aload_n (pc' := 393) (i := 0) hC dX1_readHead_392 rfl rfl rfl ?_
  refine gf_X1_12 (pc' := 396) hC dX1_readHead_393 rfl ?_
  refine gf_X1_81 (pc' := 399) hC dX1_readHead_396 rfl ?_
  refine g_lload (pc' := 401) (i := 5) hC dX1_readHead_399 rfl rfl ?_
  refine g_l2i (pc' := 402) hC dX1_readHead_401 rfl ?_
  refine g_iadd (pc' := 403) hC dX1_readHead_402 rfl ?_
  refine pf_X1_78 (pc' := 406) hC dX1_readHead_403 rfl ?_
  obtain ⟨rfl, rfl, rfl, rfl, rfl, rfl, rfl, rfl⟩ := inj8 h; exact g_vret hC dX1_readHead_406
set_option maxRecDepth 200000 in
theorem w_X1_readHead_J339 {κ : GK} {E : GE} {sspz : Int32} {senz : Int32} {strz : Int32} {stpz : Int32} {rpdz : Int32} {rpvz : Int32} {rpcz : Int32} {rzpz : Int32} {v4 : Int32} {v5 : Int64} {v9 : Int64} {v12 : Int64} {s1 : Int32}  (hC : gC κ E cX1_readHead RX1 none rm_X1_readHead 14)   (h : p_X1_readHead_J339 v4 v5 v9 v12 s1 ssp sen str stp rpd rpv rpc rzp = some (sspz, senz, strz, stpz, rpdz, rpvz, rpcz, rzpz)) : GG κ E (xws E xk xo xc xt xn xl rc rv rb la wch wcc wpl wun srow sspz senz strz stpz swd rwp rdr rpdz rpvz rpcz rzpz, none) (xws E xk xo xc xt xn xl rc rv rb la wch wcc wpl wun srow ssp sen str stp swd rwp rdr rpd rpv rpc rzp) 339 [some (.ref (ea E 42)), none, none, none, some (.int v4), some (.long v5), none, none, none, some (.long v9), none, none, some (.long v12), none] [.int s1, .ref (ea E 40)] := by
  unfold p_X1_readHead_J339 at h
  refine g_iconst (pc' := 340) (v := (nI 1)) hC dX1_readHead_339 (by decide) rfl ?_
  refine g_aload_n (pc' := 341) (i := 0) hC dX1_readHead_340 rfl rfl rfl ?_
  refine gf_X1_12 (pc' := 344) hC dX1_readHead_341 rfl ?_
  refine gf_X1_78 (pc' := 347) hC dX1_readHead_344 rfl ?_
  obtain ⟨str_63, stp_64, hc_65, h⟩ := bd2_some h
  refine g_callV (pc' := 350) hC (c_X4_demand _ hc_65) ml_X1_96 (rc_Src) (by decide) rfl rfl rfl rfl dX1_readHead_347 rfl ?_
  refine g_aload_n (pc' := 351) (i := 0) hC dX1_readHead_350 rfl rfl rfl ?_
  refine gf_X1_12 (pc' := 354) hC dX1_readHead_351 rfl ?_
  obtain ⟨a_66, hc_67, h⟩ := bd1_some h
  refine g_callV (pc' := 357) hC (c_X4_isSound _ hc_67) ml_X1_50 (rc_Src) (by decide) rfl rfl rfl rfl dX1_readHead_354 rfl ?_
  refine g_if_eq (pc' := 360) (tgt := 406) hC dX1_readHead_357 (by decide) rfl h (fun h => ?_) (fun h => ?_)
  · obtain ⟨rfl, rfl, rfl, rfl, rfl, rfl, rfl, rfl⟩ := inj8 h; exact g_vret hC dX1_readHead_406
  · refine g_aload_n (pc' := 361) (i := 0) hC dX1_readHead_360 rfl rfl rfl ?_
    refine g_iload (pc' := 363) (i := 4) hC dX1_readHead_361 rfl rfl ?_
    refine g_if_ne (pc' := 366) (tgt := 370) hC dX1_readHead_363 (by decide) rfl h (fun h => ?_) (fun h => ?_)
    · refine g_iconst (pc' := 367) (v := (nI 1)) hC dX1_readHead_366 (by decide) rfl ?_
      refine g_goto (tgt := 371) hC dX1_readHead_367 (by decide) ?_
      refine g_weak (lo' := [some (.ref (ea E 42)), none, none, none, none, some (.long v5), none, none, none, some (.long v9), none, none, some (.long v12), none]) rfl ?_
      exact w_X1_readHead_J371 hC   h
    · refine g_iconst (pc' := 371) (v := (nI 0)) hC dX1_readHead_370 (by decide) rfl ?_
      refine g_weak (lo' := [some (.ref (ea E 42)), none, none, none, none, some (.long v5), none, none, none, some (.long v9), none, none, some (.long v12), none]) rfl ?_
      exact w_X1_readHead_J371 hC   h
set_option maxRecDepth 200000 in
theorem w_X1_readHead_J291 {κ : GK} {E : GE} {sspz : Int32} {senz : Int32} {strz : Int32} {stpz : Int32} {rpdz : Int32} {rpvz : Int32} {rpcz : Int32} {rzpz : Int32} {v4 : Int32} {v5 : Int64} {v9 : Int64} {v12 : Int64} {s1 : Int32}  (hC : gC κ E cX1_readHead RX1 none rm_X1_readHead 14)   (h : p_X1_readHead_J291 v4 v5 v9 v12 s1 rb srow ssp sen str stp rpd rpv rpc rzp = some (sspz, senz, strz, stpz, rpdz, rpvz, rpcz, rzpz)) : GG κ E (xws E xk xo xc xt xn xl rc rv rb la wch wcc wpl wun srow sspz senz strz stpz swd rwp rdr rpdz rpvz rpcz rzpz, none) (xws E xk xo xc xt xn xl rc rv rb la wch wcc wpl wun srow ssp sen str stp swd rwp rdr rpd rpv rpc rzp) 291 [some (.ref (ea E 42)), none, none, none, some (.int v4), some (.long v5), none, none, none, some (.long v9), none, none, some (.long v12), none] [.int s1, .ref (ea E 40)] := by
  unfold p_X1_readHead_J291 at h
  refine g_bipush (pc' := 293) (v := (nI 8)) hC dX1_readHead_291 (by decide) rfl ?_
  refine g_aload_n (pc' := 294) (i := 0) hC dX1_readHead_293 rfl rfl rfl ?_
  refine gf_X1_93 (pc' := 297) hC dX1_readHead_294 rfl ?_
  obtain ⟨str_50, stp_51, hc_52, h⟩ := bd2_some h
  refine g_callV (pc' := 300) hC (c_X4_demand _ hc_52) ml_X1_96 (rc_Src) (by decide) rfl rfl rfl rfl dX1_readHead_297 rfl ?_
  refine g_aload_n (pc' := 301) (i := 0) hC dX1_readHead_300 rfl rfl rfl ?_
  refine gf_X1_12 (pc' := 304) hC dX1_readHead_301 rfl ?_
  refine g_iconst (pc' := 305) (v := (nI 0)) hC dX1_readHead_304 (by decide) rfl ?_
  obtain ⟨ssp_53, str_54, stp_55, hc_56, h⟩ := bd3_some h
  refine g_callV (pc' := 308) hC (c_X4_expect _ hc_56) ml_X1_100 (rc_Src) (by decide) rfl rfl rfl rfl dX1_readHead_305 rfl ?_
  refine g_aload_n (pc' := 309) (i := 0) hC dX1_readHead_308 rfl rfl rfl ?_
  refine gf_X1_12 (pc' := 312) hC dX1_readHead_309 rfl ?_
  refine g_iconst (pc' := 313) (v := (nI 0)) hC dX1_readHead_312 (by decide) rfl ?_
  obtain ⟨ssp_57, str_58, stp_59, hc_60, h⟩ := bd3_some h
  refine g_callV (pc' := 316) hC (c_X4_expect _ hc_60) ml_X1_100 (rc_Src) (by decide) rfl rfl rfl rfl dX1_readHead_313 rfl ?_
  refine g_aload_n (pc' := 317) (i := 0) hC dX1_readHead_316 rfl rfl rfl ?_
  refine gf_X1_12 (pc' := 320) hC dX1_readHead_317 rfl ?_
  refine g_lload (pc' := 322) (i := 5) hC dX1_readHead_320 rfl rfl ?_
  refine g_aload_n (pc' := 323) (i := 0) hC dX1_readHead_322 rfl rfl rfl ?_
  refine gf_X1_12 (pc' := 326) hC dX1_readHead_323 rfl ?_
  obtain ⟨a_61, hc_62, h⟩ := bd1_some h
  refine g_callV (pc' := 329) hC (c_X4_left _ hc_62) ml_X1_54 (rc_Src) (by decide) rfl rfl rfl rfl dX1_readHead_326 rfl ?_
  refine g_i2l (pc' := 330) hC dX1_readHead_329 rfl ?_
  refine g_lcmp_gt (pc' := 334) (tgt := 338) hC dX1_readHead_330 dX1_readHead_331 rfl (by decide) rfl h (fun h => ?_) (fun h => ?_)
  · refine g_iconst (pc' := 339) (v := (nI 0)) hC dX1_readHead_338 (by decide) rfl ?_
    exact w_X1_readHead_J339 hC   h
  · refine g_iconst (pc' := 335) (v := (nI 1)) hC dX1_readHead_334 (by decide) rfl ?_
    refine g_goto (tgt := 339) hC dX1_readHead_335 (by decide) ?_
    exact w_X1_readHead_J339 hC   h
set_option maxRecDepth 200000 in
theorem w_X1_readHead_J246 {κ : GK} {E : GE} {sspz : Int32} {senz : Int32} {strz : Int32} {stpz : Int32} {rpdz : Int32} {rpvz : Int32} {rpcz : Int32} {rzpz : Int32} {v4 : Int32} {v5 : Int64} {v9 : Int64} {s1 : Int32}  (hC : gC κ E cX1_readHead RX1 none rm_X1_readHead 14)   (h : p_X1_readHead_J246 v4 v5 v9 s1 xk rb srow ssp sen str stp rdr rpd rpv rpc rzp = some (sspz, senz, strz, stpz, rpdz, rpvz, rpcz, rzpz)) : GG κ E (xws E xk xo xc xt xn xl rc rv rb la wch wcc wpl wun srow sspz senz strz stpz swd rwp rdr rpdz rpvz rpcz rzpz, none) (xws E xk xo xc xt xn xl rc rv rb la wch wcc wpl wun srow ssp sen str stp swd rwp rdr rpd rpv rpc rzp) 246 [some (.ref (ea E 42)), none, none, none, some (.int v4), some (.long v5), none, none, none, some (.long v9), none, none, none, none] [.int s1, .ref (ea E 40)] := by
  unfold p_X1_readHead_J246 at h
  refine g_bipush (pc' := 248) (v := (nI 8)) hC dX1_readHead_246 (by decide) rfl ?_
  refine g_aload_n (pc' := 249) (i := 0) hC dX1_readHead_248 rfl rfl rfl ?_
  refine gf_X1_93 (pc' := 252) hC dX1_readHead_249 rfl ?_
  obtain ⟨str_41, stp_42, hc_43, h⟩ := bd2_some h
  refine g_callV (pc' := 255) hC (c_X4_demand _ hc_43) ml_X1_96 (rc_Src) (by decide) rfl rfl rfl rfl dX1_readHead_252 rfl ?_
  refine g_aload_n (pc' := 256) (i := 0) hC dX1_readHead_255 rfl rfl rfl ?_
  obtain ⟨a_44, ssp_45, str_46, stp_47, rzp_48, hc_49, h⟩ := bd5_some h
  refine g_callV (pc' := 259) hC (c_X1_nextZigField _ hc_49) ml_X1_84 (rc_Rd) (by decide) rfl rfl rfl rfl dX1_readHead_256 rfl ?_
  refine g_lstore (pc' := 261) (i := 12) (lo' := [some (.ref (ea E 42)), none, none, none, some (.int v4), some (.long v5), none, none, none, some (.long v9), none, none, some (.long a_44), none]) hC dX1_readHead_259 rfl rfl rfl rfl ?_
  refine g_aload_n (pc' := 262) (i := 0) hC dX1_readHead_261 rfl rfl rfl ?_
  refine gf_X1_12 (pc' := 265) hC dX1_readHead_262 rfl ?_
  refine g_iload (pc' := 267) (i := 4) hC dX1_readHead_265 rfl rfl ?_
  refine g_if_eq (pc' := 270) (tgt := 279) hC dX1_readHead_267 (by decide) rfl h (fun h => ?_) (fun h => ?_)
  · refine g_lload (pc' := 281) (i := 12) hC dX1_readHead_279 rfl rfl ?_
    refine g_lconst (pc' := 282) (v := (lN 0)) hC dX1_readHead_281 (by decide) rfl ?_
    refine g_lcmp_ne (pc' := 286) (tgt := 290) hC dX1_readHead_282 dX1_readHead_283 rfl (by decide) rfl h (fun h => ?_) (fun h => ?_)
    · refine g_iconst (pc' := 287) (v := (nI 1)) hC dX1_readHead_286 (by decide) rfl ?_
      refine g_goto (tgt := 291) hC dX1_readHead_287 (by decide) ?_
      exact w_X1_readHead_J291 hC   h
    · refine g_iconst (pc' := 291) (v := (nI 0)) hC dX1_readHead_290 (by decide) rfl ?_
      exact w_X1_readHead_J291 hC   h
  · refine g_aload_n (pc' := 271) (i := 0) hC dX1_readHead_270 rfl rfl rfl ?_
    refine g_lload (pc' := 273) (i := 12) hC dX1_readHead_271 rfl rfl ?_
    obtain ⟨a_69, hc_70, h⟩ := bd1_some h
    refine g_callV (pc' := 276) hC (c_X1_isDataCode _ hc_70) ml_X1_105 (rc_Rd) (by decide) rfl rfl rfl rfl dX1_readHead_273 rfl ?_
    refine g_goto (tgt := 291) hC dX1_readHead_276 (by decide) ?_
    exact w_X1_readHead_J291 hC   h
set_option maxRecDepth 200000 in
theorem w_X1_readHead_J245 {κ : GK} {E : GE} {sspz : Int32} {senz : Int32} {strz : Int32} {stpz : Int32} {rpdz : Int32} {rpvz : Int32} {rpcz : Int32} {rzpz : Int32} {v4 : Int32} {v5 : Int64} {v9 : Int64}  (hC : gC κ E cX1_readHead RX1 none rm_X1_readHead 14)   (h : p_X1_readHead_J245 v4 v5 v9 xk rb srow ssp sen str stp rdr rpd rpv rpc rzp = some (sspz, senz, strz, stpz, rpdz, rpvz, rpcz, rzpz)) : GG κ E (xws E xk xo xc xt xn xl rc rv rb la wch wcc wpl wun srow sspz senz strz stpz swd rwp rdr rpdz rpvz rpcz rzpz, none) (xws E xk xo xc xt xn xl rc rv rb la wch wcc wpl wun srow ssp sen str stp swd rwp rdr rpd rpv rpc rzp) 245 [some (.ref (ea E 42)), none, none, none, some (.int v4), some (.long v5), none, none, none, some (.long v9), none, none, none, none] [.ref (ea E 40)] := by
  unfold p_X1_readHead_J245 at h
  refine g_iconst (pc' := 246) (v := (nI 0)) hC dX1_readHead_245 (by decide) rfl ?_
  exact w_X1_readHead_J246 hC   h
set_option maxRecDepth 200000 in
theorem w_X1_readHead_J219 {κ : GK} {E : GE} {sspz : Int32} {senz : Int32} {strz : Int32} {stpz : Int32} {rpdz : Int32} {rpvz : Int32} {rpcz : Int32} {rzpz : Int32} {v4 : Int32} {v5 : Int64} {v9 : Int64} {s0 : Int32}  (hC : gC κ E cX1_readHead RX1 none rm_X1_readHead 14)   (h : p_X1_readHead_J219 v4 v5 v9 s0 xk rb srow ssp sen str stp rdr rpd rpv rpc rzp = some (sspz, senz, strz, stpz, rpdz, rpvz, rpcz, rzpz)) : GG κ E (xws E xk xo xc xt xn xl rc rv rb la wch wcc wpl wun srow sspz senz strz stpz swd rwp rdr rpdz rpvz rpcz rzpz, none) (xws E xk xo xc xt xn xl rc rv rb la wch wcc wpl wun srow ssp sen str stp swd rwp rdr rpd rpv rpc rzp) 219 [some (.ref (ea E 42)), none, none, none, some (.int v4), some (.long v5), none, none, none, some (.long v9), none, none, none, none] [.int s0] := by
  unfold p_X1_readHead_J219 at h
  refine g_istore (pc' := 221) (i := 11) (lo' := [some (.ref (ea E 42)), none, none, none, some (.int v4), some (.long v5), none, none, none, some (.long v9), none, some (.int s0), none, none]) hC dX1_readHead_219 rfl rfl rfl rfl ?_
  refine g_aload_n (pc' := 222) (i := 0) hC dX1_readHead_221 rfl rfl rfl ?_
  refine gf_X1_12 (pc' := 225) hC dX1_readHead_222 rfl ?_
  refine g_lload (pc' := 227) (i := 9) hC dX1_readHead_225 rfl rfl ?_
  refine g_lconst (pc' := 228) (v := (lN 0)) hC dX1_readHead_227 (by decide) rfl ?_
  refine g_lcmp_lt (pc' := 232) (tgt := 245) hC dX1_readHead_228 dX1_readHead_229 rfl (by decide) rfl h (fun h => ?_) (fun h => ?_)
  · refine g_weak (lo' := [some (.ref (ea E 42)), none, none, none, some (.int v4), some (.long v5), none, none, none, some (.long v9), none, none, none, none]) rfl ?_
    exact w_X1_readHead_J245 hC   h
  · refine g_lload (pc' := 234) (i := 9) hC dX1_readHead_232 rfl rfl ?_
    refine g_iload (pc' := 236) (i := 11) hC dX1_readHead_234 rfl rfl ?_
    refine g_i2l (pc' := 237) hC dX1_readHead_236 rfl ?_
    refine g_lcmp_gt (pc' := 241) (tgt := 245) hC dX1_readHead_237 dX1_readHead_238 rfl (by decide) rfl h (fun h => ?_) (fun h => ?_)
    · refine g_weak (lo' := [some (.ref (ea E 42)), none, none, none, some (.int v4), some (.long v5), none, none, none, some (.long v9), none, none, none, none]) rfl ?_
      exact w_X1_readHead_J245 hC   h
    · refine g_iconst (pc' := 242) (v := (nI 1)) hC dX1_readHead_241 (by decide) rfl ?_
      refine g_goto (tgt := 246) hC dX1_readHead_242 (by decide) ?_
      refine g_weak (lo' := [some (.ref (ea E 42)), none, none, none, some (.int v4), some (.long v5), none, none, none, some (.long v9), none, none, none, none]) rfl ?_
      exact w_X1_readHead_J246 hC   h
set_option maxRecDepth 200000 in
theorem w_X1_readHead_J188 {κ : GK} {E : GE} {sspz : Int32} {senz : Int32} {strz : Int32} {stpz : Int32} {rpdz : Int32} {rpvz : Int32} {rpcz : Int32} {rzpz : Int32} {v4 : Int32} {v5 : Int64} {s1 : Int32}  (hC : gC κ E cX1_readHead RX1 none rm_X1_readHead 14)   (h : p_X1_readHead_J188 v4 v5 s1 xk xc rb srow ssp sen str stp rdr rpd rpv rpc rzp = some (sspz, senz, strz, stpz, rpdz, rpvz, rpcz, rzpz)) : GG κ E (xws E xk xo xc xt xn xl rc rv rb la wch wcc wpl wun srow sspz senz strz stpz swd rwp rdr rpdz rpvz rpcz rzpz, none) (xws E xk xo xc xt xn xl rc rv rb la wch wcc wpl wun srow ssp sen str stp swd rwp rdr rpd rpv rpc rzp) 188 [some (.ref (ea E 42)), none, none, none, some (.int v4), some (.long v5), none, none, none, none, none, none, none, none] [.int s1, .ref (ea E 40)] := by
  unfold p_X1_readHead_J188 at h
  obtain ⟨ssp_31, str_32, stp_33, hc_34, h⟩ := bd3_some h
  refine g_callV (pc' := 191) hC (c_X4_expect _ hc_34) ml_X1_100 (rc_Src) (by decide) rfl rfl rfl rfl dX1_readHead_188 rfl ?_
  refine g_aload_n (pc' := 192) (i := 0) hC dX1_readHead_191 rfl rfl rfl ?_
  obtain ⟨a_35, ssp_36, str_37, stp_38, rzp_39, hc_40, h⟩ := bd5_some h
  refine g_callV (pc' := 195) hC (c_X1_nextZigField _ hc_40) ml_X1_84 (rc_Rd) (by decide) rfl rfl rfl rfl dX1_readHead_192 rfl ?_
  refine g_lstore (pc' := 197) (i := 9) (lo' := [some (.ref (ea E 42)), none, none, none, some (.int v4), some (.long v5), none, none, none, some (.long a_35), none, none, none, none]) hC dX1_readHead_195 rfl rfl rfl rfl ?_
  refine g_iload (pc' := 199) (i := 4) hC dX1_readHead_197 rfl rfl ?_
  refine g_if_eq (pc' := 202) (tgt := 216) hC dX1_readHead_199 (by decide) rfl h (fun h => ?_) (fun h => ?_)
  · refine g_sipush (pc' := 219) (v := (nI 200)) hC dX1_readHead_216 (by decide) rfl ?_
    exact w_X1_readHead_J219 hC   h
  · refine g_sipush (pc' := 205) (v := (nI 200)) hC dX1_readHead_202 (by decide) rfl ?_
    refine g_aload_n (pc' := 206) (i := 0) hC dX1_readHead_205 rfl rfl rfl ?_
    refine gf_X1_21 (pc' := 209) hC dX1_readHead_206 rfl ?_
    refine gf_X1_104 (pc' := 212) hC (by decide) dX1_readHead_209 rfl ?_
    refine g_isub (pc' := 213) hC dX1_readHead_212 rfl ?_
    refine g_goto (tgt := 219) hC dX1_readHead_213 (by decide) ?_
    exact w_X1_readHead_J219 hC   h
set_option maxRecDepth 200000 in
theorem w_X1_readHead_J163 {κ : GK} {E : GE} {sspz : Int32} {senz : Int32} {strz : Int32} {stpz : Int32} {rpdz : Int32} {rpvz : Int32} {rpcz : Int32} {rzpz : Int32} {v4 : Int32} {v5 : Int64} {s1 : Int32}  (hC : gC κ E cX1_readHead RX1 none rm_X1_readHead 14)   (h : p_X1_readHead_J163 v4 v5 s1 xk xc rb srow ssp sen str stp rdr rpd rpv rpc rzp = some (sspz, senz, strz, stpz, rpdz, rpvz, rpcz, rzpz)) : GG κ E (xws E xk xo xc xt xn xl rc rv rb la wch wcc wpl wun srow sspz senz strz stpz swd rwp rdr rpdz rpvz rpcz rzpz, none) (xws E xk xo xc xt xn xl rc rv rb la wch wcc wpl wun srow ssp sen str stp swd rwp rdr rpd rpv rpc rzp) 163 [some (.ref (ea E 42)), none, none, none, some (.int v4), some (.long v5), none, none, none, none, none, none, none, none] [.int s1, .ref (ea E 40)] := by
  unfold p_X1_readHead_J163 at h
  refine g_bipush (pc' := 165) (v := (nI 8)) hC dX1_readHead_163 (by decide) rfl ?_
  refine g_aload_n (pc' := 166) (i := 0) hC dX1_readHead_165 rfl rfl rfl ?_
  refine gf_X1_93 (pc' := 169) hC dX1_readHead_166 rfl ?_
  obtain ⟨str_28, stp_29, hc_30, h⟩ := bd2_some h
  refine g_callV (pc' := 172) hC (c_X4_demand _ hc_30) ml_X1_96 (rc_Src) (by decide) rfl rfl rfl rfl dX1_readHead_169 rfl ?_
  refine g_aload_n (pc' := 173) (i := 0) hC dX1_readHead_172 rfl rfl rfl ?_
  refine gf_X1_12 (pc' := 176) hC dX1_readHead_173 rfl ?_
  refine g_iload (pc' := 178) (i := 4) hC dX1_readHead_176 rfl rfl ?_
  refine g_if_eq (pc' := 181) (tgt := 186) hC dX1_readHead_178 (by decide) rfl h (fun h => ?_) (fun h => ?_)
  · refine g_bipush (pc' := 188) (v := (nI 76)) hC dX1_readHead_186 (by decide) rfl ?_
    exact w_X1_readHead_J188 hC   h
  · refine g_bipush (pc' := 183) (v := (nI 44)) hC dX1_readHead_181 (by decide) rfl ?_
    refine g_goto (tgt := 188) hC dX1_readHead_183 (by decide) ?_
    exact w_X1_readHead_J188 hC   h
set_option maxRecDepth 200000 in
theorem w_X1_readHead_J131 {κ : GK} {E : GE} {sspz : Int32} {senz : Int32} {strz : Int32} {stpz : Int32} {rpdz : Int32} {rpvz : Int32} {rpcz : Int32} {rzpz : Int32} {v4 : Int32} {v5 : Int64} {s1 : Int32}  (hC : gC κ E cX1_readHead RX1 none rm_X1_readHead 14)   (h : p_X1_readHead_J131 v4 v5 s1 xk xc rb srow ssp sen str stp rdr rpd rpv rpc rzp = some (sspz, senz, strz, stpz, rpdz, rpvz, rpcz, rzpz)) : GG κ E (xws E xk xo xc xt xn xl rc rv rb la wch wcc wpl wun srow sspz senz strz stpz swd rwp rdr rpdz rpvz rpcz rzpz, none) (xws E xk xo xc xt xn xl rc rv rb la wch wcc wpl wun srow ssp sen str stp swd rwp rdr rpd rpv rpc rzp) 131 [some (.ref (ea E 42)), none, none, none, some (.int v4), some (.long v5), none, none, none, none, none, none, none, none] [.int s1, .ref (ea E 40)] := by
  unfold p_X1_readHead_J131 at h
  refine g_bipush (pc' := 133) (v := (nI 8)) hC dX1_readHead_131 (by decide) rfl ?_
  refine g_aload_n (pc' := 134) (i := 0) hC dX1_readHead_133 rfl rfl rfl ?_
  refine gf_X1_93 (pc' := 137) hC dX1_readHead_134 rfl ?_
  obtain ⟨str_19, stp_20, hc_21, h⟩ := bd2_some h
  refine g_callV (pc' := 140) hC (c_X4_demand _ hc_21) ml_X1_96 (rc_Src) (by decide) rfl rfl rfl rfl dX1_readHead_137 rfl ?_
  refine g_aload_n (pc' := 141) (i := 0) hC dX1_readHead_140 rfl rfl rfl ?_
  obtain ⟨a_22, ssp_23, str_24, stp_25, rzp_26, hc_27, h⟩ := bd5_some h
  refine g_callV (pc' := 144) hC (c_X1_nextZigField _ hc_27) ml_X1_84 (rc_Rd) (by decide) rfl rfl rfl rfl dX1_readHead_141 rfl ?_
  refine g_lstore (pc' := 146) (i := 7) (lo' := [some (.ref (ea E 42)), none, none, none, some (.int v4), some (.long v5), none, some (.long a_22), none, none, none, none, none, none]) hC dX1_readHead_144 rfl rfl rfl rfl ?_
  refine g_aload_n (pc' := 147) (i := 0) hC dX1_readHead_146 rfl rfl rfl ?_
  refine gf_X1_12 (pc' := 150) hC dX1_readHead_147 rfl ?_
  refine g_lload (pc' := 152) (i := 7) hC dX1_readHead_150 rfl rfl ?_
  refine g_lload (pc' := 154) (i := 5) hC dX1_readHead_152 rfl rfl ?_
  refine g_lcmp_ne (pc' := 158) (tgt := 162) hC dX1_readHead_154 dX1_readHead_155 rfl (by decide) rfl h (fun h => ?_) (fun h => ?_)
  · refine g_iconst (pc' := 159) (v := (nI 1)) hC dX1_readHead_158 (by decide) rfl ?_
    refine g_goto (tgt := 163) hC dX1_readHead_159 (by decide) ?_
    refine g_weak (lo' := [some (.ref (ea E 42)), none, none, none, some (.int v4), some (.long v5), none, none, none, none, none, none, none, none]) rfl ?_
    exact w_X1_readHead_J163 hC   h
  · refine g_iconst (pc' := 163) (v := (nI 0)) hC dX1_readHead_162 (by decide) rfl ?_
    refine g_weak (lo' := [some (.ref (ea E 42)), none, none, none, some (.int v4), some (.long v5), none, none, none, none, none, none, none, none]) rfl ?_
    exact w_X1_readHead_J163 hC   h
set_option maxRecDepth 200000 in
theorem w_X1_readHead_J130 {κ : GK} {E : GE} {sspz : Int32} {senz : Int32} {strz : Int32} {stpz : Int32} {rpdz : Int32} {rpvz : Int32} {rpcz : Int32} {rzpz : Int32} {v4 : Int32} {v5 : Int64}  (hC : gC κ E cX1_readHead RX1 none rm_X1_readHead 14)   (h : p_X1_readHead_J130 v4 v5 xk xc rb srow ssp sen str stp rdr rpd rpv rpc rzp = some (sspz, senz, strz, stpz, rpdz, rpvz, rpcz, rzpz)) : GG κ E (xws E xk xo xc xt xn xl rc rv rb la wch wcc wpl wun srow sspz senz strz stpz swd rwp rdr rpdz rpvz rpcz rzpz, none) (xws E xk xo xc xt xn xl rc rv rb la wch wcc wpl wun srow ssp sen str stp swd rwp rdr rpd rpv rpc rzp) 130 [some (.ref (ea E 42)), none, none, none, some (.int v4), some (.long v5), none, none, none, none, none, none, none, none] [.ref (ea E 40)] := by
  unfold p_X1_readHead_J130 at h
  refine g_iconst (pc' := 131) (v := (nI 0)) hC dX1_readHead_130 (by decide) rfl ?_
  exact w_X1_readHead_J131 hC   h
set_option maxRecDepth 200000 in
theorem w_X1_readHead_J89 {κ : GK} {E : GE} {sspz : Int32} {senz : Int32} {strz : Int32} {stpz : Int32} {rpdz : Int32} {rpvz : Int32} {rpcz : Int32} {rzpz : Int32} {v1 : Int32} {v4 : Int32} {s1 : Int32}  (hC : gC κ E cX1_readHead RX1 none rm_X1_readHead 14)   (h : p_X1_readHead_J89 v1 v4 s1 xk xc rb srow ssp sen str stp rdr rpd rpv rpc rzp = some (sspz, senz, strz, stpz, rpdz, rpvz, rpcz, rzpz)) : GG κ E (xws E xk xo xc xt xn xl rc rv rb la wch wcc wpl wun srow sspz senz strz stpz swd rwp rdr rpdz rpvz rpcz rzpz, none) (xws E xk xo xc xt xn xl rc rv rb la wch wcc wpl wun srow ssp sen str stp swd rwp rdr rpd rpv rpc rzp) 89 [some (.ref (ea E 42)), some (.int v1), none, none, some (.int v4), none, none, none, none, none, none, none, none, none] [.int s1, .ref (ea E 40)] := by
  unfold p_X1_readHead_J89 at h
  refine g_bipush (pc' := 91) (v := (nI 9)) hC dX1_readHead_89 (by decide) rfl ?_
  refine g_iload_n (pc' := 92) (i := 1) hC dX1_readHead_91 rfl rfl rfl ?_
  obtain ⟨str_10, stp_11, hc_12, h⟩ := bd2_some h
  refine g_callV (pc' := 95) hC (c_X4_demand _ hc_12) ml_X1_96 (rc_Src) (by decide) rfl rfl rfl rfl dX1_readHead_92 rfl ?_
  refine g_aload_n (pc' := 96) (i := 0) hC dX1_readHead_95 rfl rfl rfl ?_
  obtain ⟨a_13, ssp_14, str_15, stp_16, rzp_17, hc_18, h⟩ := bd5_some h
  refine g_callV (pc' := 99) hC (c_X1_nextZigField _ hc_18) ml_X1_84 (rc_Rd) (by decide) rfl rfl rfl rfl dX1_readHead_96 rfl ?_
  refine g_lstore (pc' := 101) (i := 5) (lo' := [some (.ref (ea E 42)), some (.int v1), none, none, some (.int v4), some (.long a_13), none, none, none, none, none, none, none, none]) hC dX1_readHead_99 rfl rfl rfl rfl ?_
  refine g_aload_n (pc' := 102) (i := 0) hC dX1_readHead_101 rfl rfl rfl ?_
  refine gf_X1_12 (pc' := 105) hC dX1_readHead_102 rfl ?_
  refine g_lload (pc' := 107) (i := 5) hC dX1_readHead_105 rfl rfl ?_
  refine g_lconst (pc' := 108) (v := (lN 0)) hC dX1_readHead_107 (by decide) rfl ?_
  refine g_lcmp_lt (pc' := 112) (tgt := 130) hC dX1_readHead_108 dX1_readHead_109 rfl (by decide) rfl h (fun h => ?_) (fun h => ?_)
  · refine g_weak (lo' := [some (.ref (ea E 42)), none, none, none, some (.int v4), some (.long a_13), none, none, none, none, none, none, none, none]) rfl ?_
    exact w_X1_readHead_J130 hC   h
  · refine g_lload (pc' := 114) (i := 5) hC dX1_readHead_112 rfl rfl ?_
    refine g_aload_n (pc' := 115) (i := 0) hC dX1_readHead_114 rfl rfl rfl ?_
    refine gf_X1_12 (pc' := 118) hC dX1_readHead_115 rfl ?_
    obtain ⟨a_71, hc_72, h⟩ := bd1_some h
    refine g_callV (pc' := 121) hC (c_X4_left _ hc_72) ml_X1_54 (rc_Src) (by decide) rfl rfl rfl rfl dX1_readHead_118 rfl ?_
    refine g_i2l (pc' := 122) hC dX1_readHead_121 rfl ?_
    refine g_lcmp_gt (pc' := 126) (tgt := 130) hC dX1_readHead_122 dX1_readHead_123 rfl (by decide) rfl h (fun h => ?_) (fun h => ?_)
    · refine g_weak (lo' := [some (.ref (ea E 42)), none, none, none, some (.int v4), some (.long a_13), none, none, none, none, none, none, none, none]) rfl ?_
      exact w_X1_readHead_J130 hC   h
    · refine g_iconst (pc' := 127) (v := (nI 1)) hC dX1_readHead_126 (by decide) rfl ?_
      refine g_goto (tgt := 131) hC dX1_readHead_127 (by decide) ?_
      refine g_weak (lo' := [some (.ref (ea E 42)), none, none, none, some (.int v4), some (.long a_13), none, none, none, none, none, none, none, none]) rfl ?_
      exact w_X1_readHead_J131 hC   h
set_option maxRecDepth 200000 in
theorem w_X1_readHead_J84 {κ : GK} {E : GE} {sspz : Int32} {senz : Int32} {strz : Int32} {stpz : Int32} {rpdz : Int32} {rpvz : Int32} {rpcz : Int32} {rzpz : Int32} {v1 : Int32} {v4 : Int32}  (hC : gC κ E cX1_readHead RX1 none rm_X1_readHead 14)   (h : p_X1_readHead_J84 v1 v4 xk xc rb srow ssp sen str stp rdr rpd rpv rpc rzp = some (sspz, senz, strz, stpz, rpdz, rpvz, rpcz, rzpz)) : GG κ E (xws E xk xo xc xt xn xl rc rv rb la wch wcc wpl wun srow sspz senz strz stpz swd rwp rdr rpdz rpvz rpcz rzpz, none) (xws E xk xo xc xt xn xl rc rv rb la wch wcc wpl wun srow ssp sen str stp swd rwp rdr rpd rpv rpc rzp) 84 [some (.ref (ea E 42)), some (.int v1), none, none, some (.int v4), none, none, none, none, none, none, none, none, none] [.ref (ea E 40)] := by
  unfold p_X1_readHead_J84 at h
  refine g_iconst (pc' := 85) (v := (nI 1)) hC dX1_readHead_84 (by decide) rfl ?_
  refine g_goto (tgt := 89) hC dX1_readHead_85 (by decide) ?_
  exact w_X1_readHead_J89 hC   h
set_option maxRecDepth 200000 in
theorem w_X1_readHead_J59 {κ : GK} {E : GE} {sspz : Int32} {senz : Int32} {strz : Int32} {stpz : Int32} {rpdz : Int32} {rpvz : Int32} {rpcz : Int32} {rzpz : Int32} {v1 : Int32} {v4 : Int32} {s1 : Int32}  (hC : gC κ E cX1_readHead RX1 none rm_X1_readHead 14)   (h : p_X1_readHead_J59 v1 v4 s1 xk xc rb srow ssp sen str stp rwp rdr rpd rpv rpc rzp = some (sspz, senz, strz, stpz, rpdz, rpvz, rpcz, rzpz)) : GG κ E (xws E xk xo xc xt xn xl rc rv rb la wch wcc wpl wun srow sspz senz strz stpz swd rwp rdr rpdz rpvz rpcz rzpz, none) (xws E xk xo xc xt xn xl rc rv rb la wch wcc wpl wun srow ssp sen str stp swd rwp rdr rpd rpv rpc rzp) 59 [some (.ref (ea E 42)), some (.int v1), none, none, some (.int v4), none, none, none, none, none, none, none, none, none] [.int s1, .ref (ea E 40)] := by
  unfold p_X1_readHead_J59 at h
  refine g_bipush (pc' := 61) (v := (nI 8)) hC dX1_readHead_59 (by decide) rfl ?_
  refine g_aload_n (pc' := 62) (i := 0) hC dX1_readHead_61 rfl rfl rfl ?_
  refine gf_X1_93 (pc' := 65) hC dX1_readHead_62 rfl ?_
  obtain ⟨str_7, stp_8, hc_9, h⟩ := bd2_some h
  refine g_callV (pc' := 68) hC (c_X4_demand _ hc_9) ml_X1_96 (rc_Src) (by decide) rfl rfl rfl rfl dX1_readHead_65 rfl ?_
  refine g_aload_n (pc' := 69) (i := 0) hC dX1_readHead_68 rfl rfl rfl ?_
  refine gf_X1_12 (pc' := 72) hC dX1_readHead_69 rfl ?_
  refine g_iload (pc' := 74) (i := 4) hC dX1_readHead_72 rfl rfl ?_
  refine g_if_ne (pc' := 77) (tgt := 84) hC dX1_readHead_74 (by decide) rfl h (fun h => ?_) (fun h => ?_)
  · refine g_aload_n (pc' := 78) (i := 0) hC dX1_readHead_77 rfl rfl rfl ?_
    refine gf_X1_42 (pc' := 81) hC dX1_readHead_78 rfl ?_
    refine g_if_ne (pc' := 84) (tgt := 88) hC dX1_readHead_81 (by decide) rfl h (fun h => ?_) (fun h => ?_)
    · exact w_X1_readHead_J84 hC   h
    · refine g_iconst (pc' := 89) (v := (nI 0)) hC dX1_readHead_88 (by decide) rfl ?_
      exact w_X1_readHead_J89 hC   h
  · exact w_X1_readHead_J84 hC   h
set_option maxRecDepth 200000 in
theorem w_X1_readHead_J58 {κ : GK} {E : GE} {sspz : Int32} {senz : Int32} {strz : Int32} {stpz : Int32} {rpdz : Int32} {rpvz : Int32} {rpcz : Int32} {rzpz : Int32} {v1 : Int32} {v4 : Int32}  (hC : gC κ E cX1_readHead RX1 none rm_X1_readHead 14)   (h : p_X1_readHead_J58 v1 v4 xk xc rb srow ssp sen str stp rwp rdr rpd rpv rpc rzp = some (sspz, senz, strz, stpz, rpdz, rpvz, rpcz, rzpz)) : GG κ E (xws E xk xo xc xt xn xl rc rv rb la wch wcc wpl wun srow sspz senz strz stpz swd rwp rdr rpdz rpvz rpcz rzpz, none) (xws E xk xo xc xt xn xl rc rv rb la wch wcc wpl wun srow ssp sen str stp swd rwp rdr rpd rpv rpc rzp) 58 [some (.ref (ea E 42)), some (.int v1), none, none, some (.int v4), none, none, none, none, none, none, none, none, none] [.ref (ea E 40)] := by
  unfold p_X1_readHead_J58 at h
  refine g_iconst (pc' := 59) (v := (nI 0)) hC dX1_readHead_58 (by decide) rfl ?_
  exact w_X1_readHead_J59 hC   h
set_option maxRecDepth 200000 in
theorem w_X1_readHead_J54 {κ : GK} {E : GE} {sspz : Int32} {senz : Int32} {strz : Int32} {stpz : Int32} {rpdz : Int32} {rpvz : Int32} {rpcz : Int32} {rzpz : Int32} {v1 : Int32} {v4 : Int32}  (hC : gC κ E cX1_readHead RX1 none rm_X1_readHead 14)   (h : p_X1_readHead_J54 v1 v4 xk xc rb srow ssp sen str stp rwp rdr rpd rpv rpc rzp = some (sspz, senz, strz, stpz, rpdz, rpvz, rpcz, rzpz)) : GG κ E (xws E xk xo xc xt xn xl rc rv rb la wch wcc wpl wun srow sspz senz strz stpz swd rwp rdr rpdz rpvz rpcz rzpz, none) (xws E xk xo xc xt xn xl rc rv rb la wch wcc wpl wun srow ssp sen str stp swd rwp rdr rpd rpv rpc rzp) 54 [some (.ref (ea E 42)), some (.int v1), none, none, some (.int v4), none, none, none, none, none, none, none, none, none] [.ref (ea E 40)] := by
  unfold p_X1_readHead_J54 at h
  refine g_iconst (pc' := 55) (v := (nI 1)) hC dX1_readHead_54 (by decide) rfl ?_
  refine g_goto (tgt := 59) hC dX1_readHead_55 (by decide) ?_
  exact w_X1_readHead_J59 hC   h
set_option maxRecDepth 200000 in
theorem w_X1_readHead_J24 {κ : GK} {E : GE} {sspz : Int32} {senz : Int32} {strz : Int32} {stpz : Int32} {rpdz : Int32} {rpvz : Int32} {rpcz : Int32} {rzpz : Int32} {v1 : Int32} {v2 : Int64} {s0 : Int32}  (hC : gC κ E cX1_readHead RX1 none rm_X1_readHead 14)   (h : p_X1_readHead_J24 v1 v2 s0 xk xc rb srow ssp sen str stp rwp rdr rpd rpv rpc rzp = some (sspz, senz, strz, stpz, rpdz, rpvz, rpcz, rzpz)) : GG κ E (xws E xk xo xc xt xn xl rc rv rb la wch wcc wpl wun srow sspz senz strz stpz swd rwp rdr rpdz rpvz rpcz rzpz, none) (xws E xk xo xc xt xn xl rc rv rb la wch wcc wpl wun srow ssp sen str stp swd rwp rdr rpd rpv rpc rzp) 24 [some (.ref (ea E 42)), some (.int v1), some (.long v2), none, none, none, none, none, none, none, none, none, none, none] [.int s0] := by
  unfold p_X1_readHead_J24 at h
  refine g_istore (pc' := 26) (i := 4) (lo' := [some (.ref (ea E 42)), some (.int v1), some (.long v2), none, some (.int s0), none, none, none, none, none, none, none, none, none]) hC dX1_readHead_24 rfl rfl rfl rfl ?_
  refine g_aload_n (pc' := 27) (i := 0) hC dX1_readHead_26 rfl rfl rfl ?_
  refine gf_X1_12 (pc' := 30) hC dX1_readHead_27 rfl ?_
  refine g_iload (pc' := 32) (i := 4) hC dX1_readHead_30 rfl rfl ?_
  refine g_if_ne (pc' := 35) (tgt := 54) hC dX1_readHead_32 (by decide) rfl h (fun h => ?_) (fun h => ?_)
  · refine g_lload_n (pc' := 36) (i := 2) hC dX1_readHead_35 rfl rfl rfl ?_
    refine g_ldc2_w (pc' := 39) (v := (lN 2)) hC u_7 dX1_readHead_36 rfl ?_
    refine g_lcmp_ne (pc' := 43) (tgt := 58) hC dX1_readHead_39 dX1_readHead_40 rfl (by decide) rfl h (fun h => ?_) (fun h => ?_)
    · refine g_aload_n (pc' := 44) (i := 0) hC dX1_readHead_43 rfl rfl rfl ?_
      refine gf_X1_21 (pc' := 47) hC dX1_readHead_44 rfl ?_
      refine gf_X1_90 (pc' := 50) hC (by decide) dX1_readHead_47 rfl ?_
      refine g_iconst (pc' := 51) (v := (nI 3)) hC dX1_readHead_50 (by decide) rfl ?_
      refine g_icmp_eq (pc' := 54) (tgt := 58) hC dX1_readHead_51 (by decide) rfl h (fun h => ?_) (fun h => ?_)
      · refine g_weak (lo' := [some (.ref (ea E 42)), some (.int v1), none, none, some (.int s0), none, none, none, none, none, none, none, none, none]) rfl ?_
        exact w_X1_readHead_J58 hC   h
      · refine g_weak (lo' := [some (.ref (ea E 42)), some (.int v1), none, none, some (.int s0), none, none, none, none, none, none, none, none, none]) rfl ?_
        exact w_X1_readHead_J54 hC   h
    · refine g_weak (lo' := [some (.ref (ea E 42)), some (.int v1), none, none, some (.int s0), none, none, none, none, none, none, none, none, none]) rfl ?_
      exact w_X1_readHead_J58 hC   h
  · refine g_weak (lo' := [some (.ref (ea E 42)), some (.int v1), none, none, some (.int s0), none, none, none, none, none, none, none, none, none]) rfl ?_
    exact w_X1_readHead_J54 hC   h
set_option maxRecDepth 200000 in
theorem c_X1_readHead (l : Launch) {E : GE} {sspz : Int32} {senz : Int32} {strz : Int32} {stpz : Int32} {rpdz : Int32} {rpvz : Int32} {rpcz : Int32} {rzpz : Int32}   (h : p_X1_readHead xk xc rb srow ssp sen str stp rwp rdr rpd rpv rpc rzp = some (sspz, senz, strz, stpz, rpdz, rpvz, rpcz, rzpz)) : Met l yX1_readHead (.code yX1_readHead cX1_readHead 14 none :: gU) rm_X1_readHead (gP E (xws E xk xo xc xt xn xl rc rv rb la wch wcc wpl wun srow ssp sen str stp swd rwp rdr rpd rpv rpc rzp) [.ref (ea E 42)]) (gQ E (xws E xk xo xc xt xn xl rc rv rb la wch wcc wpl wun srow sspz senz strz stpz swd rwp rdr rpdz rpvz rpcz rzpz) none) 0 0 E.2.2.1 := by
  refine met_of (y := yX1_readHead) (own := RX1) (lo := [some (.ref (ea E 42)), none, none, none, none, none, none, none, none, none, none, none, none, none]) (by decide) rfl rfl rfl (fun κ hl hC => ?_)
  subst hl
  unfold p_X1_readHead at h
  refine g_aload_n (pc' := 1) (i := 0) hC dX1_readHead_0 rfl rfl rfl ?_
  refine gf_X1_12 (pc' := 4) hC dX1_readHead_1 rfl ?_
  refine gf_X1_81 (pc' := 7) hC dX1_readHead_4 rfl ?_
  refine g_istore_n (pc' := 8) (i := 1) (lo' := [some (.ref (ea E 42)), some (.int ssp), none, none, none, none, none, none, none, none, none, none, none, none]) hC dX1_readHead_7 rfl rfl rfl rfl rfl ?_
  refine g_aload_n (pc' := 9) (i := 0) hC dX1_readHead_8 rfl rfl rfl ?_
  obtain ⟨a_1, ssp_2, str_3, stp_4, rzp_5, hc_6, h⟩ := bd5_some h
  refine g_callV (pc' := 12) hC (c_X1_nextZigField _ hc_6) ml_X1_84 (rc_Rd) (by decide) rfl rfl rfl rfl dX1_readHead_9 rfl ?_
  refine g_lstore_n (pc' := 13) (i := 2) (lo' := [some (.ref (ea E 42)), some (.int ssp), some (.long a_1), none, none, none, none, none, none, none, none, none, none, none]) hC dX1_readHead_12 rfl rfl rfl rfl rfl ?_
  refine g_lload_n (pc' := 14) (i := 2) hC dX1_readHead_13 rfl rfl rfl ?_
  refine g_lconst (pc' := 15) (v := (lN 0)) hC dX1_readHead_14 (by decide) rfl ?_
  refine g_lcmp_ne (pc' := 19) (tgt := 23) hC dX1_readHead_15 dX1_readHead_16 rfl (by decide) rfl h (fun h => ?_) (fun h => ?_)
  · refine g_iconst (pc' := 20) (v := (nI 1)) hC dX1_readHead_19 (by decide) rfl ?_
    refine g_goto (tgt := 24) hC dX1_readHead_20 (by decide) ?_
    exact w_X1_readHead_J24 hC   h
  · refine g_iconst (pc' := 24) (v := (nI 0)) hC dX1_readHead_23 (by decide) rfl ?_
    exact w_X1_readHead_J24 hC   h
set_option maxRecDepth 200000 in
theorem c_X4_begin (l : Launch) {E : GE} {srowz : Option Nat} {sspz : Int32} {senz : Int32} {strz : Int32} {stpz : Int32} {v1 : Nat} (hv1 : v1 < 4) (h : p_X4_begin v1 rc srow ssp sen str stp = some (srowz, sspz, senz, strz, stpz)) : Met l yX4_begin (.code yX4_begin cX4_begin 2 none :: gU) rm_X4_begin (gP E (xws E xk xo xc xt xn xl rc rv rb la wch wcc wpl wun srow ssp sen str stp swd rwp rdr rpd rpv rpc rzp) [.ref (ea E 40), .ref (ea E (24 + 2 * v1))]) (gQ E (xws E xk xo xc xt xn xl rc rv rb la wch wcc wpl wun srowz sspz senz strz stpz swd rwp rdr rpd rpv rpc rzp) none) 0 0 E.2.2.1 := by
  refine met_of (y := yX4_begin) (own := RX4) (lo := [some (.ref (ea E 40)), some (.ref (ea E (24 + 2 * v1)))]) (by decide) rfl rfl rfl (fun κ hl hC => ?_)
  subst hl
  unfold p_X4_begin at h
  refine g_aload_n (pc' := 1) (i := 0) hC dX4_begin_0 rfl rfl rfl ?_
  refine g_aload_n (pc' := 2) (i := 1) hC dX4_begin_1 rfl rfl rfl ?_
  refine pf_X4_15 (pc' := 5) hC dX4_begin_2 rfl ?_
  refine g_aload_n (pc' := 6) (i := 0) hC dX4_begin_5 rfl rfl rfl ?_
  refine g_iconst (pc' := 7) (v := (nI 0)) hC dX4_begin_6 (by decide) rfl ?_
  refine pf_X4_19 (pc' := 10) hC dX4_begin_7 rfl ?_
  refine g_aload_n (pc' := 11) (i := 0) hC dX4_begin_10 rfl rfl rfl ?_
  refine g_aload_n (pc' := 12) (i := 1) hC dX4_begin_11 rfl rfl rfl ?_
  refine gf_X4_23 (pc' := 15) hC hv1 dX4_begin_12 rfl ?_
  refine pf_X4_28 (pc' := 18) hC dX4_begin_15 rfl ?_
  refine g_aload_n (pc' := 19) (i := 0) hC dX4_begin_18 rfl rfl rfl ?_
  refine g_iconst (pc' := 20) (v := (nI 0)) hC dX4_begin_19 (by decide) rfl ?_
  refine pf_X4_31 (pc' := 23) hC dX4_begin_20 rfl ?_
  refine g_aload_n (pc' := 24) (i := 0) hC dX4_begin_23 rfl rfl rfl ?_
  refine g_iconst (pc' := 25) (v := (nI 0)) hC dX4_begin_24 (by decide) rfl ?_
  refine pf_X4_34 (pc' := 28) hC dX4_begin_25 rfl ?_
  obtain ⟨rfl, rfl, rfl, rfl, rfl⟩ := inj5 h; exact g_vret hC dX4_begin_28
end WALK
