section WALK
variable {xk : Nat → Int32} {xo : Nat → Int32} {xc : Nat → Int32} {xt : Nat → Nat → Int32} {xn : Nat → Nat → Int64} {xl : Nat → Nat → Int32} {rc : Nat → Int32} {rv : Nat → Int32} {rb : Nat → Nat → Int32} {la : Nat → Nat → Int64} {wch : Nat → Int32} {wcc : Int32} {wpl : Nat → Int32} {wun : Int32} {srow : Option Nat} {ssp : Int32} {sen : Int32} {str : Int32} {stp : Int32} {swd : Nat → Int32} {rwp : Int32} {rdr : Int32} {rpd : Int32} {rpv : Int32} {rpc : Int32} {rzp : Int32}
set_option maxRecDepth 200000 in
theorem w_X2_pushPlaces_L2 {κ : GK} {E : GE} {rcz : Nat → Int32} {rvz : Nat → Int32} {rbz : Nat → Nat → Int32} {laz : Nat → Nat → Int64}  {k71 : (Nat → Nat → Int64) → Option ((Nat → Int32) × (Nat → Int32) × (Nat → Nat → Int32) × (Nat → Nat → Int64))} (hC : gC κ E cX2_pushPlaces RX2 none rm_X2_pushPlaces 3)  (hk71 : ∀ (la : Nat → Nat → Int64), k71 la = some (rcz, rvz, rbz, laz) → GG κ E (xws E xk xo xc xt xn xl rcz rvz rbz laz wch wcc wpl wun srow ssp sen str stp swd rwp rdr rpd rpv rpc rzp, none) (xws E xk xo xc xt xn xl rc rv rb la wch wcc wpl wun srow ssp sen str stp swd rwp rdr rpd rpv rpc rzp) 71 [some (.ref (ea E 37)), none, none] []) : ∀ (n : Nat) (v1 : Int32) (la : Nat → Nat → Int64), itr2 (p_X2_pushPlaces_L2 wch wcc wpl k71) n v1 la = some (rcz, rvz, rbz, laz) → GG κ E (xws E xk xo xc xt xn xl rcz rvz rbz laz wch wcc wpl wun srow ssp sen str stp swd rwp rdr rpd rpv rpc rzp, none) (xws E xk xo xc xt xn xl rc rv rb la wch wcc wpl wun srow ssp sen str stp swd rwp rdr rpd rpv rpc rzp) 2 [some (.ref (ea E 37)), some (.int v1), none] [] :=
  itr2_ind (fun k2 hk2 v1 la h => by
    unfold p_X2_pushPlaces_L2 at h
    refine g_iload_n (pc' := 3) (i := 1) hC dX2_pushPlaces_2 rfl rfl rfl ?_
    refine g_aload_n (pc' := 4) (i := 0) hC dX2_pushPlaces_3 rfl rfl rfl ?_
    refine gf_X2_100 (pc' := 7) hC dX2_pushPlaces_4 rfl ?_
    refine g_icmp_ge (pc' := 10) (tgt := 71) hC dX2_pushPlaces_7 (by decide) rfl h (fun h => ?_) (fun h => ?_)
    · refine g_iload_n (pc' := 11) (i := 1) hC dX2_pushPlaces_10 rfl rfl rfl ?_
      refine g_aload_n (pc' := 12) (i := 0) hC dX2_pushPlaces_11 rfl rfl rfl ?_
      refine gf_X2_23 (pc' := 15) hC dX2_pushPlaces_12 rfl ?_
      refine al_wch (pc' := 16) hC dX2_pushPlaces_15 rfl ?_
      refine g_icmp_ge (pc' := 19) (tgt := 71) hC dX2_pushPlaces_16 (by decide) rfl h (fun h => ?_) (fun h => ?_)
      · refine g_iload_n (pc' := 20) (i := 1) hC dX2_pushPlaces_19 rfl rfl rfl ?_
        refine g_aload_n (pc' := 21) (i := 0) hC dX2_pushPlaces_20 rfl rfl rfl ?_
        refine gf_X2_30 (pc' := 24) hC dX2_pushPlaces_21 rfl ?_
        refine al_la (pc' := 25) hC (by decide) dX2_pushPlaces_24 rfl ?_
        refine g_icmp_ge (pc' := 28) (tgt := 71) hC dX2_pushPlaces_25 (by decide) rfl h (fun h => ?_) (fun h => ?_)
        · refine g_aload_n (pc' := 29) (i := 0) hC dX2_pushPlaces_28 rfl rfl rfl ?_
          refine gf_X2_23 (pc' := 32) hC dX2_pushPlaces_29 rfl ?_
          refine g_iload_n (pc' := 33) (i := 1) hC dX2_pushPlaces_32 rfl rfl rfl ?_
          obtain ⟨g_1, h⟩ := gd_some h
          refine ld_wch (pc' := 34) hC g_1 dX2_pushPlaces_33 rfl ?_
          refine g_istore_n (pc' := 35) (i := 2) (lo' := [some (.ref (ea E 37)), some (.int v1), some (.int (wch (ix v1)))]) hC dX2_pushPlaces_34 rfl rfl rfl rfl rfl ?_
          refine g_aload_n (pc' := 36) (i := 0) hC dX2_pushPlaces_35 rfl rfl rfl ?_
          refine gf_X2_30 (pc' := 39) hC dX2_pushPlaces_36 rfl ?_
          refine g_iload_n (pc' := 40) (i := 1) hC dX2_pushPlaces_39 rfl rfl rfl ?_
          refine g_iload_n (pc' := 41) (i := 2) hC dX2_pushPlaces_40 rfl rfl rfl ?_
          refine g_if_lt (pc' := 44) (tgt := 63) hC dX2_pushPlaces_41 (by decide) rfl h (fun h => ?_) (fun h => ?_)
          · refine g_lconst (pc' := 64) (v := (lN 0)) hC dX2_pushPlaces_63 (by decide) rfl ?_
            obtain ⟨g_2, h⟩ := gd_some h
            refine st_la (pc' := 65) hC (by decide) g_2 dX2_pushPlaces_64 rfl ?_
            refine g_iinc (pc' := 68) (i := 1) (x := v1) (k := (nI 1)) (lo' := [some (.ref (ea E 37)), some (.int (v1 + (nI 1))), some (.int (wch (ix v1)))]) hC dX2_pushPlaces_65 rfl (by decide) rfl rfl rfl rfl ?_
            refine g_goto (tgt := 2) hC dX2_pushPlaces_68 (by decide) ?_
            refine g_weak (lo' := [some (.ref (ea E 37)), some (.int (v1 + (nI 1))), none]) rfl ?_
            exact hk2 _ _ h
          · refine g_iload_n (pc' := 45) (i := 2) hC dX2_pushPlaces_44 rfl rfl rfl ?_
            refine g_aload_n (pc' := 46) (i := 0) hC dX2_pushPlaces_45 rfl rfl rfl ?_
            refine gf_X2_27 (pc' := 49) hC dX2_pushPlaces_46 rfl ?_
            refine al_wpl (pc' := 50) hC dX2_pushPlaces_49 rfl ?_
            refine g_icmp_ge (pc' := 53) (tgt := 63) hC dX2_pushPlaces_50 (by decide) rfl h (fun h => ?_) (fun h => ?_)
            · refine g_aload_n (pc' := 54) (i := 0) hC dX2_pushPlaces_53 rfl rfl rfl ?_
              refine gf_X2_27 (pc' := 57) hC dX2_pushPlaces_54 rfl ?_
              refine g_iload_n (pc' := 58) (i := 2) hC dX2_pushPlaces_57 rfl rfl rfl ?_
              obtain ⟨g_3, h⟩ := gd_some h
              refine ld_wpl (pc' := 59) hC g_3 dX2_pushPlaces_58 rfl ?_
              refine g_i2l (pc' := 60) hC dX2_pushPlaces_59 rfl ?_
              refine g_goto (tgt := 64) hC dX2_pushPlaces_60 (by decide) ?_
              obtain ⟨g_4, h⟩ := gd_some h
              refine st_la (pc' := 65) hC (by decide) g_4 dX2_pushPlaces_64 rfl ?_
              refine g_iinc (pc' := 68) (i := 1) (x := v1) (k := (nI 1)) (lo' := [some (.ref (ea E 37)), some (.int (v1 + (nI 1))), some (.int (wch (ix v1)))]) hC dX2_pushPlaces_65 rfl (by decide) rfl rfl rfl rfl ?_
              refine g_goto (tgt := 2) hC dX2_pushPlaces_68 (by decide) ?_
              refine g_weak (lo' := [some (.ref (ea E 37)), some (.int (v1 + (nI 1))), none]) rfl ?_
              exact hk2 _ _ h
            · refine g_lconst (pc' := 64) (v := (lN 0)) hC dX2_pushPlaces_63 (by decide) rfl ?_
              obtain ⟨g_5, h⟩ := gd_some h
              refine st_la (pc' := 65) hC (by decide) g_5 dX2_pushPlaces_64 rfl ?_
              refine g_iinc (pc' := 68) (i := 1) (x := v1) (k := (nI 1)) (lo' := [some (.ref (ea E 37)), some (.int (v1 + (nI 1))), some (.int (wch (ix v1)))]) hC dX2_pushPlaces_65 rfl (by decide) rfl rfl rfl rfl ?_
              refine g_goto (tgt := 2) hC dX2_pushPlaces_68 (by decide) ?_
              refine g_weak (lo' := [some (.ref (ea E 37)), some (.int (v1 + (nI 1))), none]) rfl ?_
              exact hk2 _ _ h
        · refine g_weak (lo' := [some (.ref (ea E 37)), none, none]) rfl ?_
          exact hk71 _ h
      · refine g_weak (lo' := [some (.ref (ea E 37)), none, none]) rfl ?_
        exact hk71 _ h
    · refine g_weak (lo' := [some (.ref (ea E 37)), none, none]) rfl ?_
      exact hk71 _ h)
set_option maxRecDepth 200000 in
theorem w_X2_pushPlaces_J93 {κ : GK} {E : GE} {rcz : Nat → Int32} {rvz : Nat → Int32} {rbz : Nat → Nat → Int32} {laz : Nat → Nat → Int64} {s0 : Int32}  (hC : gC κ E cX2_pushPlaces RX2 none rm_X2_pushPlaces 3)   (h : p_X2_pushPlaces_J93 s0 rc rv rb la wcc = some (rcz, rvz, rbz, laz)) : GG κ E (xws E xk xo xc xt xn xl rcz rvz rbz laz wch wcc wpl wun srow ssp sen str stp swd rwp rdr rpd rpv rpc rzp, none) (xws E xk xo xc xt xn xl rc rv rb la wch wcc wpl wun srow ssp sen str stp swd rwp rdr rpd rpv rpc rzp) 93 [some (.ref (ea E 37)), none, none] [.int s0] := by
  unfold p_X2_pushPlaces_J93 at h
  refine g_istore_n (pc' := 94) (i := 1) (lo' := [some (.ref (ea E 37)), some (.int s0), none]) hC dX2_pushPlaces_93 rfl rfl rfl rfl rfl ?_
  refine g_aload_n (pc' := 95) (i := 0) hC dX2_pushPlaces_94 rfl rfl rfl ?_
  refine gf_X2_20 (pc' := 98) hC dX2_pushPlaces_95 rfl ?_
  refine g_iload_n (pc' := 99) (i := 1) hC dX2_pushPlaces_98 rfl rfl rfl ?_
  obtain ⟨rc_9, rv_10, rb_11, hc_12, h⟩ := bd3_some h
  refine g_callV (pc' := 102) hC (c_X3_push _ (by decide) hc_12) ml_X2_113 (rc_Row (by decide)) (by decide) rfl rfl rfl rfl dX2_pushPlaces_99 rfl ?_
  refine g_aload_n (pc' := 103) (i := 0) hC dX2_pushPlaces_102 rfl rfl rfl ?_
  refine gf_X2_20 (pc' := 106) hC dX2_pushPlaces_103 rfl ?_
  refine g_aload_n (pc' := 107) (i := 0) hC dX2_pushPlaces_106 rfl rfl rfl ?_
  refine gf_X2_30 (pc' := 110) hC dX2_pushPlaces_107 rfl ?_
  refine g_aload_n (pc' := 111) (i := 0) hC dX2_pushPlaces_110 rfl rfl rfl ?_
  refine gf_X2_100 (pc' := 114) hC dX2_pushPlaces_111 rfl ?_
  refine g_iload_n (pc' := 115) (i := 1) hC dX2_pushPlaces_114 rfl rfl rfl ?_
  obtain ⟨rc_13, rv_14, rb_15, hc_16, h⟩ := bd3_some h
  refine g_callV (pc' := 118) hC (c_X3_pushRuns _ (by decide) (by decide) hc_16) ml_X2_141 (rc_Row (by decide)) (by decide) rfl rfl rfl rfl dX2_pushPlaces_115 rfl ?_
  obtain ⟨rfl, rfl, rfl, rfl⟩ := inj4 h; exact g_vret hC dX2_pushPlaces_118
set_option maxRecDepth 200000 in
theorem w_X2_pushPlaces_J71 {κ : GK} {E : GE} {rcz : Nat → Int32} {rvz : Nat → Int32} {rbz : Nat → Nat → Int32} {laz : Nat → Nat → Int64}   (hC : gC κ E cX2_pushPlaces RX2 none rm_X2_pushPlaces 3)   (h : p_X2_pushPlaces_J71 rc rv rb la wcc wun = some (rcz, rvz, rbz, laz)) : GG κ E (xws E xk xo xc xt xn xl rcz rvz rbz laz wch wcc wpl wun srow ssp sen str stp swd rwp rdr rpd rpv rpc rzp, none) (xws E xk xo xc xt xn xl rc rv rb la wch wcc wpl wun srow ssp sen str stp swd rwp rdr rpd rpv rpc rzp) 71 [some (.ref (ea E 37)), none, none] [] := by
  unfold p_X2_pushPlaces_J71 at h
  refine g_aload_n (pc' := 72) (i := 0) hC dX2_pushPlaces_71 rfl rfl rfl ?_
  refine gf_X2_72 (pc' := 75) hC dX2_pushPlaces_72 rfl ?_
  refine g_iconst (pc' := 76) (v := (nI 1)) hC dX2_pushPlaces_75 (by decide) rfl ?_
  refine g_icmp_le (pc' := 79) (tgt := 92) hC dX2_pushPlaces_76 (by decide) rfl h (fun h => ?_) (fun h => ?_)
  · refine g_aload_n (pc' := 80) (i := 0) hC dX2_pushPlaces_79 rfl rfl rfl ?_
    refine gf_X2_72 (pc' := 83) hC dX2_pushPlaces_80 rfl ?_
    refine g_iconst (pc' := 84) (v := (nI 1)) hC dX2_pushPlaces_83 (by decide) rfl ?_
    refine g_isub (pc' := 85) hC dX2_pushPlaces_84 rfl ?_
    refine g_i2l (pc' := 86) hC dX2_pushPlaces_85 rfl ?_
    obtain ⟨a_7, hc_8, h⟩ := bd1_some h
    refine g_callN (pc' := 89) hC (c_X5_bitsOf _ hc_8) ml_X2_162  (by decide) rfl rfl rfl dX2_pushPlaces_86 rfl ?_
    refine g_goto (tgt := 93) hC dX2_pushPlaces_89 (by decide) ?_
    exact w_X2_pushPlaces_J93 hC   h
  · refine g_iconst (pc' := 93) (v := (nI 0)) hC dX2_pushPlaces_92 (by decide) rfl ?_
    exact w_X2_pushPlaces_J93 hC   h
set_option maxRecDepth 200000 in
theorem c_X2_pushPlaces (l : Launch) {E : GE} {rcz : Nat → Int32} {rvz : Nat → Int32} {rbz : Nat → Nat → Int32} {laz : Nat → Nat → Int64}   (h : p_X2_pushPlaces rc rv rb la wch wcc wpl wun = some (rcz, rvz, rbz, laz)) : Met l yX2_pushPlaces (.code yX2_pushPlaces cX2_pushPlaces 3 none :: gU) rm_X2_pushPlaces (gP E (xws E xk xo xc xt xn xl rc rv rb la wch wcc wpl wun srow ssp sen str stp swd rwp rdr rpd rpv rpc rzp) [.ref (ea E 37)]) (gQ E (xws E xk xo xc xt xn xl rcz rvz rbz laz wch wcc wpl wun srow ssp sen str stp swd rwp rdr rpd rpv rpc rzp) none) 0 0 E.2.2.1 := by
  refine met_of (y := yX2_pushPlaces) (own := RX2) (lo := [some (.ref (ea E 37)), none, none]) (by decide) rfl rfl rfl (fun κ hl hC => ?_)
  subst hl
  unfold p_X2_pushPlaces at h
  refine g_iconst (pc' := 1) (v := (nI 0)) hC dX2_pushPlaces_0 (by decide) rfl ?_
  refine g_istore_n (pc' := 2) (i := 1) (lo' := [some (.ref (ea E 37)), some (.int (nI 0)), none]) hC dX2_pushPlaces_1 rfl rfl rfl rfl rfl ?_
  refine w_X2_pushPlaces_L2 hC  ?_ _ _ _ h
  · intro la_6 h
    exact w_X2_pushPlaces_J71 hC   h
set_option maxRecDepth 200000 in
theorem w_X2_pushPlain_J88 {κ : GK} {E : GE} {rcz : Nat → Int32} {rvz : Nat → Int32} {rbz : Nat → Nat → Int32} {laz : Nat → Nat → Int64} {v1 : Nat} {v2 : Int32} {s1 : Int64} {s2 : Int32} {k43 : Int32 → (Nat → Int32) → (Nat → Int32) → (Nat → Nat → Int32) → Option ((Nat → Int32) × (Nat → Int32) × (Nat → Nat → Int32) × (Nat → Nat → Int64))} (hC : gC κ E cX2_pushPlain RX2 none rm_X2_pushPlain 3) (hv1 : v1 < 6) (hk43 : ∀ (v2 : Int32) (rc : Nat → Int32) (rv : Nat → Int32) (rb : Nat → Nat → Int32), k43 v2 rc rv rb = some (rcz, rvz, rbz, laz) → GG κ E (xws E xk xo xc xt xn xl rcz rvz rbz laz wch wcc wpl wun srow ssp sen str stp swd rwp rdr rpd rpv rpc rzp, none) (xws E xk xo xc xt xn xl rc rv rb la wch wcc wpl wun srow ssp sen str stp swd rwp rdr rpd rpv rpc rzp) 43 [some (.ref (ea E 37)), some (.ref (ea E (4 * v1))), some (.int v2)] []) (h : p_X2_pushPlain_J88 v1 v2 s1 s2 xk xn xl rc rv rb wch k43 = some (rcz, rvz, rbz, laz)) : GG κ E (xws E xk xo xc xt xn xl rcz rvz rbz laz wch wcc wpl wun srow ssp sen str stp swd rwp rdr rpd rpv rpc rzp, none) (xws E xk xo xc xt xn xl rc rv rb la wch wcc wpl wun srow ssp sen str stp swd rwp rdr rpd rpv rpc rzp) 88 [some (.ref (ea E 37)), some (.ref (ea E (4 * v1))), some (.int v2)] [.int s2, .long s1, .ref (ea E (24 + 2 * 3))] := by
  unfold p_X2_pushPlain_J88 at h
  obtain ⟨rc_12, rv_13, rb_14, hc_15, h⟩ := bd3_some h
  refine g_callV (pc' := 91) hC (c_X3_pushLittle _ (by decide) hc_15) ml_X2_137 (rc_Row (by decide)) (by decide) rfl rfl rfl rfl dX2_pushPlain_88 rfl ?_
  refine g_aload_n (pc' := 92) (i := 1) hC dX2_pushPlain_91 rfl rfl rfl ?_
  refine gf_X2_56 (pc' := 95) hC hv1 dX2_pushPlain_92 rfl ?_
  refine g_iconst (pc' := 96) (v := (nI 2)) hC dX2_pushPlain_95 (by decide) rfl ?_
  refine g_icmp_ne (pc' := 99) (tgt := 110) hC dX2_pushPlain_96 (by decide) rfl h (fun h => ?_) (fun h => ?_)
  · refine g_aload_n (pc' := 100) (i := 0) hC dX2_pushPlain_99 rfl rfl rfl ?_
    refine g_aload_n (pc' := 101) (i := 1) hC dX2_pushPlain_100 rfl rfl rfl ?_
    refine g_aload_n (pc' := 102) (i := 0) hC dX2_pushPlain_101 rfl rfl rfl ?_
    refine gf_X2_23 (pc' := 105) hC dX2_pushPlain_102 rfl ?_
    refine g_iload_n (pc' := 106) (i := 2) hC dX2_pushPlain_105 rfl rfl rfl ?_
    obtain ⟨g_16, h⟩ := gd_some h
    refine ld_wch (pc' := 107) hC g_16 dX2_pushPlain_106 rfl ?_
    obtain ⟨rc_17, rv_18, rb_19, hc_20, h⟩ := bd3_some h
    refine g_callV (pc' := 110) hC (c_X2_pushLetters _ hv1 hc_20) ml_X2_155 (rc_Wr) (by decide) rfl rfl rfl rfl dX2_pushPlain_107 rfl ?_
    refine g_iinc (pc' := 113) (i := 2) (x := v2) (k := (nI 1)) (lo' := [some (.ref (ea E 37)), some (.ref (ea E (4 * v1))), some (.int (v2 + (nI 1)))]) hC dX2_pushPlain_110 rfl (by decide) rfl rfl rfl rfl ?_
    refine g_goto (tgt := 43) hC dX2_pushPlain_113 (by decide) ?_
    exact hk43 _ _ _ _ h
  · refine g_iinc (pc' := 113) (i := 2) (x := v2) (k := (nI 1)) (lo' := [some (.ref (ea E 37)), some (.ref (ea E (4 * v1))), some (.int (v2 + (nI 1)))]) hC dX2_pushPlain_110 rfl (by decide) rfl rfl rfl rfl ?_
    refine g_goto (tgt := 43) hC dX2_pushPlain_113 (by decide) ?_
    exact hk43 _ _ _ _ h
set_option maxRecDepth 200000 in
theorem w_X2_pushPlain_L43 {κ : GK} {E : GE} {rcz : Nat → Int32} {rvz : Nat → Int32} {rbz : Nat → Nat → Int32} {laz : Nat → Nat → Int64} {v1 : Nat}  (hC : gC κ E cX2_pushPlain RX2 none rm_X2_pushPlain 3) (hv1 : v1 < 6)  : ∀ (n : Nat) (v2 : Int32) (rc : Nat → Int32) (rv : Nat → Int32) (rb : Nat → Nat → Int32), itr4 (p_X2_pushPlain_L43 v1 xk xn xl la wch wcc) n v2 rc rv rb = some (rcz, rvz, rbz, laz) → GG κ E (xws E xk xo xc xt xn xl rcz rvz rbz laz wch wcc wpl wun srow ssp sen str stp swd rwp rdr rpd rpv rpc rzp, none) (xws E xk xo xc xt xn xl rc rv rb la wch wcc wpl wun srow ssp sen str stp swd rwp rdr rpd rpv rpc rzp) 43 [some (.ref (ea E 37)), some (.ref (ea E (4 * v1))), some (.int v2)] [] :=
  itr4_ind (fun k43 hk43 v2 rc rv rb h => by
    unfold p_X2_pushPlain_L43 at h
    refine g_iload_n (pc' := 44) (i := 2) hC dX2_pushPlain_43 rfl rfl rfl ?_
    refine g_aload_n (pc' := 45) (i := 0) hC dX2_pushPlain_44 rfl rfl rfl ?_
    refine gf_X2_100 (pc' := 48) hC dX2_pushPlain_45 rfl ?_
    refine g_icmp_ge (pc' := 51) (tgt := 116) hC dX2_pushPlain_48 (by decide) rfl h (fun h => ?_) (fun h => ?_)
    · refine g_iload_n (pc' := 52) (i := 2) hC dX2_pushPlain_51 rfl rfl rfl ?_
      refine g_aload_n (pc' := 53) (i := 0) hC dX2_pushPlain_52 rfl rfl rfl ?_
      refine gf_X2_23 (pc' := 56) hC dX2_pushPlain_53 rfl ?_
      refine al_wch (pc' := 57) hC dX2_pushPlain_56 rfl ?_
      refine g_icmp_ge (pc' := 60) (tgt := 116) hC dX2_pushPlain_57 (by decide) rfl h (fun h => ?_) (fun h => ?_)
      · refine g_aload_n (pc' := 61) (i := 0) hC dX2_pushPlain_60 rfl rfl rfl ?_
        refine gf_X2_20 (pc' := 64) hC dX2_pushPlain_61 rfl ?_
        refine g_aload_n (pc' := 65) (i := 1) hC dX2_pushPlain_64 rfl rfl rfl ?_
        refine g_aload_n (pc' := 66) (i := 0) hC dX2_pushPlain_65 rfl rfl rfl ?_
        refine gf_X2_23 (pc' := 69) hC dX2_pushPlain_66 rfl ?_
        refine g_iload_n (pc' := 70) (i := 2) hC dX2_pushPlain_69 rfl rfl rfl ?_
        obtain ⟨g_9, h⟩ := gd_some h
        refine ld_wch (pc' := 71) hC g_9 dX2_pushPlain_70 rfl ?_
        obtain ⟨a_10, hc_11, h⟩ := bd1_some h
        refine g_callV (pc' := 74) hC (c_X0_numberAt _ hv1 hc_11) ml_X2_133 (rc_Col hv1) (by decide) rfl rfl rfl rfl dX2_pushPlain_71 rfl ?_
        refine g_aload_n (pc' := 75) (i := 1) hC dX2_pushPlain_74 rfl rfl rfl ?_
        refine gf_X2_56 (pc' := 78) hC hv1 dX2_pushPlain_75 rfl ?_
        refine g_iconst (pc' := 79) (v := (nI 1)) hC dX2_pushPlain_78 (by decide) rfl ?_
        refine g_icmp_ne (pc' := 82) (tgt := 87) hC dX2_pushPlain_79 (by decide) rfl h (fun h => ?_) (fun h => ?_)
        · refine g_bipush (pc' := 84) (v := (nI 8)) hC dX2_pushPlain_82 (by decide) rfl ?_
          refine g_goto (tgt := 88) hC dX2_pushPlain_84 (by decide) ?_
          exact w_X2_pushPlain_J88 hC hv1 hk43 h
        · refine g_iconst (pc' := 88) (v := (nI 4)) hC dX2_pushPlain_87 (by decide) rfl ?_
          exact w_X2_pushPlain_J88 hC hv1 hk43 h
      · obtain ⟨rfl, rfl, rfl, rfl⟩ := inj4 h; exact g_vret hC dX2_pushPlain_116
    · obtain ⟨rfl, rfl, rfl, rfl⟩ := inj4 h; exact g_vret hC dX2_pushPlain_116)
set_option maxRecDepth 200000 in
theorem c_X2_pushPlain (l : Launch) {E : GE} {rcz : Nat → Int32} {rvz : Nat → Int32} {rbz : Nat → Nat → Int32} {laz : Nat → Nat → Int64} {v1 : Nat} (hv1 : v1 < 6) (h : p_X2_pushPlain v1 xk xn xl rc rv rb la wch wcc = some (rcz, rvz, rbz, laz)) : Met l yX2_pushPlain (.code yX2_pushPlain cX2_pushPlain 3 none :: gU) rm_X2_pushPlain (gP E (xws E xk xo xc xt xn xl rc rv rb la wch wcc wpl wun srow ssp sen str stp swd rwp rdr rpd rpv rpc rzp) [.ref (ea E 37), .ref (ea E (4 * v1))]) (gQ E (xws E xk xo xc xt xn xl rcz rvz rbz laz wch wcc wpl wun srow ssp sen str stp swd rwp rdr rpd rpv rpc rzp) none) 0 0 E.2.2.1 := by
  refine met_of (y := yX2_pushPlain) (own := RX2) (lo := [some (.ref (ea E 37)), some (.ref (ea E (4 * v1))), none]) (by decide) rfl rfl rfl (fun κ hl hC => ?_)
  subst hl
  unfold p_X2_pushPlain at h
  refine g_aload_n (pc' := 1) (i := 1) hC dX2_pushPlain_0 rfl rfl rfl ?_
  refine gf_X2_56 (pc' := 4) hC hv1 dX2_pushPlain_1 rfl ?_
  refine g_iconst (pc' := 5) (v := (nI 3)) hC dX2_pushPlain_4 (by decide) rfl ?_
  refine g_icmp_ne (pc' := 8) (tgt := 41) hC dX2_pushPlain_5 (by decide) rfl h (fun h => ?_) (fun h => ?_)
  · refine g_aload_n (pc' := 9) (i := 0) hC dX2_pushPlain_8 rfl rfl rfl ?_
    refine g_aload_n (pc' := 10) (i := 1) hC dX2_pushPlain_9 rfl rfl rfl ?_
    obtain ⟨la_1, hc_2, h⟩ := bd1_some h
    refine g_callV (pc' := 13) hC (c_X2_gatherNumbers _ hv1 hc_2) ml_X2_97 (rc_Wr) (by decide) rfl rfl rfl rfl dX2_pushPlain_10 rfl ?_
    refine g_aload_n (pc' := 14) (i := 0) hC dX2_pushPlain_13 rfl rfl rfl ?_
    refine gf_X2_20 (pc' := 17) hC dX2_pushPlain_14 rfl ?_
    refine g_aload_n (pc' := 18) (i := 0) hC dX2_pushPlain_17 rfl rfl rfl ?_
    refine gf_X2_30 (pc' := 21) hC dX2_pushPlain_18 rfl ?_
    refine g_iconst (pc' := 22) (v := (nI 0)) hC dX2_pushPlain_21 (by decide) rfl ?_
    refine g_aload_n (pc' := 23) (i := 0) hC dX2_pushPlain_22 rfl rfl rfl ?_
    refine gf_X2_100 (pc' := 26) hC dX2_pushPlain_23 rfl ?_
    refine g_aload_n (pc' := 27) (i := 0) hC dX2_pushPlain_26 rfl rfl rfl ?_
    refine gf_X2_100 (pc' := 30) hC dX2_pushPlain_27 rfl ?_
    obtain ⟨a_3, hc_4, h⟩ := bd1_some h
    refine g_callN (pc' := 33) hC (c_X5_wholeGroups _ hc_4) ml_X2_148  (by decide) rfl rfl rfl dX2_pushPlain_30 rfl ?_
    refine g_bipush (pc' := 35) (v := (nI 8)) hC dX2_pushPlain_33 (by decide) rfl ?_
    refine g_imul (pc' := 36) hC dX2_pushPlain_35 rfl ?_
    refine g_iconst (pc' := 37) (v := (nI 1)) hC dX2_pushPlain_36 (by decide) rfl ?_
    obtain ⟨rc_5, rv_6, rb_7, hc_8, h⟩ := bd3_some h
    refine g_callV (pc' := 40) hC (c_X3_pushPacked _ (by decide) (by decide) hc_8) ml_X2_151 (rc_Row (by decide)) (by decide) rfl rfl rfl rfl dX2_pushPlain_37 rfl ?_
    obtain ⟨rfl, rfl, rfl, rfl⟩ := inj4 h; exact g_vret hC dX2_pushPlain_40
  · refine g_iconst (pc' := 42) (v := (nI 0)) hC dX2_pushPlain_41 (by decide) rfl ?_
    refine g_istore_n (pc' := 43) (i := 2) (lo' := [some (.ref (ea E 37)), some (.ref (ea E (4 * v1))), some (.int (nI 0))]) hC dX2_pushPlain_42 rfl rfl rfl rfl rfl ?_
    refine w_X2_pushPlain_L43 hC hv1  _ _ _ _ _ h
set_option maxRecDepth 200000 in
theorem w_X3_append_L25 {κ : GK} {E : GE} {rcz : Nat → Int32} {rvz : Nat → Int32} {rbz : Nat → Nat → Int32} {v0 : Nat} {v1 : Nat}  (hC : gC κ E cX3_append RX3 none rm_X3_append 3) (hv0 : v0 < 4) (hv1 : v1 < 4)  : ∀ (n : Nat) (v2 : Int32) (rc : Nat → Int32) (rv : Nat → Int32) (rb : Nat → Nat → Int32), itr4 (p_X3_append_L25 v0 v1) n v2 rc rv rb = some (rcz, rvz, rbz) → GG κ E (xws E xk xo xc xt xn xl rcz rvz rbz la wch wcc wpl wun srow ssp sen str stp swd rwp rdr rpd rpv rpc rzp, none) (xws E xk xo xc xt xn xl rc rv rb la wch wcc wpl wun srow ssp sen str stp swd rwp rdr rpd rpv rpc rzp) 25 [some (.ref (ea E (24 + 2 * v0))), some (.ref (ea E (24 + 2 * v1))), some (.int v2)] [] :=
  itr4_ind (fun k25 hk25 v2 rc rv rb h => by
    unfold p_X3_append_L25 at h
    refine g_iload_n (pc' := 26) (i := 2) hC dX3_append_25 rfl rfl rfl ?_
    refine g_aload_n (pc' := 27) (i := 1) hC dX3_append_26 rfl rfl rfl ?_
    refine gf_X3_15 (pc' := 30) hC hv1 dX3_append_27 rfl ?_
    refine g_icmp_ge (pc' := 33) (tgt := 48) hC dX3_append_30 (by decide) rfl h (fun h => ?_) (fun h => ?_)
    · refine g_aload_n (pc' := 34) (i := 0) hC dX3_append_33 rfl rfl rfl ?_
      refine g_aload_n (pc' := 35) (i := 1) hC dX3_append_34 rfl rfl rfl ?_
      refine g_iload_n (pc' := 36) (i := 2) hC dX3_append_35 rfl rfl rfl ?_
      obtain ⟨a_1, hc_2, h⟩ := bd1_some h
      refine g_callV (pc' := 39) hC (c_X3_get _ hv1 hc_2) ml_X3_32 (rc_Row hv1) (by decide) rfl rfl rfl rfl dX3_append_36 rfl ?_
      obtain ⟨rc_3, rv_4, rb_5, hc_6, h⟩ := bd3_some h
      refine g_callV (pc' := 42) hC (c_X3_push _ hv0 hc_6) ml_X3_36 (rc_Row hv0) (by decide) rfl rfl rfl rfl dX3_append_39 rfl ?_
      refine g_iinc (pc' := 45) (i := 2) (x := v2) (k := (nI 1)) (lo' := [some (.ref (ea E (24 + 2 * v0))), some (.ref (ea E (24 + 2 * v1))), some (.int (v2 + (nI 1)))]) hC dX3_append_42 rfl (by decide) rfl rfl rfl rfl ?_
      refine g_goto (tgt := 25) hC dX3_append_45 (by decide) ?_
      exact hk25 _ _ _ _ h
    · obtain ⟨rfl, rfl, rfl⟩ := inj3 h; exact g_vret hC dX3_append_48)
set_option maxRecDepth 200000 in
theorem c_X3_append (l : Launch) {E : GE} {rcz : Nat → Int32} {rvz : Nat → Int32} {rbz : Nat → Nat → Int32} {v0 : Nat} {v1 : Nat} (hv0 : v0 < 4) (hv1 : v1 < 4) (h : p_X3_append v0 v1 rc rv rb = some (rcz, rvz, rbz)) : Met l yX3_append (.code yX3_append cX3_append 3 none :: gU) rm_X3_append (gP E (xws E xk xo xc xt xn xl rc rv rb la wch wcc wpl wun srow ssp sen str stp swd rwp rdr rpd rpv rpc rzp) [.ref (ea E (24 + 2 * v0)), .ref (ea E (24 + 2 * v1))]) (gQ E (xws E xk xo xc xt xn xl rcz rvz rbz la wch wcc wpl wun srow ssp sen str stp swd rwp rdr rpd rpv rpc rzp) none) 0 0 E.2.2.1 := by
  refine met_of (y := yX3_append) (own := RX3) (lo := [some (.ref (ea E (24 + 2 * v0))), some (.ref (ea E (24 + 2 * v1))), none]) (by decide) rfl rfl rfl (fun κ hl hC => ?_)
  subst hl
  unfold p_X3_append at h
  refine g_aload_n (pc' := 1) (i := 0) hC dX3_append_0 rfl rfl rfl ?_
  refine g_aload_n (pc' := 2) (i := 0) hC dX3_append_1 rfl rfl rfl ?_
  refine gf_X3_19 (pc' := 5) hC hv0 dX3_append_2 rfl ?_
  refine g_if_ne (pc' := 8) (tgt := 15) hC dX3_append_5 (by decide) rfl h (fun h => ?_) (fun h => ?_)
  · refine g_aload_n (pc' := 9) (i := 1) hC dX3_append_8 rfl rfl rfl ?_
    refine gf_X3_19 (pc' := 12) hC hv1 dX3_append_9 rfl ?_
    refine g_if_eq (pc' := 15) (tgt := 19) hC dX3_append_12 (by decide) rfl h (fun h => ?_) (fun h => ?_)
    · refine g_iconst (pc' := 20) (v := (nI 0)) hC dX3_append_19 (by decide) rfl ?_
      refine pf_X3_19 (pc' := 23) hC hv0 (by decide) dX3_append_20 rfl ?_
      refine g_iconst (pc' := 24) (v := (nI 0)) hC dX3_append_23 (by decide) rfl ?_
      refine g_istore_n (pc' := 25) (i := 2) (lo' := [some (.ref (ea E (24 + 2 * v0))), some (.ref (ea E (24 + 2 * v1))), some (.int (nI 0))]) hC dX3_append_24 rfl rfl rfl rfl rfl ?_
      refine w_X3_append_L25 hC hv0 hv1  _ _ _ _ _ h
    · refine g_iconst (pc' := 16) (v := (nI 1)) hC dX3_append_15 (by decide) rfl ?_
      refine g_goto (tgt := 20) hC dX3_append_16 (by decide) ?_
      refine pf_X3_19 (pc' := 23) hC hv0 (by decide) dX3_append_20 rfl ?_
      refine g_iconst (pc' := 24) (v := (nI 0)) hC dX3_append_23 (by decide) rfl ?_
      refine g_istore_n (pc' := 25) (i := 2) (lo' := [some (.ref (ea E (24 + 2 * v0))), some (.ref (ea E (24 + 2 * v1))), some (.int (nI 0))]) hC dX3_append_24 rfl rfl rfl rfl rfl ?_
      refine w_X3_append_L25 hC hv0 hv1  _ _ _ _ _ h
  · refine g_iconst (pc' := 16) (v := (nI 1)) hC dX3_append_15 (by decide) rfl ?_
    refine g_goto (tgt := 20) hC dX3_append_16 (by decide) ?_
    refine pf_X3_19 (pc' := 23) hC hv0 (by decide) dX3_append_20 rfl ?_
    refine g_iconst (pc' := 24) (v := (nI 0)) hC dX3_append_23 (by decide) rfl ?_
    refine g_istore_n (pc' := 25) (i := 2) (lo' := [some (.ref (ea E (24 + 2 * v0))), some (.ref (ea E (24 + 2 * v1))), some (.int (nI 0))]) hC dX3_append_24 rfl rfl rfl rfl rfl ?_
    refine w_X3_append_L25 hC hv0 hv1  _ _ _ _ _ h
set_option maxRecDepth 200000 in
theorem c_X3_clear (l : Launch) {E : GE} {rcz : Nat → Int32} {rvz : Nat → Int32} {v0 : Nat} (hv0 : v0 < 4) (h : p_X3_clear v0 rc rv = some (rcz, rvz)) : Met l yX3_clear (.code yX3_clear cX3_clear 1 none :: gU) rm_X3_clear (gP E (xws E xk xo xc xt xn xl rc rv rb la wch wcc wpl wun srow ssp sen str stp swd rwp rdr rpd rpv rpc rzp) [.ref (ea E (24 + 2 * v0))]) (gQ E (xws E xk xo xc xt xn xl rcz rvz rb la wch wcc wpl wun srow ssp sen str stp swd rwp rdr rpd rpv rpc rzp) none) 0 0 E.2.2.1 := by
  refine met_of (y := yX3_clear) (own := RX3) (lo := [some (.ref (ea E (24 + 2 * v0)))]) (by decide) rfl rfl rfl (fun κ hl hC => ?_)
  subst hl
  unfold p_X3_clear at h
  refine g_aload_n (pc' := 1) (i := 0) hC dX3_clear_0 rfl rfl rfl ?_
  refine g_iconst (pc' := 2) (v := (nI 0)) hC dX3_clear_1 (by decide) rfl ?_
  refine pf_X3_15 (pc' := 5) hC hv0 dX3_clear_2 rfl ?_
  refine g_aload_n (pc' := 6) (i := 0) hC dX3_clear_5 rfl rfl rfl ?_
  refine g_iconst (pc' := 7) (v := (nI 0)) hC dX3_clear_6 (by decide) rfl ?_
  refine pf_X3_19 (pc' := 10) hC hv0 (by decide) dX3_clear_7 rfl ?_
  obtain ⟨rfl, rfl⟩ := inj2 h; exact g_vret hC dX3_clear_10
set_option maxRecDepth 200000 in
theorem w_X3_lowerToLeast_L26 {κ : GK} {E : GE} {rr : Int64} {laz : Nat → Nat → Int64} {v0 : Nat} {v1 : Int32} {v2 : Int32} {v3 : Int32} {k56 : Int64 → Option (Int64 × (Nat → Nat → Int64))} (hC : gC κ E cX3_lowerToLeast RX3 (some .long) rm_X3_lowerToLeast 9) (hv0 : v0 < 3) (hk56 : ∀ (v4 : Int64), k56 v4 = some (rr, laz) → GG κ E (xws E xk xo xc xt xn xl rc rv rb laz wch wcc wpl wun srow ssp sen str stp swd rwp rdr rpd rpv rpc rzp, some (.long rr)) (xws E xk xo xc xt xn xl rc rv rb la wch wcc wpl wun srow ssp sen str stp swd rwp rdr rpd rpv rpc rzp) 56 [some (.ref (ea E (32 + v0))), some (.int v1), some (.int v2), some (.int v3), some (.long v4), none, none, none, none] []) : ∀ (n : Nat) (v4 : Int64) (v6 : Int32), itr2 (p_X3_lowerToLeast_L26 v0 v2 la k56) n v4 v6 = some (rr, laz) → GG κ E (xws E xk xo xc xt xn xl rc rv rb laz wch wcc wpl wun srow ssp sen str stp swd rwp rdr rpd rpv rpc rzp, some (.long rr)) (xws E xk xo xc xt xn xl rc rv rb la wch wcc wpl wun srow ssp sen str stp swd rwp rdr rpd rpv rpc rzp) 26 [some (.ref (ea E (32 + v0))), some (.int v1), some (.int v2), some (.int v3), some (.long v4), none, some (.int v6), none, none] [] :=
  itr2_ind (fun k26 hk26 v4 v6 h => by
    unfold p_X3_lowerToLeast_L26 at h
    refine g_iload (pc' := 28) (i := 6) hC dX3_lowerToLeast_26 rfl rfl ?_
    refine g_iload_n (pc' := 29) (i := 2) hC dX3_lowerToLeast_28 rfl rfl rfl ?_
    refine g_icmp_ge (pc' := 32) (tgt := 56) hC dX3_lowerToLeast_29 (by decide) rfl h (fun h => ?_) (fun h => ?_)
    · refine g_iload (pc' := 34) (i := 6) hC dX3_lowerToLeast_32 rfl rfl ?_
      refine g_aload_n (pc' := 35) (i := 0) hC dX3_lowerToLeast_34 rfl rfl rfl ?_
      refine al_la (pc' := 36) hC hv0 dX3_lowerToLeast_35 rfl ?_
      refine g_icmp_ge (pc' := 39) (tgt := 56) hC dX3_lowerToLeast_36 (by decide) rfl h (fun h => ?_) (fun h => ?_)
      · refine g_lload (pc' := 41) (i := 4) hC dX3_lowerToLeast_39 rfl rfl ?_
        refine g_aload_n (pc' := 42) (i := 0) hC dX3_lowerToLeast_41 rfl rfl rfl ?_
        refine g_iload (pc' := 44) (i := 6) hC dX3_lowerToLeast_42 rfl rfl ?_
        obtain ⟨g_1, h⟩ := gd_some h
        refine ld_la (pc' := 45) hC hv0 g_1 dX3_lowerToLeast_44 rfl ?_
        refine g_lmin (pc' := 48) hC math_X3_89 (by decide) dX3_lowerToLeast_45 rfl rfl ?_
        refine g_lstore (pc' := 50) (i := 4) (lo' := [some (.ref (ea E (32 + v0))), some (.int v1), some (.int v2), some (.int v3), some (.long (lmin v4 (la v0 (ix v6)))), none, some (.int v6), none, none]) hC dX3_lowerToLeast_48 rfl rfl rfl rfl ?_
        refine g_iinc (pc' := 53) (i := 6) (x := v6) (k := (nI 1)) (lo' := [some (.ref (ea E (32 + v0))), some (.int v1), some (.int v2), some (.int v3), some (.long (lmin v4 (la v0 (ix v6)))), none, some (.int (v6 + (nI 1))), none, none]) hC dX3_lowerToLeast_50 rfl (by decide) rfl rfl rfl rfl ?_
        refine g_goto (tgt := 26) hC dX3_lowerToLeast_53 (by decide) ?_
        exact hk26 _ _ h
      · refine g_weak (lo' := [some (.ref (ea E (32 + v0))), some (.int v1), some (.int v2), some (.int v3), some (.long v4), none, none, none, none]) rfl ?_
        exact hk56 _ h
    · refine g_weak (lo' := [some (.ref (ea E (32 + v0))), some (.int v1), some (.int v2), some (.int v3), some (.long v4), none, none, none, none]) rfl ?_
      exact hk56 _ h)
set_option maxRecDepth 200000 in
theorem w_X3_lowerToLeast_L63 {κ : GK} {E : GE} {rr : Int64} {laz : Nat → Nat → Int64} {v0 : Nat} {v2 : Int32} {v3 : Int32} {v4 : Int64}  (hC : gC κ E cX3_lowerToLeast RX3 (some .long) rm_X3_lowerToLeast 9) (hv0 : v0 < 3)  : ∀ (n : Nat) (v6 : Int32) (la : Nat → Nat → Int64), itr2 (p_X3_lowerToLeast_L63 v0 v2 v3 v4) n v6 la = some (rr, laz) → GG κ E (xws E xk xo xc xt xn xl rc rv rb laz wch wcc wpl wun srow ssp sen str stp swd rwp rdr rpd rpv rpc rzp, some (.long rr)) (xws E xk xo xc xt xn xl rc rv rb la wch wcc wpl wun srow ssp sen str stp swd rwp rdr rpd rpv rpc rzp) 63 [some (.ref (ea E (32 + v0))), none, some (.int v2), some (.int v3), some (.long v4), none, some (.int v6), none, none] [] :=
  itr2_ind (fun k63 hk63 v6 la h => by
    unfold p_X3_lowerToLeast_L63 at h
    refine g_iload (pc' := 65) (i := 6) hC dX3_lowerToLeast_63 rfl rfl ?_
    refine g_iload_n (pc' := 66) (i := 2) hC dX3_lowerToLeast_65 rfl rfl rfl ?_
    refine g_icmp_ge (pc' := 69) (tgt := 110) hC dX3_lowerToLeast_66 (by decide) rfl h (fun h => ?_) (fun h => ?_)
    · refine g_iload (pc' := 71) (i := 6) hC dX3_lowerToLeast_69 rfl rfl ?_
      refine g_aload_n (pc' := 72) (i := 0) hC dX3_lowerToLeast_71 rfl rfl rfl ?_
      refine al_la (pc' := 73) hC hv0 dX3_lowerToLeast_72 rfl ?_
      refine g_icmp_ge (pc' := 76) (tgt := 110) hC dX3_lowerToLeast_73 (by decide) rfl h (fun h => ?_) (fun h => ?_)
      · refine g_aload_n (pc' := 77) (i := 0) hC dX3_lowerToLeast_76 rfl rfl rfl ?_
        refine g_iload (pc' := 79) (i := 6) hC dX3_lowerToLeast_77 rfl rfl ?_
        obtain ⟨g_3, h⟩ := gd_some h
        refine ld_la (pc' := 80) hC hv0 g_3 dX3_lowerToLeast_79 rfl ?_
        refine g_lload (pc' := 82) (i := 4) hC dX3_lowerToLeast_80 rfl rfl ?_
        refine g_lsub (pc' := 83) hC dX3_lowerToLeast_82 rfl ?_
        refine g_lstore (pc' := 85) (i := 7) (lo' := [some (.ref (ea E (32 + v0))), none, some (.int v2), some (.int v3), some (.long v4), none, some (.int v6), some (.long ((la v0 (ix v6)) - v4)), none]) hC dX3_lowerToLeast_83 rfl rfl rfl rfl ?_
        refine g_aload_n (pc' := 86) (i := 0) hC dX3_lowerToLeast_85 rfl rfl rfl ?_
        refine g_iload (pc' := 88) (i := 6) hC dX3_lowerToLeast_86 rfl rfl ?_
        refine g_iload_n (pc' := 89) (i := 3) hC dX3_lowerToLeast_88 rfl rfl rfl ?_
        refine g_if_eq (pc' := 92) (tgt := 101) hC dX3_lowerToLeast_89 (by decide) rfl h (fun h => ?_) (fun h => ?_)
        · refine g_lload (pc' := 103) (i := 7) hC dX3_lowerToLeast_101 rfl rfl ?_
          obtain ⟨g_4, h⟩ := gd_some h
          refine st_la (pc' := 104) hC hv0 g_4 dX3_lowerToLeast_103 rfl ?_
          refine g_iinc (pc' := 107) (i := 6) (x := v6) (k := (nI 1)) (lo' := [some (.ref (ea E (32 + v0))), none, some (.int v2), some (.int v3), some (.long v4), none, some (.int (v6 + (nI 1))), some (.long ((la v0 (ix v6)) - v4)), none]) hC dX3_lowerToLeast_104 rfl (by decide) rfl rfl rfl rfl ?_
          refine g_goto (tgt := 63) hC dX3_lowerToLeast_107 (by decide) ?_
          refine g_weak (lo' := [some (.ref (ea E (32 + v0))), none, some (.int v2), some (.int v3), some (.long v4), none, some (.int (v6 + (nI 1))), none, none]) rfl ?_
          exact hk63 _ _ h
        · refine g_lload (pc' := 94) (i := 7) hC dX3_lowerToLeast_92 rfl rfl ?_
          refine g_ldc2_w (pc' := 97) (v := (lN 4294967295)) hC u_10 dX3_lowerToLeast_94 rfl ?_
          refine g_land (pc' := 98) hC dX3_lowerToLeast_97 rfl ?_
          refine g_goto (tgt := 103) hC dX3_lowerToLeast_98 (by decide) ?_
          obtain ⟨g_5, h⟩ := gd_some h
          refine st_la (pc' := 104) hC hv0 g_5 dX3_lowerToLeast_103 rfl ?_
          refine g_iinc (pc' := 107) (i := 6) (x := v6) (k := (nI 1)) (lo' := [some (.ref (ea E (32 + v0))), none, some (.int v2), some (.int v3), some (.long v4), none, some (.int (v6 + (nI 1))), some (.long ((la v0 (ix v6)) - v4)), none]) hC dX3_lowerToLeast_104 rfl (by decide) rfl rfl rfl rfl ?_
          refine g_goto (tgt := 63) hC dX3_lowerToLeast_107 (by decide) ?_
          refine g_weak (lo' := [some (.ref (ea E (32 + v0))), none, some (.int v2), some (.int v3), some (.long v4), none, some (.int (v6 + (nI 1))), none, none]) rfl ?_
          exact hk63 _ _ h
      · refine g_lload (pc' := 112) (i := 4) hC dX3_lowerToLeast_110 rfl rfl ?_
        obtain ⟨rfl, rfl⟩ := inj2 h; exact g_lret hC dX3_lowerToLeast_112
    · refine g_lload (pc' := 112) (i := 4) hC dX3_lowerToLeast_110 rfl rfl ?_
      obtain ⟨rfl, rfl⟩ := inj2 h; exact g_lret hC dX3_lowerToLeast_112)
set_option maxRecDepth 200000 in
theorem c_X3_lowerToLeast (l : Launch) {E : GE} {rr : Int64} {laz : Nat → Nat → Int64} {v0 : Nat} {v1 : Int32} {v2 : Int32} {v3 : Int32} (hv0 : v0 < 3) (h : p_X3_lowerToLeast v0 v1 v2 v3 la = some (rr, laz)) : Met l yX3_lowerToLeast (.code yX3_lowerToLeast cX3_lowerToLeast 9 (some .long) :: gU) rm_X3_lowerToLeast (gP E (xws E xk xo xc xt xn xl rc rv rb la wch wcc wpl wun srow ssp sen str stp swd rwp rdr rpd rpv rpc rzp) [.ref (ea E (32 + v0)), .int v1, .int v2, .int v3]) (gQ E (xws E xk xo xc xt xn xl rc rv rb laz wch wcc wpl wun srow ssp sen str stp swd rwp rdr rpd rpv rpc rzp) (some (.long rr))) 0 0 E.2.2.1 := by
  refine met_of (y := yX3_lowerToLeast) (own := RX3) (lo := [some (.ref (ea E (32 + v0))), some (.int v1), some (.int v2), some (.int v3), none, none, none, none, none]) (by decide) rfl rfl rfl (fun κ hl hC => ?_)
  subst hl
  unfold p_X3_lowerToLeast at h
  refine g_iload_n (pc' := 1) (i := 1) hC dX3_lowerToLeast_0 rfl rfl rfl ?_
  refine g_if_lt (pc' := 4) (tgt := 16) hC dX3_lowerToLeast_1 (by decide) rfl h (fun h => ?_) (fun h => ?_)
  · refine g_lconst (pc' := 17) (v := (lN 0)) hC dX3_lowerToLeast_16 (by decide) rfl ?_
    refine g_lstore (pc' := 19) (i := 4) (lo' := [some (.ref (ea E (32 + v0))), some (.int v1), some (.int v2), some (.int v3), some (.long (lN 0)), none, none, none, none]) hC dX3_lowerToLeast_17 rfl rfl rfl rfl ?_
    refine g_iload_n (pc' := 20) (i := 1) hC dX3_lowerToLeast_19 rfl rfl rfl ?_
    refine g_iconst (pc' := 21) (v := (nI 0)) hC dX3_lowerToLeast_20 (by decide) rfl ?_
    refine g_imax (pc' := 24) hC math_X3_29 (by decide) dX3_lowerToLeast_21 rfl rfl ?_
    refine g_istore (pc' := 26) (i := 6) (lo' := [some (.ref (ea E (32 + v0))), some (.int v1), some (.int v2), some (.int v3), some (.long (lN 0)), none, some (.int (imax v1 (nI 0))), none, none]) hC dX3_lowerToLeast_24 rfl rfl rfl rfl ?_
    refine w_X3_lowerToLeast_L26 hC hv0 ?_ _ _ _ h
    · intro v4_2 h
      refine g_iload_n (pc' := 57) (i := 1) hC dX3_lowerToLeast_56 rfl rfl rfl ?_
      refine g_iconst (pc' := 58) (v := (nI 0)) hC dX3_lowerToLeast_57 (by decide) rfl ?_
      refine g_imax (pc' := 61) hC math_X3_29 (by decide) dX3_lowerToLeast_58 rfl rfl ?_
      refine g_istore (pc' := 63) (i := 6) (lo' := [some (.ref (ea E (32 + v0))), some (.int v1), some (.int v2), some (.int v3), some (.long v4_2), none, some (.int (imax v1 (nI 0))), none, none]) hC dX3_lowerToLeast_61 rfl rfl rfl rfl ?_
      refine g_weak (lo' := [some (.ref (ea E (32 + v0))), none, some (.int v2), some (.int v3), some (.long v4_2), none, some (.int (imax v1 (nI 0))), none, none]) rfl ?_
      refine w_X3_lowerToLeast_L63 hC hv0  _ _ _ h
  · refine g_iload_n (pc' := 5) (i := 1) hC dX3_lowerToLeast_4 rfl rfl rfl ?_
    refine g_aload_n (pc' := 6) (i := 0) hC dX3_lowerToLeast_5 rfl rfl rfl ?_
    refine al_la (pc' := 7) hC hv0 dX3_lowerToLeast_6 rfl ?_
    refine g_icmp_ge (pc' := 10) (tgt := 16) hC dX3_lowerToLeast_7 (by decide) rfl h (fun h => ?_) (fun h => ?_)
    · refine g_aload_n (pc' := 11) (i := 0) hC dX3_lowerToLeast_10 rfl rfl rfl ?_
      refine g_iload_n (pc' := 12) (i := 1) hC dX3_lowerToLeast_11 rfl rfl rfl ?_
      obtain ⟨g_6, h⟩ := gd_some h
      refine ld_la (pc' := 13) hC hv0 g_6 dX3_lowerToLeast_12 rfl ?_
      refine g_goto (tgt := 17) hC dX3_lowerToLeast_13 (by decide) ?_
      refine g_lstore (pc' := 19) (i := 4) (lo' := [some (.ref (ea E (32 + v0))), some (.int v1), some (.int v2), some (.int v3), some (.long (la v0 (ix v1))), none, none, none, none]) hC dX3_lowerToLeast_17 rfl rfl rfl rfl ?_
      refine g_iload_n (pc' := 20) (i := 1) hC dX3_lowerToLeast_19 rfl rfl rfl ?_
      refine g_iconst (pc' := 21) (v := (nI 0)) hC dX3_lowerToLeast_20 (by decide) rfl ?_
      refine g_imax (pc' := 24) hC math_X3_29 (by decide) dX3_lowerToLeast_21 rfl rfl ?_
      refine g_istore (pc' := 26) (i := 6) (lo' := [some (.ref (ea E (32 + v0))), some (.int v1), some (.int v2), some (.int v3), some (.long (la v0 (ix v1))), none, some (.int (imax v1 (nI 0))), none, none]) hC dX3_lowerToLeast_24 rfl rfl rfl rfl ?_
      refine w_X3_lowerToLeast_L26 hC hv0 ?_ _ _ _ h
      · intro v4_7 h
        refine g_iload_n (pc' := 57) (i := 1) hC dX3_lowerToLeast_56 rfl rfl rfl ?_
        refine g_iconst (pc' := 58) (v := (nI 0)) hC dX3_lowerToLeast_57 (by decide) rfl ?_
        refine g_imax (pc' := 61) hC math_X3_29 (by decide) dX3_lowerToLeast_58 rfl rfl ?_
        refine g_istore (pc' := 63) (i := 6) (lo' := [some (.ref (ea E (32 + v0))), some (.int v1), some (.int v2), some (.int v3), some (.long v4_7), none, some (.int (imax v1 (nI 0))), none, none]) hC dX3_lowerToLeast_61 rfl rfl rfl rfl ?_
        refine g_weak (lo' := [some (.ref (ea E (32 + v0))), none, some (.int v2), some (.int v3), some (.long v4_7), none, some (.int (imax v1 (nI 0))), none, none]) rfl ?_
        refine w_X3_lowerToLeast_L63 hC hv0  _ _ _ h
    · refine g_lconst (pc' := 17) (v := (lN 0)) hC dX3_lowerToLeast_16 (by decide) rfl ?_
      refine g_lstore (pc' := 19) (i := 4) (lo' := [some (.ref (ea E (32 + v0))), some (.int v1), some (.int v2), some (.int v3), some (.long (lN 0)), none, none, none, none]) hC dX3_lowerToLeast_17 rfl rfl rfl rfl ?_
      refine g_iload_n (pc' := 20) (i := 1) hC dX3_lowerToLeast_19 rfl rfl rfl ?_
      refine g_iconst (pc' := 21) (v := (nI 0)) hC dX3_lowerToLeast_20 (by decide) rfl ?_
      refine g_imax (pc' := 24) hC math_X3_29 (by decide) dX3_lowerToLeast_21 rfl rfl ?_
      refine g_istore (pc' := 26) (i := 6) (lo' := [some (.ref (ea E (32 + v0))), some (.int v1), some (.int v2), some (.int v3), some (.long (lN 0)), none, some (.int (imax v1 (nI 0))), none, none]) hC dX3_lowerToLeast_24 rfl rfl rfl rfl ?_
      refine w_X3_lowerToLeast_L26 hC hv0 ?_ _ _ _ h
      · intro v4_8 h
        refine g_iload_n (pc' := 57) (i := 1) hC dX3_lowerToLeast_56 rfl rfl rfl ?_
        refine g_iconst (pc' := 58) (v := (nI 0)) hC dX3_lowerToLeast_57 (by decide) rfl ?_
        refine g_imax (pc' := 61) hC math_X3_29 (by decide) dX3_lowerToLeast_58 rfl rfl ?_
        refine g_istore (pc' := 63) (i := 6) (lo' := [some (.ref (ea E (32 + v0))), some (.int v1), some (.int v2), some (.int v3), some (.long v4_8), none, some (.int (imax v1 (nI 0))), none, none]) hC dX3_lowerToLeast_61 rfl rfl rfl rfl ?_
        refine g_weak (lo' := [some (.ref (ea E (32 + v0))), none, some (.int v2), some (.int v3), some (.long v4_8), none, some (.int (imax v1 (nI 0))), none, none]) rfl ?_
        refine w_X3_lowerToLeast_L63 hC hv0  _ _ _ h
set_option maxRecDepth 200000 in
theorem w_X3_partWidth_L9 {κ : GK} {E : GE} {rr : Int32} {v0 : Nat} {v1 : Int32} {v2 : Int32}  (hC : gC κ E cX3_partWidth RX3 (some .int) rm_X3_partWidth 6) (hv0 : v0 < 3)  : ∀ (n : Nat) (v3 : Int64) (v5 : Int32), itr2 (p_X3_partWidth_L9 v0 v1 v2 la) n v3 v5 = some rr → GG κ E (xws E xk xo xc xt xn xl rc rv rb la wch wcc wpl wun srow ssp sen str stp swd rwp rdr rpd rpv rpc rzp, some (.int rr)) (xws E xk xo xc xt xn xl rc rv rb la wch wcc wpl wun srow ssp sen str stp swd rwp rdr rpd rpv rpc rzp) 9 [some (.ref (ea E (32 + v0))), some (.int v1), some (.int v2), some (.long v3), none, some (.int v5)] [] :=
  itr2_ind (fun k9 hk9 v3 v5 h => by
    unfold p_X3_partWidth_L9 at h
    refine g_iload (pc' := 11) (i := 5) hC dX3_partWidth_9 rfl rfl ?_
    refine g_iload_n (pc' := 12) (i := 1) hC dX3_partWidth_11 rfl rfl rfl ?_
    refine g_bipush (pc' := 14) (v := (nI 32)) hC dX3_partWidth_12 (by decide) rfl ?_
    refine g_iadd (pc' := 15) hC dX3_partWidth_14 rfl ?_
    refine g_icmp_ge (pc' := 18) (tgt := 44) hC dX3_partWidth_15 (by decide) rfl h (fun h => ?_) (fun h => ?_)
    · refine g_iload (pc' := 20) (i := 5) hC dX3_partWidth_18 rfl rfl ?_
      refine g_iload_n (pc' := 21) (i := 2) hC dX3_partWidth_20 rfl rfl rfl ?_
      refine g_icmp_ge (pc' := 24) (tgt := 44) hC dX3_partWidth_21 (by decide) rfl h (fun h => ?_) (fun h => ?_)
      · refine g_iload (pc' := 26) (i := 5) hC dX3_partWidth_24 rfl rfl ?_
        refine g_aload_n (pc' := 27) (i := 0) hC dX3_partWidth_26 rfl rfl rfl ?_
        refine al_la (pc' := 28) hC hv0 dX3_partWidth_27 rfl ?_
        refine g_icmp_ge (pc' := 31) (tgt := 44) hC dX3_partWidth_28 (by decide) rfl h (fun h => ?_) (fun h => ?_)
        · refine g_lload_n (pc' := 32) (i := 3) hC dX3_partWidth_31 rfl rfl rfl ?_
          refine g_aload_n (pc' := 33) (i := 0) hC dX3_partWidth_32 rfl rfl rfl ?_
          refine g_iload (pc' := 35) (i := 5) hC dX3_partWidth_33 rfl rfl ?_
          obtain ⟨g_1, h⟩ := gd_some h
          refine ld_la (pc' := 36) hC hv0 g_1 dX3_partWidth_35 rfl ?_
          refine g_lor (pc' := 37) hC dX3_partWidth_36 rfl ?_
          refine g_lstore_n (pc' := 38) (i := 3) (lo' := [some (.ref (ea E (32 + v0))), some (.int v1), some (.int v2), some (.long (v3 ||| (la v0 (ix v5)))), none, some (.int v5)]) hC dX3_partWidth_37 rfl rfl rfl rfl rfl ?_
          refine g_iinc (pc' := 41) (i := 5) (x := v5) (k := (nI 1)) (lo' := [some (.ref (ea E (32 + v0))), some (.int v1), some (.int v2), some (.long (v3 ||| (la v0 (ix v5)))), none, some (.int (v5 + (nI 1)))]) hC dX3_partWidth_38 rfl (by decide) rfl rfl rfl rfl ?_
          refine g_goto (tgt := 9) hC dX3_partWidth_41 (by decide) ?_
          exact hk9 _ _ h
        · refine g_lload_n (pc' := 45) (i := 3) hC dX3_partWidth_44 rfl rfl rfl ?_
          obtain ⟨a_2, hc_3, h⟩ := bd1_some h
          refine g_callN (pc' := 48) hC (c_X5_bitsOf _ hc_3) ml_X3_94  (by decide) rfl rfl rfl dX3_partWidth_45 rfl ?_
          obtain rfl := inj1 h; exact g_iret hC dX3_partWidth_48
      · refine g_lload_n (pc' := 45) (i := 3) hC dX3_partWidth_44 rfl rfl rfl ?_
        obtain ⟨a_4, hc_5, h⟩ := bd1_some h
        refine g_callN (pc' := 48) hC (c_X5_bitsOf _ hc_5) ml_X3_94  (by decide) rfl rfl rfl dX3_partWidth_45 rfl ?_
        obtain rfl := inj1 h; exact g_iret hC dX3_partWidth_48
    · refine g_lload_n (pc' := 45) (i := 3) hC dX3_partWidth_44 rfl rfl rfl ?_
      obtain ⟨a_6, hc_7, h⟩ := bd1_some h
      refine g_callN (pc' := 48) hC (c_X5_bitsOf _ hc_7) ml_X3_94  (by decide) rfl rfl rfl dX3_partWidth_45 rfl ?_
      obtain rfl := inj1 h; exact g_iret hC dX3_partWidth_48)
set_option maxRecDepth 200000 in
theorem c_X3_partWidth (l : Launch) {E : GE} {rr : Int32} {v0 : Nat} {v1 : Int32} {v2 : Int32} (hv0 : v0 < 3) (h : p_X3_partWidth v0 v1 v2 la = some rr) : Met l yX3_partWidth (.code yX3_partWidth cX3_partWidth 6 (some .int) :: gU) rm_X3_partWidth (gP E (xws E xk xo xc xt xn xl rc rv rb la wch wcc wpl wun srow ssp sen str stp swd rwp rdr rpd rpv rpc rzp) [.ref (ea E (32 + v0)), .int v1, .int v2]) (gQ E (xws E xk xo xc xt xn xl rc rv rb la wch wcc wpl wun srow ssp sen str stp swd rwp rdr rpd rpv rpc rzp) (some (.int rr))) 0 0 E.2.2.1 := by
  refine met_of (y := yX3_partWidth) (own := RX3) (lo := [some (.ref (ea E (32 + v0))), some (.int v1), some (.int v2), none, none, none]) (by decide) rfl rfl rfl (fun κ hl hC => ?_)
  subst hl
  unfold p_X3_partWidth at h
  refine g_lconst (pc' := 1) (v := (lN 0)) hC dX3_partWidth_0 (by decide) rfl ?_
  refine g_lstore_n (pc' := 2) (i := 3) (lo' := [some (.ref (ea E (32 + v0))), some (.int v1), some (.int v2), some (.long (lN 0)), none, none]) hC dX3_partWidth_1 rfl rfl rfl rfl rfl ?_
  refine g_iload_n (pc' := 3) (i := 1) hC dX3_partWidth_2 rfl rfl rfl ?_
  refine g_iconst (pc' := 4) (v := (nI 0)) hC dX3_partWidth_3 (by decide) rfl ?_
  refine g_imax (pc' := 7) hC math_X3_29 (by decide) dX3_partWidth_4 rfl rfl ?_
  refine g_istore (pc' := 9) (i := 5) (lo' := [some (.ref (ea E (32 + v0))), some (.int v1), some (.int v2), some (.long (lN 0)), none, some (.int (imax v1 (nI 0)))]) hC dX3_partWidth_7 rfl rfl rfl rfl ?_
  refine w_X3_partWidth_L9 hC hv0  _ _ _ h
set_option maxRecDepth 200000 in
theorem w_X3_pushBlock_L22 {κ : GK} {E : GE} {rcz : Nat → Int32} {rvz : Nat → Int32} {rbz : Nat → Nat → Int32} {laz : Nat → Nat → Int64} {v0 : Nat} {v1 : Nat} {v2 : Int32} {v3 : Int32} {k50 : (Nat → Int32) → (Nat → Int32) → (Nat → Nat → Int32) → Option ((Nat → Int32) × (Nat → Int32) × (Nat → Nat → Int32) × (Nat → Nat → Int64))} (hC : gC κ E cX3_pushBlock RX3 none rm_X3_pushBlock 9) (hv0 : v0 < 4) (hv1 : v1 < 3) (hk50 : ∀ (rc : Nat → Int32) (rv : Nat → Int32) (rb : Nat → Nat → Int32), k50 rc rv rb = some (rcz, rvz, rbz, laz) → GG κ E (xws E xk xo xc xt xn xl rcz rvz rbz laz wch wcc wpl wun srow ssp sen str stp swd rwp rdr rpd rpv rpc rzp, none) (xws E xk xo xc xt xn xl rc rv rb la wch wcc wpl wun srow ssp sen str stp swd rwp rdr rpd rpv rpc rzp) 50 [some (.ref (ea E (24 + 2 * v0))), some (.ref (ea E (32 + v1))), some (.int v2), some (.int v3), none, none, none, none, none] []) : ∀ (n : Nat) (v7 : Int32) (rc : Nat → Int32) (rv : Nat → Int32) (rb : Nat → Nat → Int32), itr4 (p_X3_pushBlock_L22 v0 v1 v2 v3 la k50) n v7 rc rv rb = some (rcz, rvz, rbz, laz) → GG κ E (xws E xk xo xc xt xn xl rcz rvz rbz laz wch wcc wpl wun srow ssp sen str stp swd rwp rdr rpd rpv rpc rzp, none) (xws E xk xo xc xt xn xl rc rv rb la wch wcc wpl wun srow ssp sen str stp swd rwp rdr rpd rpv rpc rzp) 22 [some (.ref (ea E (24 + 2 * v0))), some (.ref (ea E (32 + v1))), some (.int v2), some (.int v3), none, none, none, some (.int v7), none] [] :=
  itr4_ind (fun k22 hk22 v7 rc rv rb h => by
    unfold p_X3_pushBlock_L22 at h
    refine g_iload (pc' := 24) (i := 7) hC dX3_pushBlock_22 rfl rfl ?_
    refine g_iconst (pc' := 25) (v := (nI 4)) hC dX3_pushBlock_24 (by decide) rfl ?_
    refine g_icmp_ge (pc' := 28) (tgt := 50) hC dX3_pushBlock_25 (by decide) rfl h (fun h => ?_) (fun h => ?_)
    · refine g_aload_n (pc' := 29) (i := 0) hC dX3_pushBlock_28 rfl rfl rfl ?_
      refine g_aload_n (pc' := 30) (i := 1) hC dX3_pushBlock_29 rfl rfl rfl ?_
      refine g_iload_n (pc' := 31) (i := 2) hC dX3_pushBlock_30 rfl rfl rfl ?_
      refine g_iload (pc' := 33) (i := 7) hC dX3_pushBlock_31 rfl rfl ?_
      refine g_bipush (pc' := 35) (v := (nI 32)) hC dX3_pushBlock_33 (by decide) rfl ?_
      refine g_imul (pc' := 36) hC dX3_pushBlock_35 rfl ?_
      refine g_iadd (pc' := 37) hC dX3_pushBlock_36 rfl ?_
      refine g_iload_n (pc' := 38) (i := 3) hC dX3_pushBlock_37 rfl rfl rfl ?_
      obtain ⟨a_10, hc_11, h⟩ := bd1_some h
      refine g_callS (pc' := 41) hC (c_X3_partWidth _ hv1 hc_11) ml_X3_86  (by decide) rfl rfl rfl dX3_pushBlock_38 rfl ?_
      obtain ⟨rc_12, rv_13, rb_14, hc_15, h⟩ := bd3_some h
      refine g_callV (pc' := 44) hC (c_X3_push _ hv0 hc_15) ml_X3_36 (rc_Row hv0) (by decide) rfl rfl rfl rfl dX3_pushBlock_41 rfl ?_
      refine g_iinc (pc' := 47) (i := 7) (x := v7) (k := (nI 1)) (lo' := [some (.ref (ea E (24 + 2 * v0))), some (.ref (ea E (32 + v1))), some (.int v2), some (.int v3), none, none, none, some (.int (v7 + (nI 1))), none]) hC dX3_pushBlock_44 rfl (by decide) rfl rfl rfl rfl ?_
      refine g_goto (tgt := 22) hC dX3_pushBlock_47 (by decide) ?_
      exact hk22 _ _ _ _ h
    · refine g_weak (lo' := [some (.ref (ea E (24 + 2 * v0))), some (.ref (ea E (32 + v1))), some (.int v2), some (.int v3), none, none, none, none, none]) rfl ?_
      exact hk50 _ _ _ h)
set_option maxRecDepth 200000 in
theorem w_X3_pushBlock_L53 {κ : GK} {E : GE} {rcz : Nat → Int32} {rvz : Nat → Int32} {rbz : Nat → Nat → Int32} {laz : Nat → Nat → Int64} {v0 : Nat} {v1 : Nat} {v2 : Int32} {v3 : Int32}  (hC : gC κ E cX3_pushBlock RX3 none rm_X3_pushBlock 9) (hv0 : v0 < 4) (hv1 : v1 < 3)  : ∀ (n : Nat) (v7 : Int32) (rc : Nat → Int32) (rv : Nat → Int32) (rb : Nat → Nat → Int32), itr4 (p_X3_pushBlock_L53 v0 v1 v2 v3 la) n v7 rc rv rb = some (rcz, rvz, rbz, laz) → GG κ E (xws E xk xo xc xt xn xl rcz rvz rbz laz wch wcc wpl wun srow ssp sen str stp swd rwp rdr rpd rpv rpc rzp, none) (xws E xk xo xc xt xn xl rc rv rb la wch wcc wpl wun srow ssp sen str stp swd rwp rdr rpd rpv rpc rzp) 53 [some (.ref (ea E (24 + 2 * v0))), some (.ref (ea E (32 + v1))), some (.int v2), some (.int v3), none, none, none, some (.int v7), none] [] :=
  itr4_ind (fun k53 hk53 v7 rc rv rb h => by
    unfold p_X3_pushBlock_L53 at h
    refine g_iload (pc' := 55) (i := 7) hC dX3_pushBlock_53 rfl rfl ?_
    refine g_iconst (pc' := 56) (v := (nI 4)) hC dX3_pushBlock_55 (by decide) rfl ?_
    refine g_icmp_ge (pc' := 59) (tgt := 97) hC dX3_pushBlock_56 (by decide) rfl h (fun h => ?_) (fun h => ?_)
    · refine g_iload_n (pc' := 60) (i := 2) hC dX3_pushBlock_59 rfl rfl rfl ?_
      refine g_iload (pc' := 62) (i := 7) hC dX3_pushBlock_60 rfl rfl ?_
      refine g_bipush (pc' := 64) (v := (nI 32)) hC dX3_pushBlock_62 (by decide) rfl ?_
      refine g_imul (pc' := 65) hC dX3_pushBlock_64 rfl ?_
      refine g_iadd (pc' := 66) hC dX3_pushBlock_65 rfl ?_
      refine g_istore (pc' := 68) (i := 8) (lo' := [some (.ref (ea E (24 + 2 * v0))), some (.ref (ea E (32 + v1))), some (.int v2), some (.int v3), none, none, none, some (.int v7), some (.int (v2 + (v7 * (nI 32))))]) hC dX3_pushBlock_66 rfl rfl rfl rfl ?_
      refine g_iload (pc' := 70) (i := 8) hC dX3_pushBlock_68 rfl rfl ?_
      refine g_iload_n (pc' := 71) (i := 3) hC dX3_pushBlock_70 rfl rfl rfl ?_
      refine g_icmp_ge (pc' := 74) (tgt := 91) hC dX3_pushBlock_71 (by decide) rfl h (fun h => ?_) (fun h => ?_)
      · refine g_aload_n (pc' := 75) (i := 0) hC dX3_pushBlock_74 rfl rfl rfl ?_
        refine g_aload_n (pc' := 76) (i := 1) hC dX3_pushBlock_75 rfl rfl rfl ?_
        refine g_iload (pc' := 78) (i := 8) hC dX3_pushBlock_76 rfl rfl ?_
        refine g_iload_n (pc' := 79) (i := 3) hC dX3_pushBlock_78 rfl rfl rfl ?_
        refine g_bipush (pc' := 81) (v := (nI 32)) hC dX3_pushBlock_79 (by decide) rfl ?_
        refine g_aload_n (pc' := 82) (i := 1) hC dX3_pushBlock_81 rfl rfl rfl ?_
        refine g_iload (pc' := 84) (i := 8) hC dX3_pushBlock_82 rfl rfl ?_
        refine g_iload_n (pc' := 85) (i := 3) hC dX3_pushBlock_84 rfl rfl rfl ?_
        obtain ⟨a_19, hc_20, h⟩ := bd1_some h
        refine g_callS (pc' := 88) hC (c_X3_partWidth _ hv1 hc_20) ml_X3_86  (by decide) rfl rfl rfl dX3_pushBlock_85 rfl ?_
        obtain ⟨rc_21, rv_22, rb_23, hc_24, h⟩ := bd3_some h
        refine g_callV (pc' := 91) hC (c_X3_pushPacked _ hv0 hv1 hc_24) ml_X3_66 (rc_Row hv0) (by decide) rfl rfl rfl rfl dX3_pushBlock_88 rfl ?_
        refine g_iinc (pc' := 94) (i := 7) (x := v7) (k := (nI 1)) (lo' := [some (.ref (ea E (24 + 2 * v0))), some (.ref (ea E (32 + v1))), some (.int v2), some (.int v3), none, none, none, some (.int (v7 + (nI 1))), some (.int (v2 + (v7 * (nI 32))))]) hC dX3_pushBlock_91 rfl (by decide) rfl rfl rfl rfl ?_
        refine g_goto (tgt := 53) hC dX3_pushBlock_94 (by decide) ?_
        refine g_weak (lo' := [some (.ref (ea E (24 + 2 * v0))), some (.ref (ea E (32 + v1))), some (.int v2), some (.int v3), none, none, none, some (.int (v7 + (nI 1))), none]) rfl ?_
        exact hk53 _ _ _ _ h
      · refine g_iinc (pc' := 94) (i := 7) (x := v7) (k := (nI 1)) (lo' := [some (.ref (ea E (24 + 2 * v0))), some (.ref (ea E (32 + v1))), some (.int v2), some (.int v3), none, none, none, some (.int (v7 + (nI 1))), some (.int (v2 + (v7 * (nI 32))))]) hC dX3_pushBlock_91 rfl (by decide) rfl rfl rfl rfl ?_
        refine g_goto (tgt := 53) hC dX3_pushBlock_94 (by decide) ?_
        refine g_weak (lo' := [some (.ref (ea E (24 + 2 * v0))), some (.ref (ea E (32 + v1))), some (.int v2), some (.int v3), none, none, none, some (.int (v7 + (nI 1))), none]) rfl ?_
        exact hk53 _ _ _ _ h
    · obtain ⟨rfl, rfl, rfl, rfl⟩ := inj4 h; exact g_vret hC dX3_pushBlock_97)
set_option maxRecDepth 200000 in
theorem c_X3_pushBlock (l : Launch) {E : GE} {rcz : Nat → Int32} {rvz : Nat → Int32} {rbz : Nat → Nat → Int32} {laz : Nat → Nat → Int64} {v0 : Nat} {v1 : Nat} {v2 : Int32} {v3 : Int32} {v4 : Int32} (hv0 : v0 < 4) (hv1 : v1 < 3) (h : p_X3_pushBlock v0 v1 v2 v3 v4 rc rv rb la = some (rcz, rvz, rbz, laz)) : Met l yX3_pushBlock (.code yX3_pushBlock cX3_pushBlock 9 none :: gU) rm_X3_pushBlock (gP E (xws E xk xo xc xt xn xl rc rv rb la wch wcc wpl wun srow ssp sen str stp swd rwp rdr rpd rpv rpc rzp) [.ref (ea E (24 + 2 * v0)), .ref (ea E (32 + v1)), .int v2, .int v3, .int v4]) (gQ E (xws E xk xo xc xt xn xl rcz rvz rbz laz wch wcc wpl wun srow ssp sen str stp swd rwp rdr rpd rpv rpc rzp) none) 0 0 E.2.2.1 := by
  refine met_of (y := yX3_pushBlock) (own := RX3) (lo := [some (.ref (ea E (24 + 2 * v0))), some (.ref (ea E (32 + v1))), some (.int v2), some (.int v3), some (.int v4), none, none, none, none]) (by decide) rfl rfl rfl (fun κ hl hC => ?_)
  subst hl
  unfold p_X3_pushBlock at h
  refine g_aload_n (pc' := 1) (i := 1) hC dX3_pushBlock_0 rfl rfl rfl ?_
  refine g_iload_n (pc' := 2) (i := 2) hC dX3_pushBlock_1 rfl rfl rfl ?_
  refine g_iload_n (pc' := 3) (i := 3) hC dX3_pushBlock_2 rfl rfl rfl ?_
  refine g_iload (pc' := 5) (i := 4) hC dX3_pushBlock_3 rfl rfl ?_
  obtain ⟨a_1, la_2, hc_3, h⟩ := bd2_some h
  refine g_callS (pc' := 8) hC (c_X3_lowerToLeast _ hv1 hc_3) ml_X3_82  (by decide) rfl rfl rfl dX3_pushBlock_5 rfl ?_
  refine g_lstore (pc' := 10) (i := 5) (lo' := [some (.ref (ea E (24 + 2 * v0))), some (.ref (ea E (32 + v1))), some (.int v2), some (.int v3), some (.int v4), some (.long a_1), none, none, none]) hC dX3_pushBlock_8 rfl rfl rfl rfl ?_
  refine g_aload_n (pc' := 11) (i := 0) hC dX3_pushBlock_10 rfl rfl rfl ?_
  refine g_lload (pc' := 13) (i := 5) hC dX3_pushBlock_11 rfl rfl ?_
  obtain ⟨a_4, hc_5, h⟩ := bd1_some h
  refine g_callN (pc' := 16) hC (c_X5_zigged _ hc_5) ml_X3_74  (by decide) rfl rfl rfl dX3_pushBlock_13 rfl ?_
  obtain ⟨rc_6, rv_7, rb_8, hc_9, h⟩ := bd3_some h
  refine g_callV (pc' := 19) hC (c_X3_pushVar _ hv0 hc_9) ml_X3_52 (rc_Row hv0) (by decide) rfl rfl rfl rfl dX3_pushBlock_16 rfl ?_
  refine g_iconst (pc' := 20) (v := (nI 0)) hC dX3_pushBlock_19 (by decide) rfl ?_
  refine g_istore (pc' := 22) (i := 7) (lo' := [some (.ref (ea E (24 + 2 * v0))), some (.ref (ea E (32 + v1))), some (.int v2), some (.int v3), some (.int v4), some (.long a_1), none, some (.int (nI 0)), none]) hC dX3_pushBlock_20 rfl rfl rfl rfl ?_
  refine g_weak (lo' := [some (.ref (ea E (24 + 2 * v0))), some (.ref (ea E (32 + v1))), some (.int v2), some (.int v3), none, none, none, some (.int (nI 0)), none]) rfl ?_
  refine w_X3_pushBlock_L22 hC hv0 hv1 ?_ _ _ _ _ _ h
  · intro rc_16 rv_17 rb_18 h
    refine g_iconst (pc' := 51) (v := (nI 0)) hC dX3_pushBlock_50 (by decide) rfl ?_
    refine g_istore (pc' := 53) (i := 7) (lo' := [some (.ref (ea E (24 + 2 * v0))), some (.ref (ea E (32 + v1))), some (.int v2), some (.int v3), none, none, none, some (.int (nI 0)), none]) hC dX3_pushBlock_51 rfl rfl rfl rfl ?_
    refine w_X3_pushBlock_L53 hC hv0 hv1  _ _ _ _ _ h
set_option maxRecDepth 200000 in
theorem w_X3_pushDifferences_L53 {κ : GK} {E : GE} {rcz : Nat → Int32} {rvz : Nat → Int32} {rbz : Nat → Nat → Int32} {laz : Nat → Nat → Int64} {v0 : Nat} {v1 : Nat} {v2 : Int32} {v3 : Int32} {k94 : (Nat → Nat → Int64) → Option ((Nat → Int32) × (Nat → Int32) × (Nat → Nat → Int32) × (Nat → Nat → Int64))} (hC : gC κ E cX3_pushDifferences RX3 none rm_X3_pushDifferences 7) (hv0 : v0 < 4) (hv1 : v1 < 3) (hk94 : ∀ (la : Nat → Nat → Int64), k94 la = some (rcz, rvz, rbz, laz) → GG κ E (xws E xk xo xc xt xn xl rcz rvz rbz laz wch wcc wpl wun srow ssp sen str stp swd rwp rdr rpd rpv rpc rzp, none) (xws E xk xo xc xt xn xl rc rv rb la wch wcc wpl wun srow ssp sen str stp swd rwp rdr rpd rpv rpc rzp) 94 [some (.ref (ea E (24 + 2 * v0))), some (.ref (ea E (32 + v1))), some (.int v2), some (.int v3), none, none, none] []) : ∀ (n : Nat) (v4 : Int32) (la : Nat → Nat → Int64), itr2 (p_X3_pushDifferences_L53 v1 v3 k94) n v4 la = some (rcz, rvz, rbz, laz) → GG κ E (xws E xk xo xc xt xn xl rcz rvz rbz laz wch wcc wpl wun srow ssp sen str stp swd rwp rdr rpd rpv rpc rzp, none) (xws E xk xo xc xt xn xl rc rv rb la wch wcc wpl wun srow ssp sen str stp swd rwp rdr rpd rpv rpc rzp) 53 [some (.ref (ea E (24 + 2 * v0))), some (.ref (ea E (32 + v1))), some (.int v2), some (.int v3), some (.int v4), none, none] [] :=
  itr2_ind (fun k53 hk53 v4 la h => by
    unfold p_X3_pushDifferences_L53 at h
    refine g_iload (pc' := 55) (i := 4) hC dX3_pushDifferences_53 rfl rfl ?_
    refine g_if_le (pc' := 58) (tgt := 94) hC dX3_pushDifferences_55 (by decide) rfl h (fun h => ?_) (fun h => ?_)
    · refine g_aload_n (pc' := 59) (i := 1) hC dX3_pushDifferences_58 rfl rfl rfl ?_
      refine g_iload (pc' := 61) (i := 4) hC dX3_pushDifferences_59 rfl rfl ?_
      obtain ⟨g_20, h⟩ := gd_some h
      refine ld_la (pc' := 62) hC hv1 g_20 dX3_pushDifferences_61 rfl ?_
      refine g_aload_n (pc' := 63) (i := 1) hC dX3_pushDifferences_62 rfl rfl rfl ?_
      refine g_iload (pc' := 65) (i := 4) hC dX3_pushDifferences_63 rfl rfl ?_
      refine g_iconst (pc' := 66) (v := (nI 1)) hC dX3_pushDifferences_65 (by decide) rfl ?_
      refine g_isub (pc' := 67) hC dX3_pushDifferences_66 rfl ?_
      obtain ⟨g_21, h⟩ := gd_some h
      refine ld_la (pc' := 68) hC hv1 g_21 dX3_pushDifferences_67 rfl ?_
      refine g_lsub (pc' := 69) hC dX3_pushDifferences_68 rfl ?_
      refine g_lstore (pc' := 71) (i := 5) (lo' := [some (.ref (ea E (24 + 2 * v0))), some (.ref (ea E (32 + v1))), some (.int v2), some (.int v3), some (.int v4), some (.long ((la v1 (ix v4)) - (la v1 (ix (v4 - (nI 1)))))), none]) hC dX3_pushDifferences_69 rfl rfl rfl rfl ?_
      refine g_aload_n (pc' := 72) (i := 1) hC dX3_pushDifferences_71 rfl rfl rfl ?_
      refine g_iload (pc' := 74) (i := 4) hC dX3_pushDifferences_72 rfl rfl ?_
      refine g_iload_n (pc' := 75) (i := 3) hC dX3_pushDifferences_74 rfl rfl rfl ?_
      refine g_if_eq (pc' := 78) (tgt := 85) hC dX3_pushDifferences_75 (by decide) rfl h (fun h => ?_) (fun h => ?_)
      · refine g_lload (pc' := 87) (i := 5) hC dX3_pushDifferences_85 rfl rfl ?_
        obtain ⟨g_22, h⟩ := gd_some h
        refine st_la (pc' := 88) hC hv1 g_22 dX3_pushDifferences_87 rfl ?_
        refine g_iinc (pc' := 91) (i := 4) (x := v4) (k := (-1 : Int32)) (lo' := [some (.ref (ea E (24 + 2 * v0))), some (.ref (ea E (32 + v1))), some (.int v2), some (.int v3), some (.int (v4 + (-1 : Int32))), some (.long ((la v1 (ix v4)) - (la v1 (ix (v4 - (nI 1)))))), none]) hC dX3_pushDifferences_88 rfl (by decide) rfl rfl rfl rfl ?_
        refine g_goto (tgt := 53) hC dX3_pushDifferences_91 (by decide) ?_
        refine g_weak (lo' := [some (.ref (ea E (24 + 2 * v0))), some (.ref (ea E (32 + v1))), some (.int v2), some (.int v3), some (.int (v4 + (-1 : Int32))), none, none]) rfl ?_
        exact hk53 _ _ h
      · refine g_lload (pc' := 80) (i := 5) hC dX3_pushDifferences_78 rfl rfl ?_
        refine g_l2i (pc' := 81) hC dX3_pushDifferences_80 rfl ?_
        refine g_i2l (pc' := 82) hC dX3_pushDifferences_81 rfl ?_
        refine g_goto (tgt := 87) hC dX3_pushDifferences_82 (by decide) ?_
        obtain ⟨g_23, h⟩ := gd_some h
        refine st_la (pc' := 88) hC hv1 g_23 dX3_pushDifferences_87 rfl ?_
        refine g_iinc (pc' := 91) (i := 4) (x := v4) (k := (-1 : Int32)) (lo' := [some (.ref (ea E (24 + 2 * v0))), some (.ref (ea E (32 + v1))), some (.int v2), some (.int v3), some (.int (v4 + (-1 : Int32))), some (.long ((la v1 (ix v4)) - (la v1 (ix (v4 - (nI 1)))))), none]) hC dX3_pushDifferences_88 rfl (by decide) rfl rfl rfl rfl ?_
        refine g_goto (tgt := 53) hC dX3_pushDifferences_91 (by decide) ?_
        refine g_weak (lo' := [some (.ref (ea E (24 + 2 * v0))), some (.ref (ea E (32 + v1))), some (.int v2), some (.int v3), some (.int (v4 + (-1 : Int32))), none, none]) rfl ?_
        exact hk53 _ _ h
    · refine g_weak (lo' := [some (.ref (ea E (24 + 2 * v0))), some (.ref (ea E (32 + v1))), some (.int v2), some (.int v3), none, none, none]) rfl ?_
      exact hk94 _ h)
set_option maxRecDepth 200000 in
theorem w_X3_pushDifferences_L97 {κ : GK} {E : GE} {rcz : Nat → Int32} {rvz : Nat → Int32} {rbz : Nat → Nat → Int32} {laz : Nat → Nat → Int64} {v0 : Nat} {v1 : Nat} {v2 : Int32} {v3 : Int32}  (hC : gC κ E cX3_pushDifferences RX3 none rm_X3_pushDifferences 7) (hv0 : v0 < 4) (hv1 : v1 < 3)  : ∀ (n : Nat) (v4 : Int32) (rc : Nat → Int32) (rv : Nat → Int32) (rb : Nat → Nat → Int32) (la : Nat → Nat → Int64), itr5 (p_X3_pushDifferences_L97 v0 v1 v2 v3) n v4 rc rv rb la = some (rcz, rvz, rbz, laz) → GG κ E (xws E xk xo xc xt xn xl rcz rvz rbz laz wch wcc wpl wun srow ssp sen str stp swd rwp rdr rpd rpv rpc rzp, none) (xws E xk xo xc xt xn xl rc rv rb la wch wcc wpl wun srow ssp sen str stp swd rwp rdr rpd rpv rpc rzp) 97 [some (.ref (ea E (24 + 2 * v0))), some (.ref (ea E (32 + v1))), some (.int v2), some (.int v3), some (.int v4), none, none] [] :=
  itr5_ind (fun k97 hk97 v4 rc rv rb la h => by
    unfold p_X3_pushDifferences_L97 at h
    refine g_iload (pc' := 99) (i := 4) hC dX3_pushDifferences_97 rfl rfl ?_
    refine g_iload_n (pc' := 100) (i := 2) hC dX3_pushDifferences_99 rfl rfl rfl ?_
    refine g_icmp_ge (pc' := 103) (tgt := 135) hC dX3_pushDifferences_100 (by decide) rfl h (fun h => ?_) (fun h => ?_)
    · refine g_aload_n (pc' := 104) (i := 0) hC dX3_pushDifferences_103 rfl rfl rfl ?_
      refine g_aload_n (pc' := 105) (i := 1) hC dX3_pushDifferences_104 rfl rfl rfl ?_
      refine g_iload (pc' := 107) (i := 4) hC dX3_pushDifferences_105 rfl rfl ?_
      refine g_iload (pc' := 109) (i := 4) hC dX3_pushDifferences_107 rfl rfl ?_
      refine g_sipush (pc' := 112) (v := (nI 128)) hC dX3_pushDifferences_109 (by decide) rfl ?_
      refine g_iadd (pc' := 113) hC dX3_pushDifferences_112 rfl ?_
      refine g_iload_n (pc' := 114) (i := 2) hC dX3_pushDifferences_113 rfl rfl rfl ?_
      refine g_imin (pc' := 117) hC math_X3_23 (by decide) dX3_pushDifferences_114 rfl rfl ?_
      refine g_aload_n (pc' := 118) (i := 1) hC dX3_pushDifferences_117 rfl rfl rfl ?_
      refine al_la (pc' := 119) hC hv1 dX3_pushDifferences_118 rfl ?_
      refine g_imin (pc' := 122) hC math_X3_23 (by decide) dX3_pushDifferences_119 rfl rfl ?_
      refine g_iload_n (pc' := 123) (i := 3) hC dX3_pushDifferences_122 rfl rfl rfl ?_
      obtain ⟨rc_25, rv_26, rb_27, la_28, hc_29, h⟩ := bd4_some h
      refine g_callV (pc' := 126) hC (c_X3_pushBlock _ hv0 hv1 hc_29) ml_X3_78 (rc_Row hv0) (by decide) rfl rfl rfl rfl dX3_pushDifferences_123 rfl ?_
      refine g_iincW (pc' := 132) (i := 4) (x := v4) (k := (nI 128)) (lo' := [some (.ref (ea E (24 + 2 * v0))), some (.ref (ea E (32 + v1))), some (.int v2), some (.int v3), some (.int (v4 + (nI 128))), none, none]) hC dX3_pushDifferences_126 rfl (by decide) rfl rfl rfl rfl ?_
      refine g_goto (tgt := 97) hC dX3_pushDifferences_132 (by decide) ?_
      exact hk97 _ _ _ _ _ h
    · obtain ⟨rfl, rfl, rfl, rfl⟩ := inj4 h; exact g_vret hC dX3_pushDifferences_135)
set_option maxRecDepth 200000 in
theorem w_X3_pushDifferences_J37 {κ : GK} {E : GE} {rcz : Nat → Int32} {rvz : Nat → Int32} {rbz : Nat → Nat → Int32} {laz : Nat → Nat → Int64} {v0 : Nat} {v1 : Nat} {v2 : Int32} {v3 : Int32} {s0 : Nat} {s1 : Int64}  (hC : gC κ E cX3_pushDifferences RX3 none rm_X3_pushDifferences 7) (hv0 : v0 < 4) (hv1 : v1 < 3) (hs0 : s0 < 4)  (h : p_X3_pushDifferences_J37 v0 v1 v2 v3 s0 s1 rc rv rb la = some (rcz, rvz, rbz, laz)) : GG κ E (xws E xk xo xc xt xn xl rcz rvz rbz laz wch wcc wpl wun srow ssp sen str stp swd rwp rdr rpd rpv rpc rzp, none) (xws E xk xo xc xt xn xl rc rv rb la wch wcc wpl wun srow ssp sen str stp swd rwp rdr rpd rpv rpc rzp) 37 [some (.ref (ea E (24 + 2 * v0))), some (.ref (ea E (32 + v1))), some (.int v2), some (.int v3), none, none, none] [.long s1, .ref (ea E (24 + 2 * s0))] := by
  unfold p_X3_pushDifferences_J37 at h
  obtain ⟨a_14, hc_15, h⟩ := bd1_some h
  refine g_callN (pc' := 40) hC (c_X5_zigged _ hc_15) ml_X3_74  (by decide) rfl rfl rfl dX3_pushDifferences_37 rfl ?_
  obtain ⟨rc_16, rv_17, rb_18, hc_19, h⟩ := bd3_some h
  refine g_callV (pc' := 43) hC (c_X3_pushVar _ hs0 hc_19) ml_X3_52 (rc_Row hs0) (by decide) rfl rfl rfl rfl dX3_pushDifferences_40 rfl ?_
  refine g_iload_n (pc' := 44) (i := 2) hC dX3_pushDifferences_43 rfl rfl rfl ?_
  refine g_aload_n (pc' := 45) (i := 1) hC dX3_pushDifferences_44 rfl rfl rfl ?_
  refine al_la (pc' := 46) hC hv1 dX3_pushDifferences_45 rfl ?_
  refine g_imin (pc' := 49) hC math_X3_23 (by decide) dX3_pushDifferences_46 rfl rfl ?_
  refine g_iconst (pc' := 50) (v := (nI 1)) hC dX3_pushDifferences_49 (by decide) rfl ?_
  refine g_isub (pc' := 51) hC dX3_pushDifferences_50 rfl ?_
  refine g_istore (pc' := 53) (i := 4) (lo' := [some (.ref (ea E (24 + 2 * v0))), some (.ref (ea E (32 + v1))), some (.int v2), some (.int v3), some (.int ((imin v2 (nI 200)) - (nI 1))), none, none]) hC dX3_pushDifferences_51 rfl rfl rfl rfl ?_
  refine w_X3_pushDifferences_L53 hC hv0 hv1 ?_ _ _ _ h
  · intro la_24 h
    refine g_iconst (pc' := 95) (v := (nI 1)) hC dX3_pushDifferences_94 (by decide) rfl ?_
    refine g_istore (pc' := 97) (i := 4) (lo' := [some (.ref (ea E (24 + 2 * v0))), some (.ref (ea E (32 + v1))), some (.int v2), some (.int v3), some (.int (nI 1)), none, none]) hC dX3_pushDifferences_95 rfl rfl rfl rfl ?_
    refine w_X3_pushDifferences_L97 hC hv0 hv1  _ _ _ _ _ _ h
set_option maxRecDepth 200000 in
theorem w_X3_pushDifferences_J36 {κ : GK} {E : GE} {rcz : Nat → Int32} {rvz : Nat → Int32} {rbz : Nat → Nat → Int32} {laz : Nat → Nat → Int64} {v0 : Nat} {v1 : Nat} {v2 : Int32} {v3 : Int32} {s0 : Nat}  (hC : gC κ E cX3_pushDifferences RX3 none rm_X3_pushDifferences 7) (hv0 : v0 < 4) (hv1 : v1 < 3) (hs0 : s0 < 4)  (h : p_X3_pushDifferences_J36 v0 v1 v2 v3 s0 rc rv rb la = some (rcz, rvz, rbz, laz)) : GG κ E (xws E xk xo xc xt xn xl rcz rvz rbz laz wch wcc wpl wun srow ssp sen str stp swd rwp rdr rpd rpv rpc rzp, none) (xws E xk xo xc xt xn xl rc rv rb la wch wcc wpl wun srow ssp sen str stp swd rwp rdr rpd rpv rpc rzp) 36 [some (.ref (ea E (24 + 2 * v0))), some (.ref (ea E (32 + v1))), some (.int v2), some (.int v3), none, none, none] [.ref (ea E (24 + 2 * s0))] := by
  unfold p_X3_pushDifferences_J36 at h
  refine g_lconst (pc' := 37) (v := (lN 0)) hC dX3_pushDifferences_36 (by decide) rfl ?_
  exact w_X3_pushDifferences_J37 hC hv0 hv1 hs0  h
set_option maxRecDepth 200000 in
theorem c_X3_pushDifferences (l : Launch) {E : GE} {rcz : Nat → Int32} {rvz : Nat → Int32} {rbz : Nat → Nat → Int32} {laz : Nat → Nat → Int64} {v0 : Nat} {v1 : Nat} {v2 : Int32} {v3 : Int32} (hv0 : v0 < 4) (hv1 : v1 < 3) (h : p_X3_pushDifferences v0 v1 v2 v3 rc rv rb la = some (rcz, rvz, rbz, laz)) : Met l yX3_pushDifferences (.code yX3_pushDifferences cX3_pushDifferences 7 none :: gU) rm_X3_pushDifferences (gP E (xws E xk xo xc xt xn xl rc rv rb la wch wcc wpl wun srow ssp sen str stp swd rwp rdr rpd rpv rpc rzp) [.ref (ea E (24 + 2 * v0)), .ref (ea E (32 + v1)), .int v2, .int v3]) (gQ E (xws E xk xo xc xt xn xl rcz rvz rbz laz wch wcc wpl wun srow ssp sen str stp swd rwp rdr rpd rpv rpc rzp) none) 0 0 E.2.2.1 := by
  refine met_of (y := yX3_pushDifferences) (own := RX3) (lo := [some (.ref (ea E (24 + 2 * v0))), some (.ref (ea E (32 + v1))), some (.int v2), some (.int v3), none, none, none]) (by decide) rfl rfl rfl (fun κ hl hC => ?_)
  subst hl
  unfold p_X3_pushDifferences at h
  refine g_aload_n (pc' := 1) (i := 0) hC dX3_pushDifferences_0 rfl rfl rfl ?_
  refine g_ldc2_w (pc' := 4) (v := (lN 128)) hC u_11 dX3_pushDifferences_1 rfl ?_
  obtain ⟨rc_1, rv_2, rb_3, hc_4, h⟩ := bd3_some h
  refine g_callV (pc' := 7) hC (c_X3_pushVar _ hv0 hc_4) ml_X3_52 (rc_Row hv0) (by decide) rfl rfl rfl rfl dX3_pushDifferences_4 rfl ?_
  refine g_aload_n (pc' := 8) (i := 0) hC dX3_pushDifferences_7 rfl rfl rfl ?_
  refine g_ldc2_w (pc' := 11) (v := (lN 4)) hC u_12 dX3_pushDifferences_8 rfl ?_
  obtain ⟨rc_5, rv_6, rb_7, hc_8, h⟩ := bd3_some h
  refine g_callV (pc' := 14) hC (c_X3_pushVar _ hv0 hc_8) ml_X3_52 (rc_Row hv0) (by decide) rfl rfl rfl rfl dX3_pushDifferences_11 rfl ?_
  refine g_aload_n (pc' := 15) (i := 0) hC dX3_pushDifferences_14 rfl rfl rfl ?_
  refine g_iload_n (pc' := 16) (i := 2) hC dX3_pushDifferences_15 rfl rfl rfl ?_
  refine g_i2l (pc' := 17) hC dX3_pushDifferences_16 rfl ?_
  obtain ⟨rc_9, rv_10, rb_11, hc_12, h⟩ := bd3_some h
  refine g_callV (pc' := 20) hC (c_X3_pushVar _ hv0 hc_12) ml_X3_52 (rc_Row hv0) (by decide) rfl rfl rfl rfl dX3_pushDifferences_17 rfl ?_
  refine g_aload_n (pc' := 21) (i := 0) hC dX3_pushDifferences_20 rfl rfl rfl ?_
  refine g_iload_n (pc' := 22) (i := 2) hC dX3_pushDifferences_21 rfl rfl rfl ?_
  refine g_if_le (pc' := 25) (tgt := 36) hC dX3_pushDifferences_22 (by decide) rfl h (fun h => ?_) (fun h => ?_)
  · refine g_aload_n (pc' := 26) (i := 1) hC dX3_pushDifferences_25 rfl rfl rfl ?_
    refine al_la (pc' := 27) hC hv1 dX3_pushDifferences_26 rfl ?_
    refine g_if_le (pc' := 30) (tgt := 36) hC dX3_pushDifferences_27 (by decide) rfl h (fun h => ?_) (fun h => ?_)
    · refine g_aload_n (pc' := 31) (i := 1) hC dX3_pushDifferences_30 rfl rfl rfl ?_
      refine g_iconst (pc' := 32) (v := (nI 0)) hC dX3_pushDifferences_31 (by decide) rfl ?_
      obtain ⟨g_13, h⟩ := gd_some h
      refine ld_la (pc' := 33) hC hv1 g_13 dX3_pushDifferences_32 rfl ?_
      refine g_goto (tgt := 37) hC dX3_pushDifferences_33 (by decide) ?_
      exact w_X3_pushDifferences_J37 hC hv0 hv1 hv0  h
    · exact w_X3_pushDifferences_J36 hC hv0 hv1 hv0  h
  · exact w_X3_pushDifferences_J36 hC hv0 hv1 hv0  h
set_option maxRecDepth 200000 in
theorem w_X2_dataPage_J172 {κ : GK} {E : GE} {rcz : Nat → Int32} {rvz : Nat → Int32} {rbz : Nat → Nat → Int32} {laz : Nat → Nat → Int64} {wchz : Nat → Int32} {wccz : Int32} {v2 : Int32} {v3 : Int32} {v4 : Int32}  (hC : gC κ E cX2_dataPage RX2 none rm_X2_dataPage 5)   (h : p_X2_dataPage_J172 v2 v3 v4 rc rv rb la wch wcc = some (rcz, rvz, rbz, laz, wchz, wccz)) : GG κ E (xws E xk xo xc xt xn xl rcz rvz rbz laz wchz wccz wpl wun srow ssp sen str stp swd rwp rdr rpd rpv rpc rzp, none) (xws E xk xo xc xt xn xl rc rv rb la wch wcc wpl wun srow ssp sen str stp swd rwp rdr rpd rpv rpc rzp) 172 [some (.ref (ea E 37)), none, some (.int v2), some (.int v3), some (.int v4)] [] := by
  unfold p_X2_dataPage_J172 at h
  refine g_aload_n (pc' := 173) (i := 0) hC dX2_dataPage_172 rfl rfl rfl ?_
  refine g_iconst (pc' := 174) (v := (nI 0)) hC dX2_dataPage_173 (by decide) rfl ?_
  refine g_iload_n (pc' := 175) (i := 3) hC dX2_dataPage_174 rfl rfl rfl ?_
  refine g_iload_n (pc' := 176) (i := 2) hC dX2_dataPage_175 rfl rfl rfl ?_
  refine g_isub (pc' := 177) hC dX2_dataPage_176 rfl ?_
  refine g_iload (pc' := 179) (i := 4) hC dX2_dataPage_177 rfl rfl ?_
  obtain ⟨rc_13, rv_14, rb_15, hc_16, h⟩ := bd3_some h
  refine g_callV (pc' := 182) hC (c_X2_pushHead _ hc_16) ml_X2_75 (rc_Wr) (by decide) rfl rfl rfl rfl dX2_dataPage_179 rfl ?_
  refine g_aload_n (pc' := 183) (i := 0) hC dX2_dataPage_182 rfl rfl rfl ?_
  refine gf_X2_14 (pc' := 186) hC dX2_dataPage_183 rfl ?_
  refine g_aload_n (pc' := 187) (i := 0) hC dX2_dataPage_186 rfl rfl rfl ?_
  refine gf_X2_20 (pc' := 190) hC dX2_dataPage_187 rfl ?_
  obtain ⟨rc_17, rv_18, rb_19, hc_20, h⟩ := bd3_some h
  refine g_callV (pc' := 193) hC (c_X3_append _ (by decide) (by decide) hc_20) ml_X2_79 (rc_Row (by decide)) (by decide) rfl rfl rfl rfl dX2_dataPage_190 rfl ?_
  obtain ⟨rfl, rfl, rfl, rfl, rfl, rfl⟩ := inj6 h; exact g_vret hC dX2_dataPage_193
set_option maxRecDepth 200000 in
theorem w_X2_dataPage_J117 {κ : GK} {E : GE} {rcz : Nat → Int32} {rvz : Nat → Int32} {rbz : Nat → Nat → Int32} {laz : Nat → Nat → Int64} {wchz : Nat → Int32} {wccz : Int32} {v2 : Int32} {v3 : Int32} {v4 : Int32} {s2 : Int32} {s3 : Int32}  (hC : gC κ E cX2_dataPage RX2 none rm_X2_dataPage 5)   (h : p_X2_dataPage_J117 v2 v3 v4 s2 s3 rc rv rb la wch wcc = some (rcz, rvz, rbz, laz, wchz, wccz)) : GG κ E (xws E xk xo xc xt xn xl rcz rvz rbz laz wchz wccz wpl wun srow ssp sen str stp swd rwp rdr rpd rpv rpc rzp, none) (xws E xk xo xc xt xn xl rc rv rb la wch wcc wpl wun srow ssp sen str stp swd rwp rdr rpd rpv rpc rzp) 117 [some (.ref (ea E 37)), none, some (.int v2), some (.int v3), some (.int v4)] [.int s3, .int s2, .ref (ea E (32 + 0)), .ref (ea E (24 + 2 * 3))] := by
  unfold p_X2_dataPage_J117 at h
  obtain ⟨rc_49, rv_50, rb_51, la_52, hc_53, h⟩ := bd4_some h
  refine g_callV (pc' := 120) hC (c_X3_pushDifferences _ (by decide) (by decide) hc_53) ml_X2_103 (rc_Row (by decide)) (by decide) rfl rfl rfl rfl dX2_dataPage_117 rfl ?_
  refine g_goto (tgt := 172) hC dX2_dataPage_120 (by decide) ?_
  exact w_X2_dataPage_J172 hC   h
set_option maxRecDepth 200000 in
theorem w_X2_dataPage_J28 {κ : GK} {E : GE} {rcz : Nat → Int32} {rvz : Nat → Int32} {rbz : Nat → Nat → Int32} {laz : Nat → Nat → Int64} {wchz : Nat → Int32} {wccz : Int32} {v1 : Nat} {v2 : Int32} {v3 : Int32} {v4 : Int32}  (hC : gC κ E cX2_dataPage RX2 none rm_X2_dataPage 5) (hv1 : v1 < 6)  (h : p_X2_dataPage_J28 v1 v2 v3 v4 xk xt xn xl rc rv rb la wch wcc wpl wun = some (rcz, rvz, rbz, laz, wchz, wccz)) : GG κ E (xws E xk xo xc xt xn xl rcz rvz rbz laz wchz wccz wpl wun srow ssp sen str stp swd rwp rdr rpd rpv rpc rzp, none) (xws E xk xo xc xt xn xl rc rv rb la wch wcc wpl wun srow ssp sen str stp swd rwp rdr rpd rpv rpc rzp) 28 [some (.ref (ea E 37)), some (.ref (ea E (4 * v1))), some (.int v2), some (.int v3), some (.int v4)] [] := by
  unfold p_X2_dataPage_J28 at h
  refine g_aload_n (pc' := 29) (i := 0) hC dX2_dataPage_28 rfl rfl rfl ?_
  refine g_aload_n (pc' := 30) (i := 1) hC dX2_dataPage_29 rfl rfl rfl ?_
  refine g_iload_n (pc' := 31) (i := 2) hC dX2_dataPage_30 rfl rfl rfl ?_
  refine g_iload_n (pc' := 32) (i := 3) hC dX2_dataPage_31 rfl rfl rfl ?_
  obtain ⟨wch_4, wcc_5, hc_6, h⟩ := bd2_some h
  refine g_callV (pc' := 35) hC (c_X2_chooseThere _ hv1 hc_6) ml_X2_94 (rc_Wr) (by decide) rfl rfl rfl rfl dX2_dataPage_32 rfl ?_
  refine g_iload (pc' := 37) (i := 4) hC dX2_dataPage_35 rfl rfl ?_
  refine g_case h (fun c_7 h => ?_) (fun c_7 h => ?_)
  · refine g_tswIn hC (tgt := 80) dX2_dataPage_37 (by rw [c_7]; decide) (by rw [c_7]; decide) (by rw [c_7]; rfl) (by decide) ?_
    refine g_aload_n (pc' := 81) (i := 0) hC dX2_dataPage_80 rfl rfl rfl ?_
    refine g_aload_n (pc' := 82) (i := 1) hC dX2_dataPage_81 rfl rfl rfl ?_
    obtain ⟨rc_8, rv_9, rb_10, la_11, hc_12, h⟩ := bd4_some h
    refine g_callV (pc' := 85) hC (c_X2_pushPlain _ hv1 hc_12) ml_X2_69 (rc_Wr) (by decide) rfl rfl rfl rfl dX2_dataPage_82 rfl ?_
    refine g_goto (tgt := 172) hC dX2_dataPage_85 (by decide) ?_
    refine g_weak (lo' := [some (.ref (ea E 37)), none, some (.int v2), some (.int v3), some (.int v4)]) rfl ?_
    exact w_X2_dataPage_J172 hC   h
  · skip
    refine g_case h (fun c_21 h => ?_) (fun c_21 h => ?_)
    · refine g_tswIn hC (tgt := 168) dX2_dataPage_37 (by rw [c_21]; decide) (by rw [c_21]; decide) (by rw [c_21]; rfl) (by decide) ?_
      refine g_aload_n (pc' := 169) (i := 0) hC dX2_dataPage_168 rfl rfl rfl ?_
      obtain ⟨rc_22, rv_23, rb_24, la_25, hc_26, h⟩ := bd4_some h
      refine g_callV (pc' := 172) hC (c_X2_pushPlaces _ hc_26) ml_X2_110 (rc_Wr) (by decide) rfl rfl rfl rfl dX2_dataPage_169 rfl ?_
      refine g_weak (lo' := [some (.ref (ea E 37)), none, some (.int v2), some (.int v3), some (.int v4)]) rfl ?_
      exact w_X2_dataPage_J172 hC   h
    · skip
      refine g_case h (fun c_27 h => ?_) (fun c_27 h => ?_)
      · refine g_tswIn hC (tgt := 168) dX2_dataPage_37 (by rw [c_27]; decide) (by rw [c_27]; decide) (by rw [c_27]; rfl) (by decide) ?_
        refine g_aload_n (pc' := 169) (i := 0) hC dX2_dataPage_168 rfl rfl rfl ?_
        obtain ⟨rc_28, rv_29, rb_30, la_31, hc_32, h⟩ := bd4_some h
        refine g_callV (pc' := 172) hC (c_X2_pushPlaces _ hc_32) ml_X2_110 (rc_Wr) (by decide) rfl rfl rfl rfl dX2_dataPage_169 rfl ?_
        refine g_weak (lo' := [some (.ref (ea E 37)), none, some (.int v2), some (.int v3), some (.int v4)]) rfl ?_
        exact w_X2_dataPage_J172 hC   h
      · skip
        refine g_case h (fun c_33 h => ?_) (fun c_33 h => ?_)
        · refine g_tswIn hC (tgt := 152) dX2_dataPage_37 (by rw [c_33]; decide) (by rw [c_33]; decide) (by rw [c_33]; rfl) (by decide) ?_
          refine g_aload_n (pc' := 153) (i := 0) hC dX2_dataPage_152 rfl rfl rfl ?_
          refine g_aload_n (pc' := 154) (i := 1) hC dX2_dataPage_153 rfl rfl rfl ?_
          obtain ⟨la_34, hc_35, h⟩ := bd1_some h
          refine g_callV (pc' := 157) hC (c_X2_gatherNumbers _ hv1 hc_35) ml_X2_97 (rc_Wr) (by decide) rfl rfl rfl rfl dX2_dataPage_154 rfl ?_
          refine g_aload_n (pc' := 158) (i := 0) hC dX2_dataPage_157 rfl rfl rfl ?_
          refine g_aload_n (pc' := 159) (i := 0) hC dX2_dataPage_158 rfl rfl rfl ?_
          refine gf_X2_100 (pc' := 162) hC dX2_dataPage_159 rfl ?_
          obtain ⟨rc_36, rv_37, rb_38, hc_39, h⟩ := bd3_some h
          refine g_callV (pc' := 165) hC (c_X2_pushOwnRuns _ hc_39) ml_X2_91 (rc_Wr) (by decide) rfl rfl rfl rfl dX2_dataPage_162 rfl ?_
          refine g_goto (tgt := 172) hC dX2_dataPage_165 (by decide) ?_
          refine g_weak (lo' := [some (.ref (ea E 37)), none, some (.int v2), some (.int v3), some (.int v4)]) rfl ?_
          exact w_X2_dataPage_J172 hC   h
        · skip
          refine g_case h (fun c_40 h => ?_) (fun c_40 h => ?_)
          · refine g_tswIn hC (tgt := 168) dX2_dataPage_37 (by rw [c_40]; decide) (by rw [c_40]; decide) (by rw [c_40]; rfl) (by decide) ?_
            refine g_aload_n (pc' := 169) (i := 0) hC dX2_dataPage_168 rfl rfl rfl ?_
            obtain ⟨rc_41, rv_42, rb_43, la_44, hc_45, h⟩ := bd4_some h
            refine g_callV (pc' := 172) hC (c_X2_pushPlaces _ hc_45) ml_X2_110 (rc_Wr) (by decide) rfl rfl rfl rfl dX2_dataPage_169 rfl ?_
            refine g_weak (lo' := [some (.ref (ea E 37)), none, some (.int v2), some (.int v3), some (.int v4)]) rfl ?_
            exact w_X2_dataPage_J172 hC   h
          · skip
            refine g_case h (fun c_46 h => ?_) (fun c_46 h => ?_)
            · refine g_tswIn hC (tgt := 88) dX2_dataPage_37 (by rw [c_46]; decide) (by rw [c_46]; decide) (by rw [c_46]; rfl) (by decide) ?_
              refine g_aload_n (pc' := 89) (i := 0) hC dX2_dataPage_88 rfl rfl rfl ?_
              refine g_aload_n (pc' := 90) (i := 1) hC dX2_dataPage_89 rfl rfl rfl ?_
              obtain ⟨la_47, hc_48, h⟩ := bd1_some h
              refine g_callV (pc' := 93) hC (c_X2_gatherNumbers _ hv1 hc_48) ml_X2_97 (rc_Wr) (by decide) rfl rfl rfl rfl dX2_dataPage_90 rfl ?_
              refine g_aload_n (pc' := 94) (i := 0) hC dX2_dataPage_93 rfl rfl rfl ?_
              refine gf_X2_20 (pc' := 97) hC dX2_dataPage_94 rfl ?_
              refine g_aload_n (pc' := 98) (i := 0) hC dX2_dataPage_97 rfl rfl rfl ?_
              refine gf_X2_30 (pc' := 101) hC dX2_dataPage_98 rfl ?_
              refine g_aload_n (pc' := 102) (i := 0) hC dX2_dataPage_101 rfl rfl rfl ?_
              refine gf_X2_100 (pc' := 105) hC dX2_dataPage_102 rfl ?_
              refine g_aload_n (pc' := 106) (i := 1) hC dX2_dataPage_105 rfl rfl rfl ?_
              refine gf_X2_56 (pc' := 109) hC hv1 dX2_dataPage_106 rfl ?_
              refine g_if_ne (pc' := 112) (tgt := 116) hC dX2_dataPage_109 (by decide) rfl h (fun h => ?_) (fun h => ?_)
              · refine g_iconst (pc' := 113) (v := (nI 1)) hC dX2_dataPage_112 (by decide) rfl ?_
                refine g_goto (tgt := 117) hC dX2_dataPage_113 (by decide) ?_
                refine g_weak (lo' := [some (.ref (ea E 37)), none, some (.int v2), some (.int v3), some (.int v4)]) rfl ?_
                exact w_X2_dataPage_J117 hC   h
              · refine g_iconst (pc' := 117) (v := (nI 0)) hC dX2_dataPage_116 (by decide) rfl ?_
                refine g_weak (lo' := [some (.ref (ea E 37)), none, some (.int v2), some (.int v3), some (.int v4)]) rfl ?_
                exact w_X2_dataPage_J117 hC   h
            · skip
              refine g_case h (fun c_54 h => ?_) (fun c_54 h => ?_)
              · refine g_tswIn hC (tgt := 123) dX2_dataPage_37 (by rw [c_54]; decide) (by rw [c_54]; decide) (by rw [c_54]; rfl) (by decide) ?_
                refine g_aload_n (pc' := 124) (i := 0) hC dX2_dataPage_123 rfl rfl rfl ?_
                refine g_aload_n (pc' := 125) (i := 1) hC dX2_dataPage_124 rfl rfl rfl ?_
                obtain ⟨la_55, hc_56, h⟩ := bd1_some h
                refine g_callV (pc' := 128) hC (c_X2_gatherNumbers _ hv1 hc_56) ml_X2_97 (rc_Wr) (by decide) rfl rfl rfl rfl dX2_dataPage_125 rfl ?_
                refine g_aload_n (pc' := 129) (i := 0) hC dX2_dataPage_128 rfl rfl rfl ?_
                refine gf_X2_20 (pc' := 132) hC dX2_dataPage_129 rfl ?_
                refine g_aload_n (pc' := 133) (i := 0) hC dX2_dataPage_132 rfl rfl rfl ?_
                refine gf_X2_30 (pc' := 136) hC dX2_dataPage_133 rfl ?_
                refine g_aload_n (pc' := 137) (i := 0) hC dX2_dataPage_136 rfl rfl rfl ?_
                refine gf_X2_100 (pc' := 140) hC dX2_dataPage_137 rfl ?_
                refine g_iconst (pc' := 141) (v := (nI 1)) hC dX2_dataPage_140 (by decide) rfl ?_
                obtain ⟨rc_57, rv_58, rb_59, la_60, hc_61, h⟩ := bd4_some h
                refine g_callV (pc' := 144) hC (c_X3_pushDifferences _ (by decide) (by decide) hc_61) ml_X2_103 (rc_Row (by decide)) (by decide) rfl rfl rfl rfl dX2_dataPage_141 rfl ?_
                refine g_aload_n (pc' := 145) (i := 0) hC dX2_dataPage_144 rfl rfl rfl ?_
                refine g_aload_n (pc' := 146) (i := 1) hC dX2_dataPage_145 rfl rfl rfl ?_
                obtain ⟨rc_62, rv_63, rb_64, hc_65, h⟩ := bd3_some h
                refine g_callV (pc' := 149) hC (c_X2_pushAllLetters _ hv1 hc_65) ml_X2_107 (rc_Wr) (by decide) rfl rfl rfl rfl dX2_dataPage_146 rfl ?_
                refine g_goto (tgt := 172) hC dX2_dataPage_149 (by decide) ?_
                refine g_weak (lo' := [some (.ref (ea E 37)), none, some (.int v2), some (.int v3), some (.int v4)]) rfl ?_
                exact w_X2_dataPage_J172 hC   h
              · skip
                refine g_tswOut hC (tgt := 168) dX2_dataPage_37 (tsw_out6 c_7 c_21 c_27 c_33 c_40 c_46 c_54) (by decide) ?_
                refine g_aload_n (pc' := 169) (i := 0) hC dX2_dataPage_168 rfl rfl rfl ?_
                obtain ⟨rc_66, rv_67, rb_68, la_69, hc_70, h⟩ := bd4_some h
                refine g_callV (pc' := 172) hC (c_X2_pushPlaces _ hc_70) ml_X2_110 (rc_Wr) (by decide) rfl rfl rfl rfl dX2_dataPage_169 rfl ?_
                refine g_weak (lo' := [some (.ref (ea E 37)), none, some (.int v2), some (.int v3), some (.int v4)]) rfl ?_
                exact w_X2_dataPage_J172 hC   h
set_option maxRecDepth 200000 in
theorem c_X2_dataPage (l : Launch) {E : GE} {rcz : Nat → Int32} {rvz : Nat → Int32} {rbz : Nat → Nat → Int32} {laz : Nat → Nat → Int64} {wchz : Nat → Int32} {wccz : Int32} {v1 : Nat} {v2 : Int32} {v3 : Int32} {v4 : Int32} (hv1 : v1 < 6) (h : p_X2_dataPage v1 v2 v3 v4 xk xo xt xn xl rc rv rb la wch wcc wpl wun = some (rcz, rvz, rbz, laz, wchz, wccz)) : Met l yX2_dataPage (.code yX2_dataPage cX2_dataPage 5 none :: gU) rm_X2_dataPage (gP E (xws E xk xo xc xt xn xl rc rv rb la wch wcc wpl wun srow ssp sen str stp swd rwp rdr rpd rpv rpc rzp) [.ref (ea E 37), .ref (ea E (4 * v1)), .int v2, .int v3, .int v4]) (gQ E (xws E xk xo xc xt xn xl rcz rvz rbz laz wchz wccz wpl wun srow ssp sen str stp swd rwp rdr rpd rpv rpc rzp) none) 0 0 E.2.2.1 := by
  refine met_of (y := yX2_dataPage) (own := RX2) (lo := [some (.ref (ea E 37)), some (.ref (ea E (4 * v1))), some (.int v2), some (.int v3), some (.int v4)]) (by decide) rfl rfl rfl (fun κ hl hC => ?_)
  subst hl
  unfold p_X2_dataPage at h
  refine g_aload_n (pc' := 1) (i := 0) hC dX2_dataPage_0 rfl rfl rfl ?_
  refine gf_X2_20 (pc' := 4) hC dX2_dataPage_1 rfl ?_
  obtain ⟨rc_1, rv_2, hc_3, h⟩ := bd2_some h
  refine g_callV (pc' := 7) hC (c_X3_clear _ (by decide) hc_3) ml_X2_34 (rc_Row (by decide)) (by decide) rfl rfl rfl rfl dX2_dataPage_4 rfl ?_
  refine g_aload_n (pc' := 8) (i := 1) hC dX2_dataPage_7 rfl rfl rfl ?_
  refine gf_X2_83 (pc' := 11) hC hv1 dX2_dataPage_8 rfl ?_
  refine g_if_eq (pc' := 14) (tgt := 28) hC dX2_dataPage_11 (by decide) rfl h (fun h => ?_) (fun h => ?_)
  · exact w_X2_dataPage_J28 hC hv1  h
  · refine g_aload_n (pc' := 15) (i := 0) hC dX2_dataPage_14 rfl rfl rfl ?_
    refine g_aload_n (pc' := 16) (i := 1) hC dX2_dataPage_15 rfl rfl rfl ?_
    refine g_iload_n (pc' := 17) (i := 2) hC dX2_dataPage_16 rfl rfl rfl ?_
    refine g_iload_n (pc' := 18) (i := 3) hC dX2_dataPage_17 rfl rfl rfl ?_
    obtain ⟨la_71, hc_72, h⟩ := bd1_some h
    refine g_callV (pc' := 21) hC (c_X2_gatherLevels _ hv1 hc_72) ml_X2_87 (rc_Wr) (by decide) rfl rfl rfl rfl dX2_dataPage_18 rfl ?_
    refine g_aload_n (pc' := 22) (i := 0) hC dX2_dataPage_21 rfl rfl rfl ?_
    refine g_iload_n (pc' := 23) (i := 3) hC dX2_dataPage_22 rfl rfl rfl ?_
    refine g_iload_n (pc' := 24) (i := 2) hC dX2_dataPage_23 rfl rfl rfl ?_
    refine g_isub (pc' := 25) hC dX2_dataPage_24 rfl ?_
    obtain ⟨rc_73, rv_74, rb_75, hc_76, h⟩ := bd3_some h
    refine g_callV (pc' := 28) hC (c_X2_pushOwnRuns _ hc_76) ml_X2_91 (rc_Wr) (by decide) rfl rfl rfl rfl dX2_dataPage_25 rfl ?_
    exact w_X2_dataPage_J28 hC hv1  h
set_option maxRecDepth 200000 in
theorem w_X2_chooseUnlike_J73 {κ : GK} {E : GE} {wchz : Nat → Int32} {wccz : Int32} {wplz : Nat → Int32} {wunz : Int32} {v1 : Nat} {v2 : Int32} {v3 : Int32} {k7 : Int32 → (Nat → Int32) → Int32 → (Nat → Int32) → Option ((Nat → Int32) × Int32 × (Nat → Int32) × Int32)} (hC : gC κ E cX2_chooseUnlike RX2 none rm_X2_chooseUnlike 4) (hv1 : v1 < 6) (hk7 : ∀ (v2 : Int32) (wch : Nat → Int32) (wcc : Int32) (wpl : Nat → Int32), k7 v2 wch wcc wpl = some (wchz, wccz, wplz, wunz) → GG κ E (xws E xk xo xc xt xn xl rc rv rb la wchz wccz wplz wunz srow ssp sen str stp swd rwp rdr rpd rpv rpc rzp, none) (xws E xk xo xc xt xn xl rc rv rb la wch wcc wpl wun srow ssp sen str stp swd rwp rdr rpd rpv rpc rzp) 7 [some (.ref (ea E 37)), some (.ref (ea E (4 * v1))), some (.int v2), none] []) (h : p_X2_chooseUnlike_J73 v2 v3 wch wcc wpl k7 = some (wchz, wccz, wplz, wunz)) : GG κ E (xws E xk xo xc xt xn xl rc rv rb la wchz wccz wplz wunz srow ssp sen str stp swd rwp rdr rpd rpv rpc rzp, none) (xws E xk xo xc xt xn xl rc rv rb la wch wcc wpl wun srow ssp sen str stp swd rwp rdr rpd rpv rpc rzp) 73 [some (.ref (ea E 37)), some (.ref (ea E (4 * v1))), some (.int v2), some (.int v3)] [] := by
  unfold p_X2_chooseUnlike_J73 at h
  refine g_iload_n (pc' := 74) (i := 3) hC dX2_chooseUnlike_73 rfl rfl rfl ?_
  refine g_iload_n (pc' := 75) (i := 2) hC dX2_chooseUnlike_74 rfl rfl rfl ?_
  refine g_icmp_ne (pc' := 78) (tgt := 127) hC dX2_chooseUnlike_75 (by decide) rfl h (fun h => ?_) (fun h => ?_)
  · refine g_aload_n (pc' := 79) (i := 0) hC dX2_chooseUnlike_78 rfl rfl rfl ?_
    refine gf_X2_100 (pc' := 82) hC dX2_chooseUnlike_79 rfl ?_
    refine g_if_lt (pc' := 85) (tgt := 127) hC dX2_chooseUnlike_82 (by decide) rfl h (fun h => ?_) (fun h => ?_)
    · refine g_iinc (pc' := 130) (i := 2) (x := v2) (k := (nI 1)) (lo' := [some (.ref (ea E 37)), some (.ref (ea E (4 * v1))), some (.int (v2 + (nI 1))), some (.int v3)]) hC dX2_chooseUnlike_127 rfl (by decide) rfl rfl rfl rfl ?_
      refine g_goto (tgt := 7) hC dX2_chooseUnlike_130 (by decide) ?_
      refine g_weak (lo' := [some (.ref (ea E 37)), some (.ref (ea E (4 * v1))), some (.int (v2 + (nI 1))), none]) rfl ?_
      exact hk7 _ _ _ _ h
    · refine g_aload_n (pc' := 86) (i := 0) hC dX2_chooseUnlike_85 rfl rfl rfl ?_
      refine gf_X2_100 (pc' := 89) hC dX2_chooseUnlike_86 rfl ?_
      refine g_aload_n (pc' := 90) (i := 0) hC dX2_chooseUnlike_89 rfl rfl rfl ?_
      refine gf_X2_23 (pc' := 93) hC dX2_chooseUnlike_90 rfl ?_
      refine al_wch (pc' := 94) hC dX2_chooseUnlike_93 rfl ?_
      refine g_icmp_ge (pc' := 97) (tgt := 127) hC dX2_chooseUnlike_94 (by decide) rfl h (fun h => ?_) (fun h => ?_)
      · refine g_aload_n (pc' := 98) (i := 0) hC dX2_chooseUnlike_97 rfl rfl rfl ?_
        refine gf_X2_23 (pc' := 101) hC dX2_chooseUnlike_98 rfl ?_
        refine g_aload_n (pc' := 102) (i := 0) hC dX2_chooseUnlike_101 rfl rfl rfl ?_
        refine gf_X2_100 (pc' := 105) hC dX2_chooseUnlike_102 rfl ?_
        refine g_iload_n (pc' := 106) (i := 2) hC dX2_chooseUnlike_105 rfl rfl rfl ?_
        obtain ⟨g_4, h⟩ := gd_some h
        refine st_wch (pc' := 107) hC g_4 dX2_chooseUnlike_106 rfl ?_
        refine g_aload_n (pc' := 108) (i := 0) hC dX2_chooseUnlike_107 rfl rfl rfl ?_
        refine gf_X2_27 (pc' := 111) hC dX2_chooseUnlike_108 rfl ?_
        refine g_iload_n (pc' := 112) (i := 2) hC dX2_chooseUnlike_111 rfl rfl rfl ?_
        refine g_aload_n (pc' := 113) (i := 0) hC dX2_chooseUnlike_112 rfl rfl rfl ?_
        refine gf_X2_100 (pc' := 116) hC dX2_chooseUnlike_113 rfl ?_
        obtain ⟨g_5, h⟩ := gd_some h
        refine st_wpl (pc' := 117) hC g_5 dX2_chooseUnlike_116 rfl ?_
        refine g_aload_n (pc' := 118) (i := 0) hC dX2_chooseUnlike_117 rfl rfl rfl ?_
        refine g_dup (pc' := 119) hC dX2_chooseUnlike_118 rfl rfl ?_
        refine gf_X2_100 (pc' := 122) hC dX2_chooseUnlike_119 rfl ?_
        refine g_iconst (pc' := 123) (v := (nI 1)) hC dX2_chooseUnlike_122 (by decide) rfl ?_
        refine g_iadd (pc' := 124) hC dX2_chooseUnlike_123 rfl ?_
        refine pf_X2_100 (pc' := 127) hC dX2_chooseUnlike_124 rfl ?_
        refine g_iinc (pc' := 130) (i := 2) (x := v2) (k := (nI 1)) (lo' := [some (.ref (ea E 37)), some (.ref (ea E (4 * v1))), some (.int (v2 + (nI 1))), some (.int v3)]) hC dX2_chooseUnlike_127 rfl (by decide) rfl rfl rfl rfl ?_
        refine g_goto (tgt := 7) hC dX2_chooseUnlike_130 (by decide) ?_
        refine g_weak (lo' := [some (.ref (ea E 37)), some (.ref (ea E (4 * v1))), some (.int (v2 + (nI 1))), none]) rfl ?_
        exact hk7 _ _ _ _ h
      · refine g_iinc (pc' := 130) (i := 2) (x := v2) (k := (nI 1)) (lo' := [some (.ref (ea E 37)), some (.ref (ea E (4 * v1))), some (.int (v2 + (nI 1))), some (.int v3)]) hC dX2_chooseUnlike_127 rfl (by decide) rfl rfl rfl rfl ?_
        refine g_goto (tgt := 7) hC dX2_chooseUnlike_130 (by decide) ?_
        refine g_weak (lo' := [some (.ref (ea E 37)), some (.ref (ea E (4 * v1))), some (.int (v2 + (nI 1))), none]) rfl ?_
        exact hk7 _ _ _ _ h
  · refine g_iinc (pc' := 130) (i := 2) (x := v2) (k := (nI 1)) (lo' := [some (.ref (ea E 37)), some (.ref (ea E (4 * v1))), some (.int (v2 + (nI 1))), some (.int v3)]) hC dX2_chooseUnlike_127 rfl (by decide) rfl rfl rfl rfl ?_
    refine g_goto (tgt := 7) hC dX2_chooseUnlike_130 (by decide) ?_
    refine g_weak (lo' := [some (.ref (ea E 37)), some (.ref (ea E (4 * v1))), some (.int (v2 + (nI 1))), none]) rfl ?_
    exact hk7 _ _ _ _ h
set_option maxRecDepth 200000 in
theorem w_X2_chooseUnlike_J48 {κ : GK} {E : GE} {wchz : Nat → Int32} {wccz : Int32} {wplz : Nat → Int32} {wunz : Int32} {v1 : Nat} {v2 : Int32} {s0 : Int32} {k7 : Int32 → (Nat → Int32) → Int32 → (Nat → Int32) → Option ((Nat → Int32) × Int32 × (Nat → Int32) × Int32)} (hC : gC κ E cX2_chooseUnlike RX2 none rm_X2_chooseUnlike 4) (hv1 : v1 < 6) (hk7 : ∀ (v2 : Int32) (wch : Nat → Int32) (wcc : Int32) (wpl : Nat → Int32), k7 v2 wch wcc wpl = some (wchz, wccz, wplz, wunz) → GG κ E (xws E xk xo xc xt xn xl rc rv rb la wchz wccz wplz wunz srow ssp sen str stp swd rwp rdr rpd rpv rpc rzp, none) (xws E xk xo xc xt xn xl rc rv rb la wch wcc wpl wun srow ssp sen str stp swd rwp rdr rpd rpv rpc rzp) 7 [some (.ref (ea E 37)), some (.ref (ea E (4 * v1))), some (.int v2), none] []) (h : p_X2_chooseUnlike_J48 v2 s0 wch wcc wpl k7 = some (wchz, wccz, wplz, wunz)) : GG κ E (xws E xk xo xc xt xn xl rc rv rb la wchz wccz wplz wunz srow ssp sen str stp swd rwp rdr rpd rpv rpc rzp, none) (xws E xk xo xc xt xn xl rc rv rb la wch wcc wpl wun srow ssp sen str stp swd rwp rdr rpd rpv rpc rzp) 48 [some (.ref (ea E 37)), some (.ref (ea E (4 * v1))), some (.int v2), none] [.int s0] := by
  unfold p_X2_chooseUnlike_J48 at h
  refine g_istore_n (pc' := 49) (i := 3) (lo' := [some (.ref (ea E 37)), some (.ref (ea E (4 * v1))), some (.int v2), some (.int s0)]) hC dX2_chooseUnlike_48 rfl rfl rfl rfl rfl ?_
  refine g_iload_n (pc' := 50) (i := 3) hC dX2_chooseUnlike_49 rfl rfl rfl ?_
  refine g_if_lt (pc' := 53) (tgt := 73) hC dX2_chooseUnlike_50 (by decide) rfl h (fun h => ?_) (fun h => ?_)
  · exact w_X2_chooseUnlike_J73 hC hv1 hk7 h
  · refine g_iload_n (pc' := 54) (i := 3) hC dX2_chooseUnlike_53 rfl rfl rfl ?_
    refine g_iload_n (pc' := 55) (i := 2) hC dX2_chooseUnlike_54 rfl rfl rfl ?_
    refine g_icmp_ge (pc' := 58) (tgt := 73) hC dX2_chooseUnlike_55 (by decide) rfl h (fun h => ?_) (fun h => ?_)
    · refine g_aload_n (pc' := 59) (i := 0) hC dX2_chooseUnlike_58 rfl rfl rfl ?_
      refine gf_X2_27 (pc' := 62) hC dX2_chooseUnlike_59 rfl ?_
      refine g_iload_n (pc' := 63) (i := 2) hC dX2_chooseUnlike_62 rfl rfl rfl ?_
      refine g_aload_n (pc' := 64) (i := 0) hC dX2_chooseUnlike_63 rfl rfl rfl ?_
      refine gf_X2_27 (pc' := 67) hC dX2_chooseUnlike_64 rfl ?_
      refine g_iload_n (pc' := 68) (i := 3) hC dX2_chooseUnlike_67 rfl rfl rfl ?_
      obtain ⟨g_6, h⟩ := gd_some h
      refine ld_wpl (pc' := 69) hC g_6 dX2_chooseUnlike_68 rfl ?_
      obtain ⟨g_7, h⟩ := gd_some h
      refine st_wpl (pc' := 70) hC g_7 dX2_chooseUnlike_69 rfl ?_
      refine g_goto (tgt := 127) hC dX2_chooseUnlike_70 (by decide) ?_
      refine g_iinc (pc' := 130) (i := 2) (x := v2) (k := (nI 1)) (lo' := [some (.ref (ea E 37)), some (.ref (ea E (4 * v1))), some (.int (v2 + (nI 1))), some (.int s0)]) hC dX2_chooseUnlike_127 rfl (by decide) rfl rfl rfl rfl ?_
      refine g_goto (tgt := 7) hC dX2_chooseUnlike_130 (by decide) ?_
      refine g_weak (lo' := [some (.ref (ea E 37)), some (.ref (ea E (4 * v1))), some (.int (v2 + (nI 1))), none]) rfl ?_
      exact hk7 _ _ _ _ h
    · exact w_X2_chooseUnlike_J73 hC hv1 hk7 h
set_option maxRecDepth 200000 in
theorem w_X2_chooseUnlike_L7 {κ : GK} {E : GE} {wchz : Nat → Int32} {wccz : Int32} {wplz : Nat → Int32} {wunz : Int32} {v1 : Nat}  (hC : gC κ E cX2_chooseUnlike RX2 none rm_X2_chooseUnlike 4) (hv1 : v1 < 6)  : ∀ (n : Nat) (v2 : Int32) (wch : Nat → Int32) (wcc : Int32) (wpl : Nat → Int32), itr4 (p_X2_chooseUnlike_L7 v1 xk xc xt xn xl) n v2 wch wcc wpl = some (wchz, wccz, wplz, wunz) → GG κ E (xws E xk xo xc xt xn xl rc rv rb la wchz wccz wplz wunz srow ssp sen str stp swd rwp rdr rpd rpv rpc rzp, none) (xws E xk xo xc xt xn xl rc rv rb la wch wcc wpl wun srow ssp sen str stp swd rwp rdr rpd rpv rpc rzp) 7 [some (.ref (ea E 37)), some (.ref (ea E (4 * v1))), some (.int v2), none] [] :=
  itr4_ind (fun k7 hk7 v2 wch wcc wpl h => by
    unfold p_X2_chooseUnlike_L7 at h
    refine g_iload_n (pc' := 8) (i := 2) hC dX2_chooseUnlike_7 rfl rfl rfl ?_
    refine g_aload_n (pc' := 9) (i := 1) hC dX2_chooseUnlike_8 rfl rfl rfl ?_
    refine gf_X2_37 (pc' := 12) hC hv1 dX2_chooseUnlike_9 rfl ?_
    refine g_icmp_ge (pc' := 15) (tgt := 133) hC dX2_chooseUnlike_12 (by decide) rfl h (fun h => ?_) (fun h => ?_)
    · refine g_iload_n (pc' := 16) (i := 2) hC dX2_chooseUnlike_15 rfl rfl rfl ?_
      refine g_aload_n (pc' := 17) (i := 0) hC dX2_chooseUnlike_16 rfl rfl rfl ?_
      refine gf_X2_27 (pc' := 20) hC dX2_chooseUnlike_17 rfl ?_
      refine al_wpl (pc' := 21) hC dX2_chooseUnlike_20 rfl ?_
      refine g_icmp_ge (pc' := 24) (tgt := 133) hC dX2_chooseUnlike_21 (by decide) rfl h (fun h => ?_) (fun h => ?_)
      · refine g_aload_n (pc' := 25) (i := 0) hC dX2_chooseUnlike_24 rfl rfl rfl ?_
        refine gf_X2_27 (pc' := 28) hC dX2_chooseUnlike_25 rfl ?_
        refine g_iload_n (pc' := 29) (i := 2) hC dX2_chooseUnlike_28 rfl rfl rfl ?_
        refine g_iconst (pc' := 30) (v := (nI 0)) hC dX2_chooseUnlike_29 (by decide) rfl ?_
        obtain ⟨g_1, h⟩ := gd_some h
        refine st_wpl (pc' := 31) hC g_1 dX2_chooseUnlike_30 rfl ?_
        refine g_aload_n (pc' := 32) (i := 1) hC dX2_chooseUnlike_31 rfl rfl rfl ?_
        refine g_iload_n (pc' := 33) (i := 2) hC dX2_chooseUnlike_32 rfl rfl rfl ?_
        obtain ⟨a_2, hc_3, h⟩ := bd1_some h
        refine g_callV (pc' := 36) hC (c_X0_isThere _ hv1 hc_3) ml_X2_125 (rc_Col hv1) (by decide) rfl rfl rfl rfl dX2_chooseUnlike_33 rfl ?_
        refine g_if_eq (pc' := 39) (tgt := 47) hC dX2_chooseUnlike_36 (by decide) rfl h (fun h => ?_) (fun h => ?_)
        · refine g_iconst (pc' := 48) (v := (-1 : Int32)) hC dX2_chooseUnlike_47 (by decide) rfl ?_
          exact w_X2_chooseUnlike_J48 hC hv1 hk7 h
        · refine g_aload_n (pc' := 40) (i := 1) hC dX2_chooseUnlike_39 rfl rfl rfl ?_
          refine g_iload_n (pc' := 41) (i := 2) hC dX2_chooseUnlike_40 rfl rfl rfl ?_
          obtain ⟨a_8, hc_9, h⟩ := bd1_some h
          refine g_callV (pc' := 44) hC (c_X0_firstLike _ hv1 hc_9) ml_X2_129 (rc_Col hv1) (by decide) rfl rfl rfl rfl dX2_chooseUnlike_41 rfl ?_
          refine g_goto (tgt := 48) hC dX2_chooseUnlike_44 (by decide) ?_
          exact w_X2_chooseUnlike_J48 hC hv1 hk7 h
      · refine g_aload_n (pc' := 134) (i := 0) hC dX2_chooseUnlike_133 rfl rfl rfl ?_
        refine g_aload_n (pc' := 135) (i := 0) hC dX2_chooseUnlike_134 rfl rfl rfl ?_
        refine gf_X2_100 (pc' := 138) hC dX2_chooseUnlike_135 rfl ?_
        refine pf_X2_72 (pc' := 141) hC dX2_chooseUnlike_138 rfl ?_
        obtain ⟨rfl, rfl, rfl, rfl⟩ := inj4 h; exact g_vret hC dX2_chooseUnlike_141
    · refine g_aload_n (pc' := 134) (i := 0) hC dX2_chooseUnlike_133 rfl rfl rfl ?_
      refine g_aload_n (pc' := 135) (i := 0) hC dX2_chooseUnlike_134 rfl rfl rfl ?_
      refine gf_X2_100 (pc' := 138) hC dX2_chooseUnlike_135 rfl ?_
      refine pf_X2_72 (pc' := 141) hC dX2_chooseUnlike_138 rfl ?_
      obtain ⟨rfl, rfl, rfl, rfl⟩ := inj4 h; exact g_vret hC dX2_chooseUnlike_141)
set_option maxRecDepth 200000 in
theorem c_X2_chooseUnlike (l : Launch) {E : GE} {wchz : Nat → Int32} {wccz : Int32} {wplz : Nat → Int32} {wunz : Int32} {v1 : Nat} (hv1 : v1 < 6) (h : p_X2_chooseUnlike v1 xk xc xt xn xl wch wcc wpl wun = some (wchz, wccz, wplz, wunz)) : Met l yX2_chooseUnlike (.code yX2_chooseUnlike cX2_chooseUnlike 4 none :: gU) rm_X2_chooseUnlike (gP E (xws E xk xo xc xt xn xl rc rv rb la wch wcc wpl wun srow ssp sen str stp swd rwp rdr rpd rpv rpc rzp) [.ref (ea E 37), .ref (ea E (4 * v1))]) (gQ E (xws E xk xo xc xt xn xl rc rv rb la wchz wccz wplz wunz srow ssp sen str stp swd rwp rdr rpd rpv rpc rzp) none) 0 0 E.2.2.1 := by
  refine met_of (y := yX2_chooseUnlike) (own := RX2) (lo := [some (.ref (ea E 37)), some (.ref (ea E (4 * v1))), none, none]) (by decide) rfl rfl rfl (fun κ hl hC => ?_)
  subst hl
  unfold p_X2_chooseUnlike at h
  refine g_aload_n (pc' := 1) (i := 0) hC dX2_chooseUnlike_0 rfl rfl rfl ?_
  refine g_iconst (pc' := 2) (v := (nI 0)) hC dX2_chooseUnlike_1 (by decide) rfl ?_
  refine pf_X2_100 (pc' := 5) hC dX2_chooseUnlike_2 rfl ?_
  refine g_iconst (pc' := 6) (v := (nI 0)) hC dX2_chooseUnlike_5 (by decide) rfl ?_
  refine g_istore_n (pc' := 7) (i := 2) (lo' := [some (.ref (ea E 37)), some (.ref (ea E (4 * v1))), some (.int (nI 0)), none]) hC dX2_chooseUnlike_6 rfl rfl rfl rfl rfl ?_
  refine w_X2_chooseUnlike_L7 hC hv1  _ _ _ _ _ h
set_option maxRecDepth 200000 in
theorem c_X2_dictionaryPage (l : Launch) {E : GE} {rcz : Nat → Int32} {rvz : Nat → Int32} {rbz : Nat → Nat → Int32} {laz : Nat → Nat → Int64} {wchz : Nat → Int32} {wccz : Int32} {wplz : Nat → Int32} {wunz : Int32} {v1 : Nat} (hv1 : v1 < 6) (h : p_X2_dictionaryPage v1 xk xc xt xn xl rc rv rb la wch wcc wpl wun = some (rcz, rvz, rbz, laz, wchz, wccz, wplz, wunz)) : Met l yX2_dictionaryPage (.code yX2_dictionaryPage cX2_dictionaryPage 2 none :: gU) rm_X2_dictionaryPage (gP E (xws E xk xo xc xt xn xl rc rv rb la wch wcc wpl wun srow ssp sen str stp swd rwp rdr rpd rpv rpc rzp) [.ref (ea E 37), .ref (ea E (4 * v1))]) (gQ E (xws E xk xo xc xt xn xl rcz rvz rbz laz wchz wccz wplz wunz srow ssp sen str stp swd rwp rdr rpd rpv rpc rzp) none) 0 0 E.2.2.1 := by
  refine met_of (y := yX2_dictionaryPage) (own := RX2) (lo := [some (.ref (ea E 37)), some (.ref (ea E (4 * v1)))]) (by decide) rfl rfl rfl (fun κ hl hC => ?_)
  subst hl
  unfold p_X2_dictionaryPage at h
  refine g_aload_n (pc' := 1) (i := 0) hC dX2_dictionaryPage_0 rfl rfl rfl ?_
  refine gf_X2_20 (pc' := 4) hC dX2_dictionaryPage_1 rfl ?_
  obtain ⟨rc_1, rv_2, hc_3, h⟩ := bd2_some h
  refine g_callV (pc' := 7) hC (c_X3_clear _ (by decide) hc_3) ml_X2_34 (rc_Row (by decide)) (by decide) rfl rfl rfl rfl dX2_dictionaryPage_4 rfl ?_
  refine g_aload_n (pc' := 8) (i := 0) hC dX2_dictionaryPage_7 rfl rfl rfl ?_
  refine g_aload_n (pc' := 9) (i := 1) hC dX2_dictionaryPage_8 rfl rfl rfl ?_
  obtain ⟨wch_4, wcc_5, wpl_6, wun_7, hc_8, h⟩ := bd4_some h
  refine g_callV (pc' := 12) hC (c_X2_chooseUnlike _ hv1 hc_8) ml_X2_66 (rc_Wr) (by decide) rfl rfl rfl rfl dX2_dictionaryPage_9 rfl ?_
  refine g_aload_n (pc' := 13) (i := 0) hC dX2_dictionaryPage_12 rfl rfl rfl ?_
  refine g_aload_n (pc' := 14) (i := 1) hC dX2_dictionaryPage_13 rfl rfl rfl ?_
  obtain ⟨rc_9, rv_10, rb_11, la_12, hc_13, h⟩ := bd4_some h
  refine g_callV (pc' := 17) hC (c_X2_pushPlain _ hv1 hc_13) ml_X2_69 (rc_Wr) (by decide) rfl rfl rfl rfl dX2_dictionaryPage_14 rfl ?_
  refine g_aload_n (pc' := 18) (i := 0) hC dX2_dictionaryPage_17 rfl rfl rfl ?_
  refine g_iconst (pc' := 19) (v := (nI 2)) hC dX2_dictionaryPage_18 (by decide) rfl ?_
  refine g_aload_n (pc' := 20) (i := 0) hC dX2_dictionaryPage_19 rfl rfl rfl ?_
  refine gf_X2_72 (pc' := 23) hC dX2_dictionaryPage_20 rfl ?_
  refine g_iconst (pc' := 24) (v := (nI 0)) hC dX2_dictionaryPage_23 (by decide) rfl ?_
  obtain ⟨rc_14, rv_15, rb_16, hc_17, h⟩ := bd3_some h
  refine g_callV (pc' := 27) hC (c_X2_pushHead _ hc_17) ml_X2_75 (rc_Wr) (by decide) rfl rfl rfl rfl dX2_dictionaryPage_24 rfl ?_
  refine g_aload_n (pc' := 28) (i := 0) hC dX2_dictionaryPage_27 rfl rfl rfl ?_
  refine gf_X2_14 (pc' := 31) hC dX2_dictionaryPage_28 rfl ?_
  refine g_aload_n (pc' := 32) (i := 0) hC dX2_dictionaryPage_31 rfl rfl rfl ?_
  refine gf_X2_20 (pc' := 35) hC dX2_dictionaryPage_32 rfl ?_
  obtain ⟨rc_18, rv_19, rb_20, hc_21, h⟩ := bd3_some h
  refine g_callV (pc' := 38) hC (c_X3_append _ (by decide) (by decide) hc_21) ml_X2_79 (rc_Row (by decide)) (by decide) rfl rfl rfl rfl dX2_dictionaryPage_35 rfl ?_
  obtain ⟨rfl, rfl, rfl, rfl, rfl, rfl, rfl, rfl⟩ := inj8 h; exact g_vret hC dX2_dictionaryPage_38
set_option maxRecDepth 200000 in
theorem w_X2_writePages_L34 {κ : GK} {E : GE} {rcz : Nat → Int32} {rvz : Nat → Int32} {rbz : Nat → Nat → Int32} {laz : Nat → Nat → Int64} {wchz : Nat → Int32} {wccz : Int32} {wplz : Nat → Int32} {wunz : Int32} {v1 : Nat} {v2 : Int32} {v4 : Int32}  (hC : gC κ E cX2_writePages RX2 none rm_X2_writePages 6) (hv1 : v1 < 6)  : ∀ (n : Nat) (v5 : Int32) (rc : Nat → Int32) (rv : Nat → Int32) (rb : Nat → Nat → Int32) (la : Nat → Nat → Int64) (wch : Nat → Int32) (wcc : Int32), itr7 (p_X2_writePages_L34 v1 v2 v4 xk xo xc xt xn xl wpl wun) n v5 rc rv rb la wch wcc = some (rcz, rvz, rbz, laz, wchz, wccz, wplz, wunz) → GG κ E (xws E xk xo xc xt xn xl rcz rvz rbz laz wchz wccz wplz wunz srow ssp sen str stp swd rwp rdr rpd rpv rpc rzp, none) (xws E xk xo xc xt xn xl rc rv rb la wch wcc wpl wun srow ssp sen str stp swd rwp rdr rpd rpv rpc rzp) 34 [some (.ref (ea E 37)), some (.ref (ea E (4 * v1))), some (.int v2), none, some (.int v4), some (.int v5)] [] :=
  itr7_ind (fun k34 hk34 v5 rc rv rb la wch wcc h => by
    unfold p_X2_writePages_L34 at h
    refine g_iload (pc' := 36) (i := 5) hC dX2_writePages_34 rfl rfl ?_
    refine g_aload_n (pc' := 37) (i := 1) hC dX2_writePages_36 rfl rfl rfl ?_
    refine gf_X2_37 (pc' := 40) hC hv1 dX2_writePages_37 rfl ?_
    refine g_icmp_ge (pc' := 43) (tgt := 80) hC dX2_writePages_40 (by decide) rfl h (fun h => ?_) (fun h => ?_)
    · refine g_aload_n (pc' := 44) (i := 0) hC dX2_writePages_43 rfl rfl rfl ?_
      refine g_aload_n (pc' := 45) (i := 1) hC dX2_writePages_44 rfl rfl rfl ?_
      refine g_iload (pc' := 47) (i := 5) hC dX2_writePages_45 rfl rfl ?_
      refine g_iload (pc' := 49) (i := 5) hC dX2_writePages_47 rfl rfl ?_
      refine g_iload (pc' := 51) (i := 4) hC dX2_writePages_49 rfl rfl ?_
      refine g_iadd (pc' := 52) hC dX2_writePages_51 rfl ?_
      refine g_aload_n (pc' := 53) (i := 1) hC dX2_writePages_52 rfl rfl rfl ?_
      refine gf_X2_37 (pc' := 56) hC hv1 dX2_writePages_53 rfl ?_
      refine g_imin (pc' := 59) hC math_X2_53 (by decide) dX2_writePages_56 rfl rfl ?_
      refine g_aload_n (pc' := 60) (i := 1) hC dX2_writePages_59 rfl rfl rfl ?_
      refine gf_X2_56 (pc' := 63) hC hv1 dX2_writePages_60 rfl ?_
      refine g_iload_n (pc' := 64) (i := 2) hC dX2_writePages_63 rfl rfl rfl ?_
      obtain ⟨a_13, hc_14, h⟩ := bd1_some h
      refine g_callS (pc' := 67) hC (c_X2_codeOf _ hc_14) ml_X2_59  (by decide) rfl rfl rfl dX2_writePages_64 rfl ?_
      obtain ⟨rc_15, rv_16, rb_17, la_18, wch_19, wcc_20, hc_21, h⟩ := bd6_some h
      refine g_callV (pc' := 70) hC (c_X2_dataPage _ hv1 hc_21) ml_X2_62 (rc_Wr) (by decide) rfl rfl rfl rfl dX2_writePages_67 rfl ?_
      refine g_iload (pc' := 72) (i := 5) hC dX2_writePages_70 rfl rfl ?_
      refine g_iload (pc' := 74) (i := 4) hC dX2_writePages_72 rfl rfl ?_
      refine g_iadd (pc' := 75) hC dX2_writePages_74 rfl ?_
      refine g_istore (pc' := 77) (i := 5) (lo' := [some (.ref (ea E 37)), some (.ref (ea E (4 * v1))), some (.int v2), none, some (.int v4), some (.int (v5 + v4))]) hC dX2_writePages_75 rfl rfl rfl rfl ?_
      refine g_goto (tgt := 34) hC dX2_writePages_77 (by decide) ?_
      exact hk34 _ _ _ _ _ _ _ h
    · obtain ⟨rfl, rfl, rfl, rfl, rfl, rfl, rfl, rfl⟩ := inj8 h; exact g_vret hC dX2_writePages_80)
set_option maxRecDepth 200000 in
theorem c_X2_writePages (l : Launch) {E : GE} {rcz : Nat → Int32} {rvz : Nat → Int32} {rbz : Nat → Nat → Int32} {laz : Nat → Nat → Int64} {wchz : Nat → Int32} {wccz : Int32} {wplz : Nat → Int32} {wunz : Int32} {v1 : Nat} {v2 : Int32} {v3 : Int32} (hv1 : v1 < 6) (h : p_X2_writePages v1 v2 v3 xk xo xc xt xn xl rc rv rb la wch wcc wpl wun = some (rcz, rvz, rbz, laz, wchz, wccz, wplz, wunz)) : Met l yX2_writePages (.code yX2_writePages cX2_writePages 6 none :: gU) rm_X2_writePages (gP E (xws E xk xo xc xt xn xl rc rv rb la wch wcc wpl wun srow ssp sen str stp swd rwp rdr rpd rpv rpc rzp) [.ref (ea E 37), .ref (ea E (4 * v1)), .int v2, .int v3]) (gQ E (xws E xk xo xc xt xn xl rcz rvz rbz laz wchz wccz wplz wunz srow ssp sen str stp swd rwp rdr rpd rpv rpc rzp) none) 0 0 E.2.2.1 := by
  refine met_of (y := yX2_writePages) (own := RX2) (lo := [some (.ref (ea E 37)), some (.ref (ea E (4 * v1))), some (.int v2), some (.int v3), none, none]) (by decide) rfl rfl rfl (fun κ hl hC => ?_)
  subst hl
  unfold p_X2_writePages at h
  refine g_aload_n (pc' := 1) (i := 0) hC dX2_writePages_0 rfl rfl rfl ?_
  refine gf_X2_14 (pc' := 4) hC dX2_writePages_1 rfl ?_
  obtain ⟨rc_1, rv_2, hc_3, h⟩ := bd2_some h
  refine g_callV (pc' := 7) hC (c_X3_clear _ (by decide) hc_3) ml_X2_34 (rc_Row (by decide)) (by decide) rfl rfl rfl rfl dX2_writePages_4 rfl ?_
  refine g_iload_n (pc' := 8) (i := 2) hC dX2_writePages_7 rfl rfl rfl ?_
  refine g_iconst (pc' := 9) (v := (nI 1)) hC dX2_writePages_8 (by decide) rfl ?_
  refine g_icmp_ne (pc' := 12) (tgt := 24) hC dX2_writePages_9 (by decide) rfl h (fun h => ?_) (fun h => ?_)
  · refine g_aload_n (pc' := 13) (i := 1) hC dX2_writePages_12 rfl rfl rfl ?_
    refine gf_X2_37 (pc' := 16) hC hv1 dX2_writePages_13 rfl ?_
    refine g_if_le (pc' := 19) (tgt := 24) hC dX2_writePages_16 (by decide) rfl h (fun h => ?_) (fun h => ?_)
    · refine g_aload_n (pc' := 20) (i := 0) hC dX2_writePages_19 rfl rfl rfl ?_
      refine g_aload_n (pc' := 21) (i := 1) hC dX2_writePages_20 rfl rfl rfl ?_
      obtain ⟨rc_4, rv_5, rb_6, la_7, wch_8, wcc_9, wpl_10, wun_11, hc_12, h⟩ := bd8_some h
      refine g_callV (pc' := 24) hC (c_X2_dictionaryPage _ hv1 hc_12) ml_X2_43 (rc_Wr) (by decide) rfl rfl rfl rfl dX2_writePages_21 rfl ?_
      refine g_iload_n (pc' := 25) (i := 3) hC dX2_writePages_24 rfl rfl rfl ?_
      refine g_iconst (pc' := 26) (v := (nI 1)) hC dX2_writePages_25 (by decide) rfl ?_
      refine g_imax (pc' := 29) hC math_X2_47 (by decide) dX2_writePages_26 rfl rfl ?_
      refine g_istore (pc' := 31) (i := 4) (lo' := [some (.ref (ea E 37)), some (.ref (ea E (4 * v1))), some (.int v2), some (.int v3), some (.int (imax v3 (nI 1))), none]) hC dX2_writePages_29 rfl rfl rfl rfl ?_
      refine g_iconst (pc' := 32) (v := (nI 0)) hC dX2_writePages_31 (by decide) rfl ?_
      refine g_istore (pc' := 34) (i := 5) (lo' := [some (.ref (ea E 37)), some (.ref (ea E (4 * v1))), some (.int v2), some (.int v3), some (.int (imax v3 (nI 1))), some (.int (nI 0))]) hC dX2_writePages_32 rfl rfl rfl rfl ?_
      refine g_weak (lo' := [some (.ref (ea E 37)), some (.ref (ea E (4 * v1))), some (.int v2), none, some (.int (imax v3 (nI 1))), some (.int (nI 0))]) rfl ?_
      refine w_X2_writePages_L34 hC hv1  _ _ _ _ _ _ _ _ h
    · refine g_iload_n (pc' := 25) (i := 3) hC dX2_writePages_24 rfl rfl rfl ?_
      refine g_iconst (pc' := 26) (v := (nI 1)) hC dX2_writePages_25 (by decide) rfl ?_
      refine g_imax (pc' := 29) hC math_X2_47 (by decide) dX2_writePages_26 rfl rfl ?_
      refine g_istore (pc' := 31) (i := 4) (lo' := [some (.ref (ea E 37)), some (.ref (ea E (4 * v1))), some (.int v2), some (.int v3), some (.int (imax v3 (nI 1))), none]) hC dX2_writePages_29 rfl rfl rfl rfl ?_
      refine g_iconst (pc' := 32) (v := (nI 0)) hC dX2_writePages_31 (by decide) rfl ?_
      refine g_istore (pc' := 34) (i := 5) (lo' := [some (.ref (ea E 37)), some (.ref (ea E (4 * v1))), some (.int v2), some (.int v3), some (.int (imax v3 (nI 1))), some (.int (nI 0))]) hC dX2_writePages_32 rfl rfl rfl rfl ?_
      refine g_weak (lo' := [some (.ref (ea E 37)), some (.ref (ea E (4 * v1))), some (.int v2), none, some (.int (imax v3 (nI 1))), some (.int (nI 0))]) rfl ?_
      refine w_X2_writePages_L34 hC hv1  _ _ _ _ _ _ _ _ h
  · refine g_iload_n (pc' := 25) (i := 3) hC dX2_writePages_24 rfl rfl rfl ?_
    refine g_iconst (pc' := 26) (v := (nI 1)) hC dX2_writePages_25 (by decide) rfl ?_
    refine g_imax (pc' := 29) hC math_X2_47 (by decide) dX2_writePages_26 rfl rfl ?_
    refine g_istore (pc' := 31) (i := 4) (lo' := [some (.ref (ea E 37)), some (.ref (ea E (4 * v1))), some (.int v2), some (.int v3), some (.int (imax v3 (nI 1))), none]) hC dX2_writePages_29 rfl rfl rfl rfl ?_
    refine g_iconst (pc' := 32) (v := (nI 0)) hC dX2_writePages_31 (by decide) rfl ?_
    refine g_istore (pc' := 34) (i := 5) (lo' := [some (.ref (ea E 37)), some (.ref (ea E (4 * v1))), some (.int v2), some (.int v3), some (.int (imax v3 (nI 1))), some (.int (nI 0))]) hC dX2_writePages_32 rfl rfl rfl rfl ?_
    refine g_weak (lo' := [some (.ref (ea E 37)), some (.ref (ea E (4 * v1))), some (.int v2), none, some (.int (imax v3 (nI 1))), some (.int (nI 0))]) rfl ?_
    refine w_X2_writePages_L34 hC hv1  _ _ _ _ _ _ _ _ h
set_option maxRecDepth 200000 in
theorem c_X3_shorten (l : Launch) {E : GE} {rcz : Nat → Int32} {v0 : Nat} {v1 : Int32} (hv0 : v0 < 4) (h : p_X3_shorten v0 v1 rc = some rcz) : Met l yX3_shorten (.code yX3_shorten cX3_shorten 2 none :: gU) rm_X3_shorten (gP E (xws E xk xo xc xt xn xl rc rv rb la wch wcc wpl wun srow ssp sen str stp swd rwp rdr rpd rpv rpc rzp) [.ref (ea E (24 + 2 * v0)), .int v1]) (gQ E (xws E xk xo xc xt xn xl rcz rv rb la wch wcc wpl wun srow ssp sen str stp swd rwp rdr rpd rpv rpc rzp) none) 0 0 E.2.2.1 := by
  refine met_of (y := yX3_shorten) (own := RX3) (lo := [some (.ref (ea E (24 + 2 * v0))), some (.int v1)]) (by decide) rfl rfl rfl (fun κ hl hC => ?_)
  subst hl
  unfold p_X3_shorten at h
  refine g_aload_n (pc' := 1) (i := 0) hC dX3_shorten_0 rfl rfl rfl ?_
  refine g_iconst (pc' := 2) (v := (nI 0)) hC dX3_shorten_1 (by decide) rfl ?_
  refine g_iload_n (pc' := 3) (i := 1) hC dX3_shorten_2 rfl rfl rfl ?_
  refine g_aload_n (pc' := 4) (i := 0) hC dX3_shorten_3 rfl rfl rfl ?_
  refine gf_X3_15 (pc' := 7) hC hv0 dX3_shorten_4 rfl ?_
  refine g_imin (pc' := 10) hC math_X3_23 (by decide) dX3_shorten_7 rfl rfl ?_
  refine g_imax (pc' := 13) hC math_X3_29 (by decide) dX3_shorten_10 rfl rfl ?_
  refine pf_X3_15 (pc' := 16) hC hv0 dX3_shorten_13 rfl ?_
  obtain rfl := inj1 h; exact g_vret hC dX3_shorten_16
set_option maxRecDepth 200000 in
theorem c_X5_columnAt (l : Launch) {E : GE} {rr : Option Nat} {v1 : Int32}  (h : p_X5_columnAt v1 = some rr) : Met l yX5_columnAt (.code yX5_columnAt cX5_columnAt 2 (some (.object "ColumnPages$Column")) :: gU) rm_X5_columnAt (gP E (xws E xk xo xc xt xn xl rc rv rb la wch wcc wpl wun srow ssp sen str stp swd rwp rdr rpd rpv rpc rzp) [.ref (ea E 35), .int v1]) (gQ E (xws E xk xo xc xt xn xl rc rv rb la wch wcc wpl wun srow ssp sen str stp swd rwp rdr rpd rpv rpc rzp) (some (rfo (fun k => ea E (4 * k)) rr))) 0 0 E.2.2.1 := by
  refine met_of (y := yX5_columnAt) (own := RX5) (lo := [some (.ref (ea E 35)), some (.int v1)]) (by decide) rfl rfl rfl (fun κ hl hC => ?_)
  subst hl
  unfold p_X5_columnAt at h
  refine g_iload_n (pc' := 1) (i := 1) hC dX5_columnAt_0 rfl rfl rfl ?_
  refine g_if_lt (pc' := 4) (tgt := 13) hC dX5_columnAt_1 (by decide) rfl h (fun h => ?_) (fun h => ?_)
  · refine g_null (pc' := 14) hC dX5_columnAt_13 rfl ?_
    refine g_goto (tgt := 23) hC dX5_columnAt_14 (by decide) ?_
    obtain rfl := inj1 h; exact g_aretN hC dX5_columnAt_23
  · refine g_iload_n (pc' := 5) (i := 1) hC dX5_columnAt_4 rfl rfl rfl ?_
    refine g_aload_n (pc' := 6) (i := 0) hC dX5_columnAt_5 rfl rfl rfl ?_
    refine gf_X5_11 (pc' := 9) hC dX5_columnAt_6 rfl ?_
    refine al_cols (pc' := 10) hC dX5_columnAt_9 rfl ?_
    refine g_icmp_lt (pc' := 13) (tgt := 17) hC dX5_columnAt_10 (by decide) rfl h (fun h => ?_) (fun h => ?_)
    · refine g_aload_n (pc' := 18) (i := 0) hC dX5_columnAt_17 rfl rfl rfl ?_
      refine gf_X5_11 (pc' := 21) hC dX5_columnAt_18 rfl ?_
      refine g_iload_n (pc' := 22) (i := 1) hC dX5_columnAt_21 rfl rfl rfl ?_
      obtain ⟨g_1, h⟩ := gd_some h
      refine ld_cols (pc' := 23) hC g_1 dX5_columnAt_22 rfl ?_
      obtain rfl := inj1 h; exact g_aret hC dX5_columnAt_23 rfl
    · refine g_null (pc' := 14) hC dX5_columnAt_13 rfl ?_
      refine g_goto (tgt := 23) hC dX5_columnAt_14 (by decide) ?_
      obtain rfl := inj1 h; exact g_aretN hC dX5_columnAt_23
set_option maxRecDepth 200000 in
theorem c_X5_column (l : Launch) {E : GE} {rr : Int32} {xkz : Nat → Int32} {xoz : Nat → Int32} {xcz : Nat → Int32} {v1 : Int32} {v2 : Int32} {v3 : Int32}  (h : p_X5_column v1 v2 v3 xk xo xc = some (rr, xkz, xoz, xcz)) : Met l yX5_column (.code yX5_column cX5_column 6 (some .int) :: gU) rm_X5_column (gP E (xws E xk xo xc xt xn xl rc rv rb la wch wcc wpl wun srow ssp sen str stp swd rwp rdr rpd rpv rpc rzp) [.ref (ea E 35), .int v1, .int v2, .int v3]) (gQ E (xws E xkz xoz xcz xt xn xl rc rv rb la wch wcc wpl wun srow ssp sen str stp swd rwp rdr rpd rpv rpc rzp) (some (.int rr))) 0 0 E.2.2.1 := by
  refine met_of (y := yX5_column) (own := RX5) (lo := [some (.ref (ea E 35)), some (.int v1), some (.int v2), some (.int v3), none, none]) (by decide) rfl rfl rfl (fun κ hl hC => ?_)
  subst hl
  unfold p_X5_column at h
  refine g_aload_n (pc' := 1) (i := 0) hC dX5_column_0 rfl rfl rfl ?_
  refine g_iload_n (pc' := 2) (i := 1) hC dX5_column_1 rfl rfl rfl ?_
  obtain ⟨a_1, hc_2, h⟩ := bd1_some h
  refine g_callV (pc' := 5) hC (c_X5_columnAt _ hc_2) ml_X5_42 (rc_CP) (by decide) rfl rfl rfl rfl dX5_column_2 rfl ?_
  rcases a_1 with _ | o_3
  · have h := mo_n h
    refine g_astoreN (pc' := 7) (i := 4) (lo' := [some (.ref (ea E 35)), some (.int v1), some (.int v2), some (.int v3), some (.null), none]) hC dX5_column_5 rfl rfl rfl rfl ?_
    refine g_aloadN (pc' := 9) (i := 4) hC dX5_column_7 rfl rfl ?_
    refine g_ifnullN (tgt := 21) hC dX5_column_9 (by decide) ?_
    refine g_iconst (pc' := 22) (v := (-1 : Int32)) hC dX5_column_21 (by decide) rfl ?_
    obtain ⟨rfl, rfl, rfl, rfl⟩ := inj4 h; exact g_iret hC dX5_column_22
  · have h := mo_s h
    obtain ⟨g_4, h⟩ := gd_some h
    refine g_astore (pc' := 7) (i := 4) (lo' := [some (.ref (ea E 35)), some (.int v1), some (.int v2), some (.int v3), some (.ref (ea E (4 * o_3))), none]) hC dX5_column_5 rfl rfl rfl rfl ?_
    refine g_aload (pc' := 9) (i := 4) hC dX5_column_7 rfl rfl ?_
    refine g_ifnull (pc' := 12) hC dX5_column_9 rfl ?_
    refine g_iload_n (pc' := 13) (i := 2) hC dX5_column_12 rfl rfl rfl ?_
    refine g_if_lt (pc' := 16) (tgt := 21) hC dX5_column_13 (by decide) rfl h (fun h => ?_) (fun h => ?_)
    · refine g_iconst (pc' := 22) (v := (-1 : Int32)) hC dX5_column_21 (by decide) rfl ?_
      obtain ⟨rfl, rfl, rfl, rfl⟩ := inj4 h; exact g_iret hC dX5_column_22
    · refine g_iload_n (pc' := 17) (i := 2) hC dX5_column_16 rfl rfl rfl ?_
      refine g_iconst (pc' := 18) (v := (nI 3)) hC dX5_column_17 (by decide) rfl ?_
      refine g_icmp_le (pc' := 21) (tgt := 23) hC dX5_column_18 (by decide) rfl h (fun h => ?_) (fun h => ?_)
      · refine g_iconst (pc' := 22) (v := (-1 : Int32)) hC dX5_column_21 (by decide) rfl ?_
        obtain ⟨rfl, rfl, rfl, rfl⟩ := inj4 h; exact g_iret hC dX5_column_22
      · refine g_aload (pc' := 25) (i := 4) hC dX5_column_23 rfl rfl ?_
        refine gf_X5_46 (pc' := 28) hC (of_decide_eq_true g_4) dX5_column_25 rfl ?_
        refine g_istore (pc' := 30) (i := 5) (lo' := [some (.ref (ea E 35)), some (.int v1), some (.int v2), some (.int v3), some (.ref (ea E (4 * o_3))), some (.int (xc o_3))]) hC dX5_column_28 rfl rfl rfl rfl ?_
        refine g_aload (pc' := 32) (i := 4) hC dX5_column_30 rfl rfl ?_
        refine g_iload_n (pc' := 33) (i := 2) hC dX5_column_32 rfl rfl rfl ?_
        refine g_iload_n (pc' := 34) (i := 3) hC dX5_column_33 rfl rfl rfl ?_
        obtain ⟨xk_5, xo_6, xc_7, hc_8, h⟩ := bd3_some h
        refine g_callV (pc' := 37) hC (c_X0_begin _ (of_decide_eq_true g_4) hc_8) ml_X5_50 (rc_Col (of_decide_eq_true g_4)) (by decide) rfl rfl rfl rfl dX5_column_34 rfl ?_
        refine g_iload (pc' := 39) (i := 5) hC dX5_column_37 rfl rfl ?_
        obtain ⟨rfl, rfl, rfl, rfl⟩ := inj4 h; exact g_iret hC dX5_column_39
end WALK
