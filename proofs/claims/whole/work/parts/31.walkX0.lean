section WALK
variable {xk : Nat → Int32} {xo : Nat → Int32} {xc : Nat → Int32} {xt : Nat → Nat → Int32} {xn : Nat → Nat → Int64} {xl : Nat → Nat → Int32} {rc : Nat → Int32} {rv : Nat → Int32} {rb : Nat → Nat → Int32} {la : Nat → Nat → Int64} {wch : Nat → Int32} {wcc : Int32} {wpl : Nat → Int32} {wun : Int32} {srow : Option Nat} {ssp : Int32} {sen : Int32} {str : Int32} {stp : Int32} {swd : Nat → Int32} {rwp : Int32} {rdr : Int32} {rpd : Int32} {rpv : Int32} {rpc : Int32} {rzp : Int32}
set_option maxRecDepth 200000 in
theorem c_X0_begin (l : Launch) {E : GE} {xkz : Nat → Int32} {xoz : Nat → Int32} {xcz : Nat → Int32} {v0 : Nat} {v1 : Int32} {v2 : Int32} (hv0 : v0 < 6) (h : p_X0_begin v0 v1 v2 xk xo xc = some (xkz, xoz, xcz)) : Met l yX0_begin (.code yX0_begin cX0_begin 3 none :: gU) rm_X0_begin (gP E (xws E xk xo xc xt xn xl rc rv rb la wch wcc wpl wun srow ssp sen str stp swd rwp rdr rpd rpv rpc rzp) [.ref (ea E (4 * v0)), .int v1, .int v2]) (gQ E (xws E xkz xoz xcz xt xn xl rc rv rb la wch wcc wpl wun srow ssp sen str stp swd rwp rdr rpd rpv rpc rzp) none) 0 0 E.2.2.1 := by
  refine met_of (y := yX0_begin) (own := RX0) (lo := [some (.ref (ea E (4 * v0))), some (.int v1), some (.int v2)]) (by decide) rfl rfl rfl (fun κ hl hC => ?_)
  subst hl
  unfold p_X0_begin at h
  refine g_aload_n (pc' := 1) (i := 0) hC dX0_begin_0 rfl rfl rfl ?_
  refine g_iload_n (pc' := 2) (i := 1) hC dX0_begin_1 rfl rfl rfl ?_
  refine pf_X0_23 (pc' := 5) hC hv0 dX0_begin_2 rfl ?_
  refine g_aload_n (pc' := 6) (i := 0) hC dX0_begin_5 rfl rfl rfl ?_
  refine g_iload_n (pc' := 7) (i := 2) hC dX0_begin_6 rfl rfl rfl ?_
  obtain ⟨g_1, h⟩ := gd_some h
  refine pf_X0_27 (pc' := 10) hC hv0 g_1 dX0_begin_7 rfl ?_
  refine g_aload_n (pc' := 11) (i := 0) hC dX0_begin_10 rfl rfl rfl ?_
  refine g_iconst (pc' := 12) (v := (nI 0)) hC dX0_begin_11 (by decide) rfl ?_
  refine pf_X0_31 (pc' := 15) hC hv0 dX0_begin_12 rfl ?_
  obtain ⟨rfl, rfl, rfl⟩ := inj3 h; exact g_vret hC dX0_begin_15
set_option maxRecDepth 200000 in
theorem c_X0_holds (l : Launch) {E : GE} {rr : Int32} {v0 : Nat} {v1 : Int32} (hv0 : v0 < 6) (h : p_X0_holds v0 v1 xc = some rr) : Met l yX0_holds (.code yX0_holds cX0_holds 2 (some .boolean) :: gU) rm_X0_holds (gP E (xws E xk xo xc xt xn xl rc rv rb la wch wcc wpl wun srow ssp sen str stp swd rwp rdr rpd rpv rpc rzp) [.ref (ea E (4 * v0)), .int v1]) (gQ E (xws E xk xo xc xt xn xl rc rv rb la wch wcc wpl wun srow ssp sen str stp swd rwp rdr rpd rpv rpc rzp) (some (.int rr))) 0 0 E.2.2.1 := by
  refine met_of (y := yX0_holds) (own := RX0) (lo := [some (.ref (ea E (4 * v0))), some (.int v1)]) (by decide) rfl rfl rfl (fun κ hl hC => ?_)
  subst hl
  unfold p_X0_holds at h
  refine g_iload_n (pc' := 1) (i := 1) hC dX0_holds_0 rfl rfl rfl ?_
  refine g_if_lt (pc' := 4) (tgt := 23) hC dX0_holds_1 (by decide) rfl h (fun h => ?_) (fun h => ?_)
  · refine g_iconst (pc' := 24) (v := (nI 0)) hC dX0_holds_23 (by decide) rfl ?_
    obtain rfl := inj1 h; exact g_zret hC (by decide) dX0_holds_24
  · refine g_iload_n (pc' := 5) (i := 1) hC dX0_holds_4 rfl rfl rfl ?_
    refine g_aload_n (pc' := 6) (i := 0) hC dX0_holds_5 rfl rfl rfl ?_
    refine gf_X0_31 (pc' := 9) hC hv0 dX0_holds_6 rfl ?_
    refine g_icmp_ge (pc' := 12) (tgt := 23) hC dX0_holds_9 (by decide) rfl h (fun h => ?_) (fun h => ?_)
    · refine g_iload_n (pc' := 13) (i := 1) hC dX0_holds_12 rfl rfl rfl ?_
      refine g_sipush (pc' := 16) (v := (nI 200)) hC dX0_holds_13 (by decide) rfl ?_
      refine g_icmp_ge (pc' := 19) (tgt := 23) hC dX0_holds_16 (by decide) rfl h (fun h => ?_) (fun h => ?_)
      · refine g_iconst (pc' := 20) (v := (nI 1)) hC dX0_holds_19 (by decide) rfl ?_
        refine g_goto (tgt := 24) hC dX0_holds_20 (by decide) ?_
        obtain rfl := inj1 h; exact g_zret hC (by decide) dX0_holds_24
      · refine g_iconst (pc' := 24) (v := (nI 0)) hC dX0_holds_23 (by decide) rfl ?_
        obtain rfl := inj1 h; exact g_zret hC (by decide) dX0_holds_24
    · refine g_iconst (pc' := 24) (v := (nI 0)) hC dX0_holds_23 (by decide) rfl ?_
      obtain rfl := inj1 h; exact g_zret hC (by decide) dX0_holds_24
set_option maxRecDepth 200000 in
theorem c_X0_isThere (l : Launch) {E : GE} {rr : Int32} {v0 : Nat} {v1 : Int32} (hv0 : v0 < 6) (h : p_X0_isThere v0 v1 xt = some rr) : Met l yX0_isThere (.code yX0_isThere cX0_isThere 2 (some .boolean) :: gU) rm_X0_isThere (gP E (xws E xk xo xc xt xn xl rc rv rb la wch wcc wpl wun srow ssp sen str stp swd rwp rdr rpd rpv rpc rzp) [.ref (ea E (4 * v0)), .int v1]) (gQ E (xws E xk xo xc xt xn xl rc rv rb la wch wcc wpl wun srow ssp sen str stp swd rwp rdr rpd rpv rpc rzp) (some (.int rr))) 0 0 E.2.2.1 := by
  refine met_of (y := yX0_isThere) (own := RX0) (lo := [some (.ref (ea E (4 * v0))), some (.int v1)]) (by decide) rfl rfl rfl (fun κ hl hC => ?_)
  subst hl
  unfold p_X0_isThere at h
  refine g_iload_n (pc' := 1) (i := 1) hC dX0_isThere_0 rfl rfl rfl ?_
  refine g_if_lt (pc' := 4) (tgt := 24) hC dX0_isThere_1 (by decide) rfl h (fun h => ?_) (fun h => ?_)
  · refine g_iconst (pc' := 25) (v := (nI 0)) hC dX0_isThere_24 (by decide) rfl ?_
    obtain rfl := inj1 h; exact g_zret hC (by decide) dX0_isThere_25
  · refine g_iload_n (pc' := 5) (i := 1) hC dX0_isThere_4 rfl rfl rfl ?_
    refine g_sipush (pc' := 8) (v := (nI 200)) hC dX0_isThere_5 (by decide) rfl ?_
    refine g_icmp_ge (pc' := 11) (tgt := 24) hC dX0_isThere_8 (by decide) rfl h (fun h => ?_) (fun h => ?_)
    · refine g_aload_n (pc' := 12) (i := 0) hC dX0_isThere_11 rfl rfl rfl ?_
      refine gf_X0_9 (pc' := 15) hC hv0 dX0_isThere_12 rfl ?_
      refine g_iload_n (pc' := 16) (i := 1) hC dX0_isThere_15 rfl rfl rfl ?_
      obtain ⟨g_1, h⟩ := gd_some h
      refine ld_xt (pc' := 17) hC hv0 g_1 dX0_isThere_16 rfl ?_
      refine g_if_eq (pc' := 20) (tgt := 24) hC dX0_isThere_17 (by decide) rfl h (fun h => ?_) (fun h => ?_)
      · refine g_iconst (pc' := 25) (v := (nI 0)) hC dX0_isThere_24 (by decide) rfl ?_
        obtain rfl := inj1 h; exact g_zret hC (by decide) dX0_isThere_25
      · refine g_iconst (pc' := 21) (v := (nI 1)) hC dX0_isThere_20 (by decide) rfl ?_
        refine g_goto (tgt := 25) hC dX0_isThere_21 (by decide) ?_
        obtain rfl := inj1 h; exact g_zret hC (by decide) dX0_isThere_25
    · refine g_iconst (pc' := 25) (v := (nI 0)) hC dX0_isThere_24 (by decide) rfl ?_
      obtain rfl := inj1 h; exact g_zret hC (by decide) dX0_isThere_25
set_option maxRecDepth 200000 in
theorem c_X0_numberAt (l : Launch) {E : GE} {rr : Int64} {v0 : Nat} {v1 : Int32} (hv0 : v0 < 6) (h : p_X0_numberAt v0 v1 xn = some rr) : Met l yX0_numberAt (.code yX0_numberAt cX0_numberAt 2 (some .long) :: gU) rm_X0_numberAt (gP E (xws E xk xo xc xt xn xl rc rv rb la wch wcc wpl wun srow ssp sen str stp swd rwp rdr rpd rpv rpc rzp) [.ref (ea E (4 * v0)), .int v1]) (gQ E (xws E xk xo xc xt xn xl rc rv rb la wch wcc wpl wun srow ssp sen str stp swd rwp rdr rpd rpv rpc rzp) (some (.long rr))) 0 0 E.2.2.1 := by
  refine met_of (y := yX0_numberAt) (own := RX0) (lo := [some (.ref (ea E (4 * v0))), some (.int v1)]) (by decide) rfl rfl rfl (fun κ hl hC => ?_)
  subst hl
  unfold p_X0_numberAt at h
  refine g_iload_n (pc' := 1) (i := 1) hC dX0_numberAt_0 rfl rfl rfl ?_
  refine g_if_lt (pc' := 4) (tgt := 20) hC dX0_numberAt_1 (by decide) rfl h (fun h => ?_) (fun h => ?_)
  · refine g_lconst (pc' := 21) (v := (lN 0)) hC dX0_numberAt_20 (by decide) rfl ?_
    obtain rfl := inj1 h; exact g_lret hC dX0_numberAt_21
  · refine g_iload_n (pc' := 5) (i := 1) hC dX0_numberAt_4 rfl rfl rfl ?_
    refine g_sipush (pc' := 8) (v := (nI 200)) hC dX0_numberAt_5 (by decide) rfl ?_
    refine g_icmp_ge (pc' := 11) (tgt := 20) hC dX0_numberAt_8 (by decide) rfl h (fun h => ?_) (fun h => ?_)
    · refine g_aload_n (pc' := 12) (i := 0) hC dX0_numberAt_11 rfl rfl rfl ?_
      refine gf_X0_15 (pc' := 15) hC hv0 dX0_numberAt_12 rfl ?_
      refine g_iload_n (pc' := 16) (i := 1) hC dX0_numberAt_15 rfl rfl rfl ?_
      obtain ⟨g_1, h⟩ := gd_some h
      refine ld_xn (pc' := 17) hC hv0 g_1 dX0_numberAt_16 rfl ?_
      refine g_goto (tgt := 21) hC dX0_numberAt_17 (by decide) ?_
      obtain rfl := inj1 h; exact g_lret hC dX0_numberAt_21
    · refine g_lconst (pc' := 21) (v := (lN 0)) hC dX0_numberAt_20 (by decide) rfl ?_
      obtain rfl := inj1 h; exact g_lret hC dX0_numberAt_21
set_option maxRecDepth 200000 in
theorem c_X0_letterAt (l : Launch) {E : GE} {rr : Int32} {v0 : Nat} {v1 : Int32} {v2 : Int32} (hv0 : v0 < 6) (h : p_X0_letterAt v0 v1 v2 xl = some rr) : Met l yX0_letterAt (.code yX0_letterAt cX0_letterAt 3 (some .int) :: gU) rm_X0_letterAt (gP E (xws E xk xo xc xt xn xl rc rv rb la wch wcc wpl wun srow ssp sen str stp swd rwp rdr rpd rpv rpc rzp) [.ref (ea E (4 * v0)), .int v1, .int v2]) (gQ E (xws E xk xo xc xt xn xl rc rv rb la wch wcc wpl wun srow ssp sen str stp swd rwp rdr rpd rpv rpc rzp) (some (.int rr))) 0 0 E.2.2.1 := by
  refine met_of (y := yX0_letterAt) (own := RX0) (lo := [some (.ref (ea E (4 * v0))), some (.int v1), some (.int v2)]) (by decide) rfl rfl rfl (fun κ hl hC => ?_)
  subst hl
  unfold p_X0_letterAt at h
  refine g_iload_n (pc' := 1) (i := 1) hC dX0_letterAt_0 rfl rfl rfl ?_
  refine g_if_lt (pc' := 4) (tgt := 21) hC dX0_letterAt_1 (by decide) rfl h (fun h => ?_) (fun h => ?_)
  · refine g_iconst (pc' := 22) (v := (nI 0)) hC dX0_letterAt_21 (by decide) rfl ?_
    obtain rfl := inj1 h; exact g_iret hC dX0_letterAt_22
  · refine g_iload_n (pc' := 5) (i := 1) hC dX0_letterAt_4 rfl rfl rfl ?_
    refine g_sipush (pc' := 8) (v := (nI 200)) hC dX0_letterAt_5 (by decide) rfl ?_
    refine g_icmp_ge (pc' := 11) (tgt := 21) hC dX0_letterAt_8 (by decide) rfl h (fun h => ?_) (fun h => ?_)
    · refine g_iload_n (pc' := 12) (i := 2) hC dX0_letterAt_11 rfl rfl rfl ?_
      refine g_if_lt (pc' := 15) (tgt := 21) hC dX0_letterAt_12 (by decide) rfl h (fun h => ?_) (fun h => ?_)
      · refine g_iconst (pc' := 22) (v := (nI 0)) hC dX0_letterAt_21 (by decide) rfl ?_
        obtain rfl := inj1 h; exact g_iret hC dX0_letterAt_22
      · refine g_iload_n (pc' := 16) (i := 2) hC dX0_letterAt_15 rfl rfl rfl ?_
        refine g_bipush (pc' := 18) (v := (nI 40)) hC dX0_letterAt_16 (by decide) rfl ?_
        refine g_icmp_lt (pc' := 21) (tgt := 23) hC dX0_letterAt_18 (by decide) rfl h (fun h => ?_) (fun h => ?_)
        · refine g_aload_n (pc' := 24) (i := 0) hC dX0_letterAt_23 rfl rfl rfl ?_
          refine gf_X0_19 (pc' := 27) hC hv0 dX0_letterAt_24 rfl ?_
          refine g_iload_n (pc' := 28) (i := 1) hC dX0_letterAt_27 rfl rfl rfl ?_
          refine g_bipush (pc' := 30) (v := (nI 40)) hC dX0_letterAt_28 (by decide) rfl ?_
          refine g_imul (pc' := 31) hC dX0_letterAt_30 rfl ?_
          refine g_iload_n (pc' := 32) (i := 2) hC dX0_letterAt_31 rfl rfl rfl ?_
          refine g_iadd (pc' := 33) hC dX0_letterAt_32 rfl ?_
          obtain ⟨g_1, h⟩ := gd_some h
          refine ld_xl (pc' := 34) hC hv0 g_1 dX0_letterAt_33 rfl ?_
          refine g_sipush (pc' := 37) (v := (nI 255)) hC dX0_letterAt_34 (by decide) rfl ?_
          refine g_iand (pc' := 38) hC dX0_letterAt_37 rfl ?_
          obtain rfl := inj1 h; exact g_iret hC dX0_letterAt_38
        · refine g_iconst (pc' := 22) (v := (nI 0)) hC dX0_letterAt_21 (by decide) rfl ?_
          obtain rfl := inj1 h; exact g_iret hC dX0_letterAt_22
    · refine g_iconst (pc' := 22) (v := (nI 0)) hC dX0_letterAt_21 (by decide) rfl ?_
      obtain rfl := inj1 h; exact g_iret hC dX0_letterAt_22
set_option maxRecDepth 200000 in
theorem w_X0_pushNumber_J68 {κ : GK} {E : GE} {xcz : Nat → Int32} {xtz : Nat → Nat → Int32} {xnz : Nat → Nat → Int64} {v0 : Nat} {s0 : Nat} {s1 : Int32} {s2 : Int32}  (hC : gC κ E cX0_pushNumber RX0 none rm_X0_pushNumber 3) (hv0 : v0 < 6) (hs0 : s0 < 6)  (h : p_X0_pushNumber_J68 v0 s0 s1 s2 xc xt xn = some (xcz, xtz, xnz)) : GG κ E (xws E xk xo xcz xtz xnz xl rc rv rb la wch wcc wpl wun srow ssp sen str stp swd rwp rdr rpd rpv rpc rzp, none) (xws E xk xo xc xt xn xl rc rv rb la wch wcc wpl wun srow ssp sen str stp swd rwp rdr rpd rpv rpc rzp) 68 [some (.ref (ea E (4 * v0))), none, none] [.int s2, .int s1, .ref (ea E (4 * s0 + 2))] := by
  unfold p_X0_pushNumber_J68 at h
  refine g_i2l (pc' := 69) hC dX0_pushNumber_68 rfl ?_
  refine g_goto (tgt := 73) hC dX0_pushNumber_69 (by decide) ?_
  obtain ⟨g_3, h⟩ := gd_some h
  refine st_xn (pc' := 74) hC hs0 g_3 dX0_pushNumber_73 rfl ?_
  refine g_aload_n (pc' := 75) (i := 0) hC dX0_pushNumber_74 rfl rfl rfl ?_
  refine g_dup (pc' := 76) hC dX0_pushNumber_75 rfl rfl ?_
  refine gf_X0_31 (pc' := 79) hC hv0 dX0_pushNumber_76 rfl ?_
  refine g_iconst (pc' := 80) (v := (nI 1)) hC dX0_pushNumber_79 (by decide) rfl ?_
  refine g_iadd (pc' := 81) hC dX0_pushNumber_80 rfl ?_
  refine pf_X0_31 (pc' := 84) hC hv0 dX0_pushNumber_81 rfl ?_
  obtain ⟨rfl, rfl, rfl⟩ := inj3 h; exact g_vret hC dX0_pushNumber_84
set_option maxRecDepth 200000 in
theorem c_X0_pushNumber (l : Launch) {E : GE} {xcz : Nat → Int32} {xtz : Nat → Nat → Int32} {xnz : Nat → Nat → Int64} {v0 : Nat} {v1 : Int64} (hv0 : v0 < 6) (h : p_X0_pushNumber v0 v1 xk xc xt xn = some (xcz, xtz, xnz)) : Met l yX0_pushNumber (.code yX0_pushNumber cX0_pushNumber 3 none :: gU) rm_X0_pushNumber (gP E (xws E xk xo xc xt xn xl rc rv rb la wch wcc wpl wun srow ssp sen str stp swd rwp rdr rpd rpv rpc rzp) [.ref (ea E (4 * v0)), .long v1]) (gQ E (xws E xk xo xcz xtz xnz xl rc rv rb la wch wcc wpl wun srow ssp sen str stp swd rwp rdr rpd rpv rpc rzp) none) 0 0 E.2.2.1 := by
  refine met_of (y := yX0_pushNumber) (own := RX0) (lo := [some (.ref (ea E (4 * v0))), some (.long v1), none]) (by decide) rfl rfl rfl (fun κ hl hC => ?_)
  subst hl
  unfold p_X0_pushNumber at h
  refine g_aload_n (pc' := 1) (i := 0) hC dX0_pushNumber_0 rfl rfl rfl ?_
  refine gf_X0_31 (pc' := 4) hC hv0 dX0_pushNumber_1 rfl ?_
  refine g_if_lt (pc' := 7) (tgt := 17) hC dX0_pushNumber_4 (by decide) rfl h (fun h => ?_) (fun h => ?_)
  · obtain ⟨rfl, rfl, rfl⟩ := inj3 h; exact g_vret hC dX0_pushNumber_17
  · refine g_aload_n (pc' := 8) (i := 0) hC dX0_pushNumber_7 rfl rfl rfl ?_
    refine gf_X0_31 (pc' := 11) hC hv0 dX0_pushNumber_8 rfl ?_
    refine g_sipush (pc' := 14) (v := (nI 200)) hC dX0_pushNumber_11 (by decide) rfl ?_
    refine g_icmp_lt (pc' := 17) (tgt := 18) hC dX0_pushNumber_14 (by decide) rfl h (fun h => ?_) (fun h => ?_)
    · refine g_aload_n (pc' := 19) (i := 0) hC dX0_pushNumber_18 rfl rfl rfl ?_
      refine gf_X0_9 (pc' := 22) hC hv0 dX0_pushNumber_19 rfl ?_
      refine g_aload_n (pc' := 23) (i := 0) hC dX0_pushNumber_22 rfl rfl rfl ?_
      refine gf_X0_31 (pc' := 26) hC hv0 dX0_pushNumber_23 rfl ?_
      refine g_iconst (pc' := 27) (v := (nI 1)) hC dX0_pushNumber_26 (by decide) rfl ?_
      obtain ⟨g_1, h⟩ := gd_some h
      refine st_xt (pc' := 28) hC hv0 (by decide) g_1 dX0_pushNumber_27 rfl ?_
      refine g_aload_n (pc' := 29) (i := 0) hC dX0_pushNumber_28 rfl rfl rfl ?_
      refine gf_X0_15 (pc' := 32) hC hv0 dX0_pushNumber_29 rfl ?_
      refine g_aload_n (pc' := 33) (i := 0) hC dX0_pushNumber_32 rfl rfl rfl ?_
      refine gf_X0_31 (pc' := 36) hC hv0 dX0_pushNumber_33 rfl ?_
      refine g_aload_n (pc' := 37) (i := 0) hC dX0_pushNumber_36 rfl rfl rfl ?_
      refine gf_X0_23 (pc' := 40) hC hv0 dX0_pushNumber_37 rfl ?_
      refine g_if_ne (pc' := 43) (tgt := 49) hC dX0_pushNumber_40 (by decide) rfl h (fun h => ?_) (fun h => ?_)
      · refine g_lload_n (pc' := 44) (i := 1) hC dX0_pushNumber_43 rfl rfl rfl ?_
        refine g_l2i (pc' := 45) hC dX0_pushNumber_44 rfl ?_
        refine g_i2l (pc' := 46) hC dX0_pushNumber_45 rfl ?_
        refine g_goto (tgt := 73) hC dX0_pushNumber_46 (by decide) ?_
        obtain ⟨g_2, h⟩ := gd_some h
        refine st_xn (pc' := 74) hC hv0 g_2 dX0_pushNumber_73 rfl ?_
        refine g_aload_n (pc' := 75) (i := 0) hC dX0_pushNumber_74 rfl rfl rfl ?_
        refine g_dup (pc' := 76) hC dX0_pushNumber_75 rfl rfl ?_
        refine gf_X0_31 (pc' := 79) hC hv0 dX0_pushNumber_76 rfl ?_
        refine g_iconst (pc' := 80) (v := (nI 1)) hC dX0_pushNumber_79 (by decide) rfl ?_
        refine g_iadd (pc' := 81) hC dX0_pushNumber_80 rfl ?_
        refine pf_X0_31 (pc' := 84) hC hv0 dX0_pushNumber_81 rfl ?_
        obtain ⟨rfl, rfl, rfl⟩ := inj3 h; exact g_vret hC dX0_pushNumber_84
      · refine g_aload_n (pc' := 50) (i := 0) hC dX0_pushNumber_49 rfl rfl rfl ?_
        refine gf_X0_23 (pc' := 53) hC hv0 dX0_pushNumber_50 rfl ?_
        refine g_iconst (pc' := 54) (v := (nI 3)) hC dX0_pushNumber_53 (by decide) rfl ?_
        refine g_icmp_ne (pc' := 57) (tgt := 72) hC dX0_pushNumber_54 (by decide) rfl h (fun h => ?_) (fun h => ?_)
        · refine g_lload_n (pc' := 58) (i := 1) hC dX0_pushNumber_57 rfl rfl rfl ?_
          refine g_lconst (pc' := 59) (v := (lN 0)) hC dX0_pushNumber_58 (by decide) rfl ?_
          refine g_lcmp_eq (pc' := 63) (tgt := 67) hC dX0_pushNumber_59 dX0_pushNumber_60 rfl (by decide) rfl h (fun h => ?_) (fun h => ?_)
          · refine g_iconst (pc' := 68) (v := (nI 0)) hC dX0_pushNumber_67 (by decide) rfl ?_
            refine g_weak (lo' := [some (.ref (ea E (4 * v0))), none, none]) rfl ?_
            exact w_X0_pushNumber_J68 hC hv0 hv0  h
          · refine g_iconst (pc' := 64) (v := (nI 1)) hC dX0_pushNumber_63 (by decide) rfl ?_
            refine g_goto (tgt := 68) hC dX0_pushNumber_64 (by decide) ?_
            refine g_weak (lo' := [some (.ref (ea E (4 * v0))), none, none]) rfl ?_
            exact w_X0_pushNumber_J68 hC hv0 hv0  h
        · refine g_lload_n (pc' := 73) (i := 1) hC dX0_pushNumber_72 rfl rfl rfl ?_
          obtain ⟨g_4, h⟩ := gd_some h
          refine st_xn (pc' := 74) hC hv0 g_4 dX0_pushNumber_73 rfl ?_
          refine g_aload_n (pc' := 75) (i := 0) hC dX0_pushNumber_74 rfl rfl rfl ?_
          refine g_dup (pc' := 76) hC dX0_pushNumber_75 rfl rfl ?_
          refine gf_X0_31 (pc' := 79) hC hv0 dX0_pushNumber_76 rfl ?_
          refine g_iconst (pc' := 80) (v := (nI 1)) hC dX0_pushNumber_79 (by decide) rfl ?_
          refine g_iadd (pc' := 81) hC dX0_pushNumber_80 rfl ?_
          refine pf_X0_31 (pc' := 84) hC hv0 dX0_pushNumber_81 rfl ?_
          obtain ⟨rfl, rfl, rfl⟩ := inj3 h; exact g_vret hC dX0_pushNumber_84
    · obtain ⟨rfl, rfl, rfl⟩ := inj3 h; exact g_vret hC dX0_pushNumber_17
set_option maxRecDepth 200000 in
theorem c_X3_get (l : Launch) {E : GE} {rr : Int32} {v0 : Nat} {v1 : Int32} (hv0 : v0 < 4) (h : p_X3_get v0 v1 rc rb = some rr) : Met l yX3_get (.code yX3_get cX3_get 2 (some .int) :: gU) rm_X3_get (gP E (xws E xk xo xc xt xn xl rc rv rb la wch wcc wpl wun srow ssp sen str stp swd rwp rdr rpd rpv rpc rzp) [.ref (ea E (24 + 2 * v0)), .int v1]) (gQ E (xws E xk xo xc xt xn xl rc rv rb la wch wcc wpl wun srow ssp sen str stp swd rwp rdr rpd rpv rpc rzp) (some (.int rr))) 0 0 E.2.2.1 := by
  refine met_of (y := yX3_get) (own := RX3) (lo := [some (.ref (ea E (24 + 2 * v0))), some (.int v1)]) (by decide) rfl rfl rfl (fun κ hl hC => ?_)
  subst hl
  unfold p_X3_get at h
  refine g_iload_n (pc' := 1) (i := 1) hC dX3_get_0 rfl rfl rfl ?_
  refine g_if_lt (pc' := 4) (tgt := 34) hC dX3_get_1 (by decide) rfl h (fun h => ?_) (fun h => ?_)
  · refine g_iconst (pc' := 35) (v := (nI 0)) hC dX3_get_34 (by decide) rfl ?_
    obtain rfl := inj1 h; exact g_iret hC dX3_get_35
  · refine g_iload_n (pc' := 5) (i := 1) hC dX3_get_4 rfl rfl rfl ?_
    refine g_aload_n (pc' := 6) (i := 0) hC dX3_get_5 rfl rfl rfl ?_
    refine gf_X3_15 (pc' := 9) hC hv0 dX3_get_6 rfl ?_
    refine g_icmp_ge (pc' := 12) (tgt := 34) hC dX3_get_9 (by decide) rfl h (fun h => ?_) (fun h => ?_)
    · refine g_iload_n (pc' := 13) (i := 1) hC dX3_get_12 rfl rfl rfl ?_
      refine g_aload_n (pc' := 14) (i := 0) hC dX3_get_13 rfl rfl rfl ?_
      refine gf_X3_9 (pc' := 17) hC hv0 dX3_get_14 rfl ?_
      refine al_rb (pc' := 18) hC hv0 dX3_get_17 rfl ?_
      refine g_icmp_ge (pc' := 21) (tgt := 34) hC dX3_get_18 (by decide) rfl h (fun h => ?_) (fun h => ?_)
      · refine g_aload_n (pc' := 22) (i := 0) hC dX3_get_21 rfl rfl rfl ?_
        refine gf_X3_9 (pc' := 25) hC hv0 dX3_get_22 rfl ?_
        refine g_iload_n (pc' := 26) (i := 1) hC dX3_get_25 rfl rfl rfl ?_
        obtain ⟨g_1, h⟩ := gd_some h
        refine ld_rb (pc' := 27) hC hv0 g_1 dX3_get_26 rfl ?_
        refine g_sipush (pc' := 30) (v := (nI 255)) hC dX3_get_27 (by decide) rfl ?_
        refine g_iand (pc' := 31) hC dX3_get_30 rfl ?_
        refine g_goto (tgt := 35) hC dX3_get_31 (by decide) ?_
        obtain rfl := inj1 h; exact g_iret hC dX3_get_35
      · refine g_iconst (pc' := 35) (v := (nI 0)) hC dX3_get_34 (by decide) rfl ?_
        obtain rfl := inj1 h; exact g_iret hC dX3_get_35
    · refine g_iconst (pc' := 35) (v := (nI 0)) hC dX3_get_34 (by decide) rfl ?_
      obtain rfl := inj1 h; exact g_iret hC dX3_get_35
set_option maxRecDepth 200000 in
theorem w_X0_pushText_L31 {κ : GK} {E : GE} {xcz : Nat → Int32} {xtz : Nat → Nat → Int32} {xnz : Nat → Nat → Int64} {xlz : Nat → Nat → Int32} {v0 : Nat} {v1 : Nat} {v2 : Int32} {v3 : Int32} {k67 : (Nat → Nat → Int32) → Option ((Nat → Int32) × (Nat → Nat → Int32) × (Nat → Nat → Int64) × (Nat → Nat → Int32))} (hC : gC κ E cX0_pushText RX0 none rm_X0_pushText 5) (hv0 : v0 < 6) (hv1 : v1 < 4) (hk67 : ∀ (xl : Nat → Nat → Int32), k67 xl = some (xcz, xtz, xnz, xlz) → GG κ E (xws E xk xo xcz xtz xnz xlz rc rv rb la wch wcc wpl wun srow ssp sen str stp swd rwp rdr rpd rpv rpc rzp, none) (xws E xk xo xc xt xn xl rc rv rb la wch wcc wpl wun srow ssp sen str stp swd rwp rdr rpd rpv rpc rzp) 67 [some (.ref (ea E (4 * v0))), none, none, some (.int v3), none] []) : ∀ (n : Nat) (v4 : Int32) (xl : Nat → Nat → Int32), itr2 (p_X0_pushText_L31 v0 v1 v2 v3 xc rc rb k67) n v4 xl = some (xcz, xtz, xnz, xlz) → GG κ E (xws E xk xo xcz xtz xnz xlz rc rv rb la wch wcc wpl wun srow ssp sen str stp swd rwp rdr rpd rpv rpc rzp, none) (xws E xk xo xc xt xn xl rc rv rb la wch wcc wpl wun srow ssp sen str stp swd rwp rdr rpd rpv rpc rzp) 31 [some (.ref (ea E (4 * v0))), some (.ref (ea E (24 + 2 * v1))), some (.int v2), some (.int v3), some (.int v4)] [] :=
  itr2_ind (fun k31 hk31 v4 xl h => by
    unfold p_X0_pushText_L31 at h
    refine g_iload (pc' := 33) (i := 4) hC dX0_pushText_31 rfl rfl ?_
    refine g_iload_n (pc' := 34) (i := 3) hC dX0_pushText_33 rfl rfl rfl ?_
    refine g_icmp_ge (pc' := 37) (tgt := 67) hC dX0_pushText_34 (by decide) rfl h (fun h => ?_) (fun h => ?_)
    · refine g_aload_n (pc' := 38) (i := 0) hC dX0_pushText_37 rfl rfl rfl ?_
      refine gf_X0_19 (pc' := 41) hC hv0 dX0_pushText_38 rfl ?_
      refine g_aload_n (pc' := 42) (i := 0) hC dX0_pushText_41 rfl rfl rfl ?_
      refine gf_X0_31 (pc' := 45) hC hv0 dX0_pushText_42 rfl ?_
      refine g_bipush (pc' := 47) (v := (nI 40)) hC dX0_pushText_45 (by decide) rfl ?_
      refine g_imul (pc' := 48) hC dX0_pushText_47 rfl ?_
      refine g_iload (pc' := 50) (i := 4) hC dX0_pushText_48 rfl rfl ?_
      refine g_iadd (pc' := 51) hC dX0_pushText_50 rfl ?_
      refine g_aload_n (pc' := 52) (i := 1) hC dX0_pushText_51 rfl rfl rfl ?_
      refine g_iload_n (pc' := 53) (i := 2) hC dX0_pushText_52 rfl rfl rfl ?_
      refine g_iload (pc' := 55) (i := 4) hC dX0_pushText_53 rfl rfl ?_
      refine g_iadd (pc' := 56) hC dX0_pushText_55 rfl ?_
      obtain ⟨a_1, hc_2, h⟩ := bd1_some h
      refine g_callV (pc' := 59) hC (c_X3_get _ hv1 hc_2) ml_X0_34 (rc_Row hv1) (by decide) rfl rfl rfl rfl dX0_pushText_56 rfl ?_
      refine g_i2b (pc' := 60) hC dX0_pushText_59 rfl ?_
      obtain ⟨g_3, h⟩ := gd_some h
      refine st_xlb (pc' := 61) hC hv0 g_3 dX0_pushText_60 rfl ?_
      refine g_iinc (pc' := 64) (i := 4) (x := v4) (k := (nI 1)) (lo' := [some (.ref (ea E (4 * v0))), some (.ref (ea E (24 + 2 * v1))), some (.int v2), some (.int v3), some (.int (v4 + (nI 1)))]) hC dX0_pushText_61 rfl (by decide) rfl rfl rfl rfl ?_
      refine g_goto (tgt := 31) hC dX0_pushText_64 (by decide) ?_
      exact hk31 _ _ h
    · refine g_weak (lo' := [some (.ref (ea E (4 * v0))), none, none, some (.int v3), none]) rfl ?_
      exact hk67 _ h)
set_option maxRecDepth 200000 in
theorem c_X0_pushText (l : Launch) {E : GE} {xcz : Nat → Int32} {xtz : Nat → Nat → Int32} {xnz : Nat → Nat → Int64} {xlz : Nat → Nat → Int32} {v0 : Nat} {v1 : Nat} {v2 : Int32} {v3 : Int32} (hv0 : v0 < 6) (hv1 : v1 < 4) (h : p_X0_pushText v0 v1 v2 v3 xc xt xn xl rc rb = some (xcz, xtz, xnz, xlz)) : Met l yX0_pushText (.code yX0_pushText cX0_pushText 5 none :: gU) rm_X0_pushText (gP E (xws E xk xo xc xt xn xl rc rv rb la wch wcc wpl wun srow ssp sen str stp swd rwp rdr rpd rpv rpc rzp) [.ref (ea E (4 * v0)), .ref (ea E (24 + 2 * v1)), .int v2, .int v3]) (gQ E (xws E xk xo xcz xtz xnz xlz rc rv rb la wch wcc wpl wun srow ssp sen str stp swd rwp rdr rpd rpv rpc rzp) none) 0 0 E.2.2.1 := by
  refine met_of (y := yX0_pushText) (own := RX0) (lo := [some (.ref (ea E (4 * v0))), some (.ref (ea E (24 + 2 * v1))), some (.int v2), some (.int v3), none]) (by decide) rfl rfl rfl (fun κ hl hC => ?_)
  subst hl
  unfold p_X0_pushText at h
  refine g_aload_n (pc' := 1) (i := 0) hC dX0_pushText_0 rfl rfl rfl ?_
  refine gf_X0_31 (pc' := 4) hC hv0 dX0_pushText_1 rfl ?_
  refine g_if_lt (pc' := 7) (tgt := 27) hC dX0_pushText_4 (by decide) rfl h (fun h => ?_) (fun h => ?_)
  · obtain ⟨rfl, rfl, rfl, rfl⟩ := inj4 h; exact g_vret hC dX0_pushText_27
  · refine g_aload_n (pc' := 8) (i := 0) hC dX0_pushText_7 rfl rfl rfl ?_
    refine gf_X0_31 (pc' := 11) hC hv0 dX0_pushText_8 rfl ?_
    refine g_sipush (pc' := 14) (v := (nI 200)) hC dX0_pushText_11 (by decide) rfl ?_
    refine g_icmp_ge (pc' := 17) (tgt := 27) hC dX0_pushText_14 (by decide) rfl h (fun h => ?_) (fun h => ?_)
    · refine g_iload_n (pc' := 18) (i := 3) hC dX0_pushText_17 rfl rfl rfl ?_
      refine g_if_lt (pc' := 21) (tgt := 27) hC dX0_pushText_18 (by decide) rfl h (fun h => ?_) (fun h => ?_)
      · obtain ⟨rfl, rfl, rfl, rfl⟩ := inj4 h; exact g_vret hC dX0_pushText_27
      · refine g_iload_n (pc' := 22) (i := 3) hC dX0_pushText_21 rfl rfl rfl ?_
        refine g_bipush (pc' := 24) (v := (nI 40)) hC dX0_pushText_22 (by decide) rfl ?_
        refine g_icmp_le (pc' := 27) (tgt := 28) hC dX0_pushText_24 (by decide) rfl h (fun h => ?_) (fun h => ?_)
        · obtain ⟨rfl, rfl, rfl, rfl⟩ := inj4 h; exact g_vret hC dX0_pushText_27
        · refine g_iconst (pc' := 29) (v := (nI 0)) hC dX0_pushText_28 (by decide) rfl ?_
          refine g_istore (pc' := 31) (i := 4) (lo' := [some (.ref (ea E (4 * v0))), some (.ref (ea E (24 + 2 * v1))), some (.int v2), some (.int v3), some (.int (nI 0))]) hC dX0_pushText_29 rfl rfl rfl rfl ?_
          refine w_X0_pushText_L31 hC hv0 hv1 ?_ _ _ _ h
          · intro xl_4 h
            refine g_aload_n (pc' := 68) (i := 0) hC dX0_pushText_67 rfl rfl rfl ?_
            refine gf_X0_9 (pc' := 71) hC hv0 dX0_pushText_68 rfl ?_
            refine g_aload_n (pc' := 72) (i := 0) hC dX0_pushText_71 rfl rfl rfl ?_
            refine gf_X0_31 (pc' := 75) hC hv0 dX0_pushText_72 rfl ?_
            refine g_iconst (pc' := 76) (v := (nI 1)) hC dX0_pushText_75 (by decide) rfl ?_
            obtain ⟨g_5, h⟩ := gd_some h
            refine st_xt (pc' := 77) hC hv0 (by decide) g_5 dX0_pushText_76 rfl ?_
            refine g_aload_n (pc' := 78) (i := 0) hC dX0_pushText_77 rfl rfl rfl ?_
            refine gf_X0_15 (pc' := 81) hC hv0 dX0_pushText_78 rfl ?_
            refine g_aload_n (pc' := 82) (i := 0) hC dX0_pushText_81 rfl rfl rfl ?_
            refine gf_X0_31 (pc' := 85) hC hv0 dX0_pushText_82 rfl ?_
            refine g_iload_n (pc' := 86) (i := 3) hC dX0_pushText_85 rfl rfl rfl ?_
            refine g_i2l (pc' := 87) hC dX0_pushText_86 rfl ?_
            obtain ⟨g_6, h⟩ := gd_some h
            refine st_xn (pc' := 88) hC hv0 g_6 dX0_pushText_87 rfl ?_
            refine g_aload_n (pc' := 89) (i := 0) hC dX0_pushText_88 rfl rfl rfl ?_
            refine g_dup (pc' := 90) hC dX0_pushText_89 rfl rfl ?_
            refine gf_X0_31 (pc' := 93) hC hv0 dX0_pushText_90 rfl ?_
            refine g_iconst (pc' := 94) (v := (nI 1)) hC dX0_pushText_93 (by decide) rfl ?_
            refine g_iadd (pc' := 95) hC dX0_pushText_94 rfl ?_
            refine pf_X0_31 (pc' := 98) hC hv0 dX0_pushText_95 rfl ?_
            obtain ⟨rfl, rfl, rfl, rfl⟩ := inj4 h; exact g_vret hC dX0_pushText_98
    · obtain ⟨rfl, rfl, rfl, rfl⟩ := inj4 h; exact g_vret hC dX0_pushText_27
set_option maxRecDepth 200000 in
theorem c_X0_setNone (l : Launch) {E : GE} {xtz : Nat → Nat → Int32} {xnz : Nat → Nat → Int64} {v0 : Nat} {v1 : Int32} (hv0 : v0 < 6) (h : p_X0_setNone v0 v1 xt xn = some (xtz, xnz)) : Met l yX0_setNone (.code yX0_setNone cX0_setNone 2 none :: gU) rm_X0_setNone (gP E (xws E xk xo xc xt xn xl rc rv rb la wch wcc wpl wun srow ssp sen str stp swd rwp rdr rpd rpv rpc rzp) [.ref (ea E (4 * v0)), .int v1]) (gQ E (xws E xk xo xc xtz xnz xl rc rv rb la wch wcc wpl wun srow ssp sen str stp swd rwp rdr rpd rpv rpc rzp) none) 0 0 E.2.2.1 := by
  refine met_of (y := yX0_setNone) (own := RX0) (lo := [some (.ref (ea E (4 * v0))), some (.int v1)]) (by decide) rfl rfl rfl (fun κ hl hC => ?_)
  subst hl
  unfold p_X0_setNone at h
  refine g_iload_n (pc' := 1) (i := 1) hC dX0_setNone_0 rfl rfl rfl ?_
  refine g_if_lt (pc' := 4) (tgt := 25) hC dX0_setNone_1 (by decide) rfl h (fun h => ?_) (fun h => ?_)
  · obtain ⟨rfl, rfl⟩ := inj2 h; exact g_vret hC dX0_setNone_25
  · refine g_iload_n (pc' := 5) (i := 1) hC dX0_setNone_4 rfl rfl rfl ?_
    refine g_sipush (pc' := 8) (v := (nI 200)) hC dX0_setNone_5 (by decide) rfl ?_
    refine g_icmp_ge (pc' := 11) (tgt := 25) hC dX0_setNone_8 (by decide) rfl h (fun h => ?_) (fun h => ?_)
    · refine g_aload_n (pc' := 12) (i := 0) hC dX0_setNone_11 rfl rfl rfl ?_
      refine gf_X0_9 (pc' := 15) hC hv0 dX0_setNone_12 rfl ?_
      refine g_iload_n (pc' := 16) (i := 1) hC dX0_setNone_15 rfl rfl rfl ?_
      refine g_iconst (pc' := 17) (v := (nI 0)) hC dX0_setNone_16 (by decide) rfl ?_
      obtain ⟨g_1, h⟩ := gd_some h
      refine st_xt (pc' := 18) hC hv0 (by decide) g_1 dX0_setNone_17 rfl ?_
      refine g_aload_n (pc' := 19) (i := 0) hC dX0_setNone_18 rfl rfl rfl ?_
      refine gf_X0_15 (pc' := 22) hC hv0 dX0_setNone_19 rfl ?_
      refine g_iload_n (pc' := 23) (i := 1) hC dX0_setNone_22 rfl rfl rfl ?_
      refine g_lconst (pc' := 24) (v := (lN 0)) hC dX0_setNone_23 (by decide) rfl ?_
      obtain ⟨g_2, h⟩ := gd_some h
      refine st_xn (pc' := 25) hC hv0 g_2 dX0_setNone_24 rfl ?_
      obtain ⟨rfl, rfl⟩ := inj2 h; exact g_vret hC dX0_setNone_25
    · obtain ⟨rfl, rfl⟩ := inj2 h; exact g_vret hC dX0_setNone_25
set_option maxRecDepth 200000 in
theorem c_X0_pushNone (l : Launch) {E : GE} {xcz : Nat → Int32} {xtz : Nat → Nat → Int32} {xnz : Nat → Nat → Int64} {v0 : Nat} (hv0 : v0 < 6) (h : p_X0_pushNone v0 xc xt xn = some (xcz, xtz, xnz)) : Met l yX0_pushNone (.code yX0_pushNone cX0_pushNone 1 none :: gU) rm_X0_pushNone (gP E (xws E xk xo xc xt xn xl rc rv rb la wch wcc wpl wun srow ssp sen str stp swd rwp rdr rpd rpv rpc rzp) [.ref (ea E (4 * v0))]) (gQ E (xws E xk xo xcz xtz xnz xl rc rv rb la wch wcc wpl wun srow ssp sen str stp swd rwp rdr rpd rpv rpc rzp) none) 0 0 E.2.2.1 := by
  refine met_of (y := yX0_pushNone) (own := RX0) (lo := [some (.ref (ea E (4 * v0)))]) (by decide) rfl rfl rfl (fun κ hl hC => ?_)
  subst hl
  unfold p_X0_pushNone at h
  refine g_aload_n (pc' := 1) (i := 0) hC dX0_pushNone_0 rfl rfl rfl ?_
  refine gf_X0_31 (pc' := 4) hC hv0 dX0_pushNone_1 rfl ?_
  refine g_if_lt (pc' := 7) (tgt := 17) hC dX0_pushNone_4 (by decide) rfl h (fun h => ?_) (fun h => ?_)
  · obtain ⟨rfl, rfl, rfl⟩ := inj3 h; exact g_vret hC dX0_pushNone_17
  · refine g_aload_n (pc' := 8) (i := 0) hC dX0_pushNone_7 rfl rfl rfl ?_
    refine gf_X0_31 (pc' := 11) hC hv0 dX0_pushNone_8 rfl ?_
    refine g_sipush (pc' := 14) (v := (nI 200)) hC dX0_pushNone_11 (by decide) rfl ?_
    refine g_icmp_lt (pc' := 17) (tgt := 18) hC dX0_pushNone_14 (by decide) rfl h (fun h => ?_) (fun h => ?_)
    · refine g_aload_n (pc' := 19) (i := 0) hC dX0_pushNone_18 rfl rfl rfl ?_
      refine g_aload_n (pc' := 20) (i := 0) hC dX0_pushNone_19 rfl rfl rfl ?_
      refine gf_X0_31 (pc' := 23) hC hv0 dX0_pushNone_20 rfl ?_
      obtain ⟨xt_1, xn_2, hc_3, h⟩ := bd2_some h
      refine g_callV (pc' := 26) hC (c_X0_setNone _ hv0 hc_3) ml_X0_40 (rc_Col hv0) (by decide) rfl rfl rfl rfl dX0_pushNone_23 rfl ?_
      refine g_aload_n (pc' := 27) (i := 0) hC dX0_pushNone_26 rfl rfl rfl ?_
      refine g_dup (pc' := 28) hC dX0_pushNone_27 rfl rfl ?_
      refine gf_X0_31 (pc' := 31) hC hv0 dX0_pushNone_28 rfl ?_
      refine g_iconst (pc' := 32) (v := (nI 1)) hC dX0_pushNone_31 (by decide) rfl ?_
      refine g_iadd (pc' := 33) hC dX0_pushNone_32 rfl ?_
      refine pf_X0_31 (pc' := 36) hC hv0 dX0_pushNone_33 rfl ?_
      obtain ⟨rfl, rfl, rfl⟩ := inj3 h; exact g_vret hC dX0_pushNone_36
    · obtain ⟨rfl, rfl, rfl⟩ := inj3 h; exact g_vret hC dX0_pushNone_17
set_option maxRecDepth 200000 in
theorem w_X0_setCopy_L58 {κ : GK} {E : GE} {xtz : Nat → Nat → Int32} {xnz : Nat → Nat → Int64} {xlz : Nat → Nat → Int32} {v0 : Nat} {v1 : Int32} {v2 : Nat} {v3 : Int32}  (hC : gC κ E cX0_setCopy RX0 none rm_X0_setCopy 5) (hv0 : v0 < 6) (hv2 : v2 < 6)  : ∀ (n : Nat) (v4 : Int32) (xl : Nat → Nat → Int32), itr2 (p_X0_setCopy_L58 v0 v1 v2 v3 xt xn) n v4 xl = some (xtz, xnz, xlz) → GG κ E (xws E xk xo xc xtz xnz xlz rc rv rb la wch wcc wpl wun srow ssp sen str stp swd rwp rdr rpd rpv rpc rzp, none) (xws E xk xo xc xt xn xl rc rv rb la wch wcc wpl wun srow ssp sen str stp swd rwp rdr rpd rpv rpc rzp) 58 [some (.ref (ea E (4 * v0))), some (.int v1), some (.ref (ea E (4 * v2))), some (.int v3), some (.int v4)] [] :=
  itr2_ind (fun k58 hk58 v4 xl h => by
    unfold p_X0_setCopy_L58 at h
    refine g_iload (pc' := 60) (i := 4) hC dX0_setCopy_58 rfl rfl ?_
    refine g_bipush (pc' := 62) (v := (nI 40)) hC dX0_setCopy_60 (by decide) rfl ?_
    refine g_icmp_ge (pc' := 65) (tgt := 108) hC dX0_setCopy_62 (by decide) rfl h (fun h => ?_) (fun h => ?_)
    · refine g_iload (pc' := 67) (i := 4) hC dX0_setCopy_65 rfl rfl ?_
      refine g_i2l (pc' := 68) hC dX0_setCopy_67 rfl ?_
      refine g_aload_n (pc' := 69) (i := 0) hC dX0_setCopy_68 rfl rfl rfl ?_
      refine gf_X0_15 (pc' := 72) hC hv0 dX0_setCopy_69 rfl ?_
      refine g_iload_n (pc' := 73) (i := 1) hC dX0_setCopy_72 rfl rfl rfl ?_
      obtain ⟨g_6, h⟩ := gd_some h
      refine ld_xn (pc' := 74) hC hv0 g_6 dX0_setCopy_73 rfl ?_
      refine g_lcmp_ge (pc' := 78) (tgt := 108) hC dX0_setCopy_74 dX0_setCopy_75 rfl (by decide) rfl h (fun h => ?_) (fun h => ?_)
      · refine g_aload_n (pc' := 79) (i := 0) hC dX0_setCopy_78 rfl rfl rfl ?_
        refine gf_X0_19 (pc' := 82) hC hv0 dX0_setCopy_79 rfl ?_
        refine g_iload_n (pc' := 83) (i := 1) hC dX0_setCopy_82 rfl rfl rfl ?_
        refine g_bipush (pc' := 85) (v := (nI 40)) hC dX0_setCopy_83 (by decide) rfl ?_
        refine g_imul (pc' := 86) hC dX0_setCopy_85 rfl ?_
        refine g_iload (pc' := 88) (i := 4) hC dX0_setCopy_86 rfl rfl ?_
        refine g_iadd (pc' := 89) hC dX0_setCopy_88 rfl ?_
        refine g_aload_n (pc' := 90) (i := 2) hC dX0_setCopy_89 rfl rfl rfl ?_
        refine gf_X0_19 (pc' := 93) hC hv2 dX0_setCopy_90 rfl ?_
        refine g_iload_n (pc' := 94) (i := 3) hC dX0_setCopy_93 rfl rfl rfl ?_
        refine g_bipush (pc' := 96) (v := (nI 40)) hC dX0_setCopy_94 (by decide) rfl ?_
        refine g_imul (pc' := 97) hC dX0_setCopy_96 rfl ?_
        refine g_iload (pc' := 99) (i := 4) hC dX0_setCopy_97 rfl rfl ?_
        refine g_iadd (pc' := 100) hC dX0_setCopy_99 rfl ?_
        obtain ⟨g_7, h⟩ := gd_some h
        refine ld_xl (pc' := 101) hC hv2 g_7 dX0_setCopy_100 rfl ?_
        obtain ⟨g_8, h⟩ := gd_some h
        refine st_xl (pc' := 102) hC hv0 g_8 dX0_setCopy_101 rfl ?_
        refine g_iinc (pc' := 105) (i := 4) (x := v4) (k := (nI 1)) (lo' := [some (.ref (ea E (4 * v0))), some (.int v1), some (.ref (ea E (4 * v2))), some (.int v3), some (.int (v4 + (nI 1)))]) hC dX0_setCopy_102 rfl (by decide) rfl rfl rfl rfl ?_
        refine g_goto (tgt := 58) hC dX0_setCopy_105 (by decide) ?_
        exact hk58 _ _ h
      · obtain ⟨rfl, rfl, rfl⟩ := inj3 h; exact g_vret hC dX0_setCopy_108
    · obtain ⟨rfl, rfl, rfl⟩ := inj3 h; exact g_vret hC dX0_setCopy_108)
set_option maxRecDepth 200000 in
theorem c_X0_setCopy (l : Launch) {E : GE} {xtz : Nat → Nat → Int32} {xnz : Nat → Nat → Int64} {xlz : Nat → Nat → Int32} {v0 : Nat} {v1 : Int32} {v2 : Nat} {v3 : Int32} (hv0 : v0 < 6) (hv2 : v2 < 6) (h : p_X0_setCopy v0 v1 v2 v3 xk xt xn xl = some (xtz, xnz, xlz)) : Met l yX0_setCopy (.code yX0_setCopy cX0_setCopy 5 none :: gU) rm_X0_setCopy (gP E (xws E xk xo xc xt xn xl rc rv rb la wch wcc wpl wun srow ssp sen str stp swd rwp rdr rpd rpv rpc rzp) [.ref (ea E (4 * v0)), .int v1, .ref (ea E (4 * v2)), .int v3]) (gQ E (xws E xk xo xc xtz xnz xlz rc rv rb la wch wcc wpl wun srow ssp sen str stp swd rwp rdr rpd rpv rpc rzp) none) 0 0 E.2.2.1 := by
  refine met_of (y := yX0_setCopy) (own := RX0) (lo := [some (.ref (ea E (4 * v0))), some (.int v1), some (.ref (ea E (4 * v2))), some (.int v3), none]) (by decide) rfl rfl rfl (fun κ hl hC => ?_)
  subst hl
  unfold p_X0_setCopy at h
  refine g_iload_n (pc' := 1) (i := 1) hC dX0_setCopy_0 rfl rfl rfl ?_
  refine g_if_lt (pc' := 4) (tgt := 22) hC dX0_setCopy_1 (by decide) rfl h (fun h => ?_) (fun h => ?_)
  · obtain ⟨rfl, rfl, rfl⟩ := inj3 h; exact g_vret hC dX0_setCopy_22
  · refine g_iload_n (pc' := 5) (i := 1) hC dX0_setCopy_4 rfl rfl rfl ?_
    refine g_sipush (pc' := 8) (v := (nI 200)) hC dX0_setCopy_5 (by decide) rfl ?_
    refine g_icmp_ge (pc' := 11) (tgt := 22) hC dX0_setCopy_8 (by decide) rfl h (fun h => ?_) (fun h => ?_)
    · refine g_iload_n (pc' := 12) (i := 3) hC dX0_setCopy_11 rfl rfl rfl ?_
      refine g_if_lt (pc' := 15) (tgt := 22) hC dX0_setCopy_12 (by decide) rfl h (fun h => ?_) (fun h => ?_)
      · obtain ⟨rfl, rfl, rfl⟩ := inj3 h; exact g_vret hC dX0_setCopy_22
      · refine g_iload_n (pc' := 16) (i := 3) hC dX0_setCopy_15 rfl rfl rfl ?_
        refine g_sipush (pc' := 19) (v := (nI 200)) hC dX0_setCopy_16 (by decide) rfl ?_
        refine g_icmp_lt (pc' := 22) (tgt := 23) hC dX0_setCopy_19 (by decide) rfl h (fun h => ?_) (fun h => ?_)
        · refine g_aload_n (pc' := 24) (i := 0) hC dX0_setCopy_23 rfl rfl rfl ?_
          refine gf_X0_9 (pc' := 27) hC hv0 dX0_setCopy_24 rfl ?_
          refine g_iload_n (pc' := 28) (i := 1) hC dX0_setCopy_27 rfl rfl rfl ?_
          refine g_aload_n (pc' := 29) (i := 2) hC dX0_setCopy_28 rfl rfl rfl ?_
          refine gf_X0_9 (pc' := 32) hC hv2 dX0_setCopy_29 rfl ?_
          refine g_iload_n (pc' := 33) (i := 3) hC dX0_setCopy_32 rfl rfl rfl ?_
          obtain ⟨g_1, h⟩ := gd_some h
          refine ld_xt (pc' := 34) hC hv2 g_1 dX0_setCopy_33 rfl ?_
          obtain ⟨g_2, h⟩ := gd_some h
          obtain ⟨g_3, h⟩ := gd_some h
          refine st_xt (pc' := 35) hC hv0 g_3 g_2 dX0_setCopy_34 rfl ?_
          refine g_aload_n (pc' := 36) (i := 0) hC dX0_setCopy_35 rfl rfl rfl ?_
          refine gf_X0_15 (pc' := 39) hC hv0 dX0_setCopy_36 rfl ?_
          refine g_iload_n (pc' := 40) (i := 1) hC dX0_setCopy_39 rfl rfl rfl ?_
          refine g_aload_n (pc' := 41) (i := 2) hC dX0_setCopy_40 rfl rfl rfl ?_
          refine gf_X0_15 (pc' := 44) hC hv2 dX0_setCopy_41 rfl ?_
          refine g_iload_n (pc' := 45) (i := 3) hC dX0_setCopy_44 rfl rfl rfl ?_
          obtain ⟨g_4, h⟩ := gd_some h
          refine ld_xn (pc' := 46) hC hv2 g_4 dX0_setCopy_45 rfl ?_
          obtain ⟨g_5, h⟩ := gd_some h
          refine st_xn (pc' := 47) hC hv0 g_5 dX0_setCopy_46 rfl ?_
          refine g_aload_n (pc' := 48) (i := 0) hC dX0_setCopy_47 rfl rfl rfl ?_
          refine gf_X0_23 (pc' := 51) hC hv0 dX0_setCopy_48 rfl ?_
          refine g_iconst (pc' := 52) (v := (nI 2)) hC dX0_setCopy_51 (by decide) rfl ?_
          refine g_icmp_ne (pc' := 55) (tgt := 108) hC dX0_setCopy_52 (by decide) rfl h (fun h => ?_) (fun h => ?_)
          · refine g_iconst (pc' := 56) (v := (nI 0)) hC dX0_setCopy_55 (by decide) rfl ?_
            refine g_istore (pc' := 58) (i := 4) (lo' := [some (.ref (ea E (4 * v0))), some (.int v1), some (.ref (ea E (4 * v2))), some (.int v3), some (.int (nI 0))]) hC dX0_setCopy_56 rfl rfl rfl rfl ?_
            refine w_X0_setCopy_L58 hC hv0 hv2  _ _ _ h
          · obtain ⟨rfl, rfl, rfl⟩ := inj3 h; exact g_vret hC dX0_setCopy_108
        · obtain ⟨rfl, rfl, rfl⟩ := inj3 h; exact g_vret hC dX0_setCopy_22
    · obtain ⟨rfl, rfl, rfl⟩ := inj3 h; exact g_vret hC dX0_setCopy_22
set_option maxRecDepth 200000 in
theorem c_X0_pushCopy (l : Launch) {E : GE} {xcz : Nat → Int32} {xtz : Nat → Nat → Int32} {xnz : Nat → Nat → Int64} {xlz : Nat → Nat → Int32} {v0 : Nat} {v1 : Nat} {v2 : Int32} (hv0 : v0 < 6) (hv1 : v1 < 6) (h : p_X0_pushCopy v0 v1 v2 xk xc xt xn xl = some (xcz, xtz, xnz, xlz)) : Met l yX0_pushCopy (.code yX0_pushCopy cX0_pushCopy 3 none :: gU) rm_X0_pushCopy (gP E (xws E xk xo xc xt xn xl rc rv rb la wch wcc wpl wun srow ssp sen str stp swd rwp rdr rpd rpv rpc rzp) [.ref (ea E (4 * v0)), .ref (ea E (4 * v1)), .int v2]) (gQ E (xws E xk xo xcz xtz xnz xlz rc rv rb la wch wcc wpl wun srow ssp sen str stp swd rwp rdr rpd rpv rpc rzp) none) 0 0 E.2.2.1 := by
  refine met_of (y := yX0_pushCopy) (own := RX0) (lo := [some (.ref (ea E (4 * v0))), some (.ref (ea E (4 * v1))), some (.int v2)]) (by decide) rfl rfl rfl (fun κ hl hC => ?_)
  subst hl
  unfold p_X0_pushCopy at h
  refine g_aload_n (pc' := 1) (i := 0) hC dX0_pushCopy_0 rfl rfl rfl ?_
  refine gf_X0_31 (pc' := 4) hC hv0 dX0_pushCopy_1 rfl ?_
  refine g_if_lt (pc' := 7) (tgt := 17) hC dX0_pushCopy_4 (by decide) rfl h (fun h => ?_) (fun h => ?_)
  · obtain ⟨rfl, rfl, rfl, rfl⟩ := inj4 h; exact g_vret hC dX0_pushCopy_17
  · refine g_aload_n (pc' := 8) (i := 0) hC dX0_pushCopy_7 rfl rfl rfl ?_
    refine gf_X0_31 (pc' := 11) hC hv0 dX0_pushCopy_8 rfl ?_
    refine g_sipush (pc' := 14) (v := (nI 200)) hC dX0_pushCopy_11 (by decide) rfl ?_
    refine g_icmp_lt (pc' := 17) (tgt := 18) hC dX0_pushCopy_14 (by decide) rfl h (fun h => ?_) (fun h => ?_)
    · refine g_aload_n (pc' := 19) (i := 0) hC dX0_pushCopy_18 rfl rfl rfl ?_
      refine g_aload_n (pc' := 20) (i := 0) hC dX0_pushCopy_19 rfl rfl rfl ?_
      refine gf_X0_31 (pc' := 23) hC hv0 dX0_pushCopy_20 rfl ?_
      refine g_aload_n (pc' := 24) (i := 1) hC dX0_pushCopy_23 rfl rfl rfl ?_
      refine g_iload_n (pc' := 25) (i := 2) hC dX0_pushCopy_24 rfl rfl rfl ?_
      obtain ⟨xt_1, xn_2, xl_3, hc_4, h⟩ := bd3_some h
      refine g_callV (pc' := 28) hC (c_X0_setCopy _ hv0 hv1 hc_4) ml_X0_44 (rc_Col hv0) (by decide) rfl rfl rfl rfl dX0_pushCopy_25 rfl ?_
      refine g_aload_n (pc' := 29) (i := 0) hC dX0_pushCopy_28 rfl rfl rfl ?_
      refine g_dup (pc' := 30) hC dX0_pushCopy_29 rfl rfl ?_
      refine gf_X0_31 (pc' := 33) hC hv0 dX0_pushCopy_30 rfl ?_
      refine g_iconst (pc' := 34) (v := (nI 1)) hC dX0_pushCopy_33 (by decide) rfl ?_
      refine g_iadd (pc' := 35) hC dX0_pushCopy_34 rfl ?_
      refine pf_X0_31 (pc' := 38) hC hv0 dX0_pushCopy_35 rfl ?_
      obtain ⟨rfl, rfl, rfl, rfl⟩ := inj4 h; exact g_vret hC dX0_pushCopy_38
    · obtain ⟨rfl, rfl, rfl, rfl⟩ := inj4 h; exact g_vret hC dX0_pushCopy_17
set_option maxRecDepth 200000 in
theorem w_X0_multiply_L13 {κ : GK} {E : GE} {xcz : Nat → Int32} {xtz : Nat → Nat → Int32} {xnz : Nat → Nat → Int64} {xlz : Nat → Nat → Int32} {v0 : Nat} {v1 : Int32} {v2 : Int32} {v3 : Int32} {k36 : (Nat → Nat → Int32) → (Nat → Nat → Int64) → (Nat → Nat → Int32) → Option ((Nat → Int32) × (Nat → Nat → Int32) × (Nat → Nat → Int64) × (Nat → Nat → Int32))} (hC : gC κ E cX0_multiply RX0 none rm_X0_multiply 5) (hv0 : v0 < 6) (hk36 : ∀ (xt : Nat → Nat → Int32) (xn : Nat → Nat → Int64) (xl : Nat → Nat → Int32), k36 xt xn xl = some (xcz, xtz, xnz, xlz) → GG κ E (xws E xk xo xcz xtz xnz xlz rc rv rb la wch wcc wpl wun srow ssp sen str stp swd rwp rdr rpd rpv rpc rzp, none) (xws E xk xo xc xt xn xl rc rv rb la wch wcc wpl wun srow ssp sen str stp swd rwp rdr rpd rpv rpc rzp) 36 [some (.ref (ea E (4 * v0))), some (.int v1), some (.int v2), some (.int v3), none] []) : ∀ (n : Nat) (v4 : Int32) (xt : Nat → Nat → Int32) (xn : Nat → Nat → Int64) (xl : Nat → Nat → Int32), itr4 (p_X0_multiply_L13 v0 v2 v3 xk k36) n v4 xt xn xl = some (xcz, xtz, xnz, xlz) → GG κ E (xws E xk xo xcz xtz xnz xlz rc rv rb la wch wcc wpl wun srow ssp sen str stp swd rwp rdr rpd rpv rpc rzp, none) (xws E xk xo xc xt xn xl rc rv rb la wch wcc wpl wun srow ssp sen str stp swd rwp rdr rpd rpv rpc rzp) 13 [some (.ref (ea E (4 * v0))), some (.int v1), some (.int v2), some (.int v3), some (.int v4)] [] :=
  itr4_ind (fun k13 hk13 v4 xt xn xl h => by
    unfold p_X0_multiply_L13 at h
    refine g_iload (pc' := 15) (i := 4) hC dX0_multiply_13 rfl rfl ?_
    refine g_if_lt (pc' := 18) (tgt := 36) hC dX0_multiply_15 (by decide) rfl h (fun h => ?_) (fun h => ?_)
    · refine g_weak (lo' := [some (.ref (ea E (4 * v0))), some (.int v1), some (.int v2), some (.int v3), none]) rfl ?_
      exact hk36 _ _ _ h
    · refine g_aload_n (pc' := 19) (i := 0) hC dX0_multiply_18 rfl rfl rfl ?_
      refine g_iload_n (pc' := 20) (i := 3) hC dX0_multiply_19 rfl rfl rfl ?_
      refine g_iload_n (pc' := 21) (i := 2) hC dX0_multiply_20 rfl rfl rfl ?_
      refine g_imul (pc' := 22) hC dX0_multiply_21 rfl ?_
      refine g_iload (pc' := 24) (i := 4) hC dX0_multiply_22 rfl rfl ?_
      refine g_iadd (pc' := 25) hC dX0_multiply_24 rfl ?_
      refine g_aload_n (pc' := 26) (i := 0) hC dX0_multiply_25 rfl rfl rfl ?_
      refine g_iload_n (pc' := 27) (i := 3) hC dX0_multiply_26 rfl rfl rfl ?_
      obtain ⟨xt_1, xn_2, xl_3, hc_4, h⟩ := bd3_some h
      refine g_callV (pc' := 30) hC (c_X0_setCopy _ hv0 hv0 hc_4) ml_X0_44 (rc_Col hv0) (by decide) rfl rfl rfl rfl dX0_multiply_27 rfl ?_
      refine g_iinc (pc' := 33) (i := 4) (x := v4) (k := (-1 : Int32)) (lo' := [some (.ref (ea E (4 * v0))), some (.int v1), some (.int v2), some (.int v3), some (.int (v4 + (-1 : Int32)))]) hC dX0_multiply_30 rfl (by decide) rfl rfl rfl rfl ?_
      refine g_goto (tgt := 13) hC dX0_multiply_33 (by decide) ?_
      exact hk13 _ _ _ _ h)
set_option maxRecDepth 200000 in
theorem w_X0_multiply_L4 {κ : GK} {E : GE} {xcz : Nat → Int32} {xtz : Nat → Nat → Int32} {xnz : Nat → Nat → Int64} {xlz : Nat → Nat → Int32} {v0 : Nat} {v1 : Int32} {v2 : Int32}  (hC : gC κ E cX0_multiply RX0 none rm_X0_multiply 5) (hv0 : v0 < 6)  : ∀ (n : Nat) (v3 : Int32) (xt : Nat → Nat → Int32) (xn : Nat → Nat → Int64) (xl : Nat → Nat → Int32), itr4 (p_X0_multiply_L4 v0 v1 v2 xk xc) n v3 xt xn xl = some (xcz, xtz, xnz, xlz) → GG κ E (xws E xk xo xcz xtz xnz xlz rc rv rb la wch wcc wpl wun srow ssp sen str stp swd rwp rdr rpd rpv rpc rzp, none) (xws E xk xo xc xt xn xl rc rv rb la wch wcc wpl wun srow ssp sen str stp swd rwp rdr rpd rpv rpc rzp) 4 [some (.ref (ea E (4 * v0))), some (.int v1), some (.int v2), some (.int v3), none] [] :=
  itr4_ind (fun k4 hk4 v3 xt xn xl h => by
    unfold p_X0_multiply_L4 at h
    refine g_iload_n (pc' := 5) (i := 3) hC dX0_multiply_4 rfl rfl rfl ?_
    refine g_if_lt (pc' := 8) (tgt := 42) hC dX0_multiply_5 (by decide) rfl h (fun h => ?_) (fun h => ?_)
    · refine g_aload_n (pc' := 43) (i := 0) hC dX0_multiply_42 rfl rfl rfl ?_
      refine g_iload_n (pc' := 44) (i := 1) hC dX0_multiply_43 rfl rfl rfl ?_
      refine g_iload_n (pc' := 45) (i := 2) hC dX0_multiply_44 rfl rfl rfl ?_
      refine g_imul (pc' := 46) hC dX0_multiply_45 rfl ?_
      refine pf_X0_31 (pc' := 49) hC hv0 dX0_multiply_46 rfl ?_
      obtain ⟨rfl, rfl, rfl, rfl⟩ := inj4 h; exact g_vret hC dX0_multiply_49
    · refine g_iload_n (pc' := 9) (i := 2) hC dX0_multiply_8 rfl rfl rfl ?_
      refine g_iconst (pc' := 10) (v := (nI 1)) hC dX0_multiply_9 (by decide) rfl ?_
      refine g_isub (pc' := 11) hC dX0_multiply_10 rfl ?_
      refine g_istore (pc' := 13) (i := 4) (lo' := [some (.ref (ea E (4 * v0))), some (.int v1), some (.int v2), some (.int v3), some (.int (v2 - (nI 1)))]) hC dX0_multiply_11 rfl rfl rfl rfl ?_
      refine w_X0_multiply_L13 hC hv0 ?_ _ _ _ _ _ h
      · intro xt_5 xn_6 xl_7 h
        refine g_iinc (pc' := 39) (i := 3) (x := v3) (k := (-1 : Int32)) (lo' := [some (.ref (ea E (4 * v0))), some (.int v1), some (.int v2), some (.int (v3 + (-1 : Int32))), none]) hC dX0_multiply_36 rfl (by decide) rfl rfl rfl rfl ?_
        refine g_goto (tgt := 4) hC dX0_multiply_39 (by decide) ?_
        exact hk4 _ _ _ _ h)
set_option maxRecDepth 200000 in
theorem c_X0_multiply (l : Launch) {E : GE} {xcz : Nat → Int32} {xtz : Nat → Nat → Int32} {xnz : Nat → Nat → Int64} {xlz : Nat → Nat → Int32} {v0 : Nat} {v1 : Int32} {v2 : Int32} (hv0 : v0 < 6) (h : p_X0_multiply v0 v1 v2 xk xc xt xn xl = some (xcz, xtz, xnz, xlz)) : Met l yX0_multiply (.code yX0_multiply cX0_multiply 5 none :: gU) rm_X0_multiply (gP E (xws E xk xo xc xt xn xl rc rv rb la wch wcc wpl wun srow ssp sen str stp swd rwp rdr rpd rpv rpc rzp) [.ref (ea E (4 * v0)), .int v1, .int v2]) (gQ E (xws E xk xo xcz xtz xnz xlz rc rv rb la wch wcc wpl wun srow ssp sen str stp swd rwp rdr rpd rpv rpc rzp) none) 0 0 E.2.2.1 := by
  refine met_of (y := yX0_multiply) (own := RX0) (lo := [some (.ref (ea E (4 * v0))), some (.int v1), some (.int v2), none, none]) (by decide) rfl rfl rfl (fun κ hl hC => ?_)
  subst hl
  unfold p_X0_multiply at h
  refine g_iload_n (pc' := 1) (i := 1) hC dX0_multiply_0 rfl rfl rfl ?_
  refine g_iconst (pc' := 2) (v := (nI 1)) hC dX0_multiply_1 (by decide) rfl ?_
  refine g_isub (pc' := 3) hC dX0_multiply_2 rfl ?_
  refine g_istore_n (pc' := 4) (i := 3) (lo' := [some (.ref (ea E (4 * v0))), some (.int v1), some (.int v2), some (.int (v1 - (nI 1))), none]) hC dX0_multiply_3 rfl rfl rfl rfl rfl ?_
  refine w_X0_multiply_L4 hC hv0  _ _ _ _ _ h
set_option maxRecDepth 200000 in
theorem w_X0_spread_L11 {κ : GK} {E : GE} {xcz : Nat → Int32} {xtz : Nat → Nat → Int32} {xnz : Nat → Nat → Int64} {xlz : Nat → Nat → Int32} {v0 : Nat} {v1 : Int32} {v2 : Int32} {v3 : Nat}  (hC : gC κ E cX0_spread RX0 none rm_X0_spread 6) (hv0 : v0 < 6) (hv3 : v3 < 3)  : ∀ (n : Nat) (v4 : Int32) (v5 : Int32) (xt : Nat → Nat → Int32) (xn : Nat → Nat → Int64) (xl : Nat → Nat → Int32), itr5 (p_X0_spread_L11 v0 v1 v2 v3 xk xc la) n v4 v5 xt xn xl = some (xcz, xtz, xnz, xlz) → GG κ E (xws E xk xo xcz xtz xnz xlz rc rv rb la wch wcc wpl wun srow ssp sen str stp swd rwp rdr rpd rpv rpc rzp, none) (xws E xk xo xc xt xn xl rc rv rb la wch wcc wpl wun srow ssp sen str stp swd rwp rdr rpd rpv rpc rzp) 11 [some (.ref (ea E (4 * v0))), some (.int v1), some (.int v2), some (.ref (ea E (32 + v3))), some (.int v4), some (.int v5)] [] :=
  itr5_ind (fun k11 hk11 v4 v5 xt xn xl h => by
    unfold p_X0_spread_L11 at h
    refine g_iload (pc' := 13) (i := 5) hC dX0_spread_11 rfl rfl ?_
    refine g_if_lt (pc' := 16) (tgt := 63) hC dX0_spread_13 (by decide) rfl h (fun h => ?_) (fun h => ?_)
    · refine g_aload_n (pc' := 64) (i := 0) hC dX0_spread_63 rfl rfl rfl ?_
      refine g_iload_n (pc' := 65) (i := 1) hC dX0_spread_64 rfl rfl rfl ?_
      refine g_iload_n (pc' := 66) (i := 2) hC dX0_spread_65 rfl rfl rfl ?_
      refine g_iadd (pc' := 67) hC dX0_spread_66 rfl ?_
      refine g_sipush (pc' := 70) (v := (nI 200)) hC dX0_spread_67 (by decide) rfl ?_
      refine g_imin (pc' := 73) hC math_X0_48 (by decide) dX0_spread_70 rfl rfl ?_
      refine pf_X0_31 (pc' := 76) hC hv0 dX0_spread_73 rfl ?_
      obtain ⟨rfl, rfl, rfl, rfl⟩ := inj4 h; exact g_vret hC dX0_spread_76
    · refine g_iload (pc' := 18) (i := 5) hC dX0_spread_16 rfl rfl ?_
      refine g_aload_n (pc' := 19) (i := 3) hC dX0_spread_18 rfl rfl rfl ?_
      refine al_la (pc' := 20) hC hv3 dX0_spread_19 rfl ?_
      refine g_icmp_ge (pc' := 23) (tgt := 49) hC dX0_spread_20 (by decide) rfl h (fun h => ?_) (fun h => ?_)
      · refine g_aload_n (pc' := 24) (i := 3) hC dX0_spread_23 rfl rfl rfl ?_
        refine g_iload (pc' := 26) (i := 5) hC dX0_spread_24 rfl rfl ?_
        obtain ⟨g_1, h⟩ := gd_some h
        refine ld_la (pc' := 27) hC hv3 g_1 dX0_spread_26 rfl ?_
        refine g_lconst (pc' := 28) (v := (lN 0)) hC dX0_spread_27 (by decide) rfl ?_
        refine g_lcmp_eq (pc' := 32) (tgt := 49) hC dX0_spread_28 dX0_spread_29 rfl (by decide) rfl h (fun h => ?_) (fun h => ?_)
        · refine g_aload_n (pc' := 50) (i := 0) hC dX0_spread_49 rfl rfl rfl ?_
          refine g_iload_n (pc' := 51) (i := 1) hC dX0_spread_50 rfl rfl rfl ?_
          refine g_iload (pc' := 53) (i := 5) hC dX0_spread_51 rfl rfl ?_
          refine g_iadd (pc' := 54) hC dX0_spread_53 rfl ?_
          obtain ⟨xt_2, xn_3, hc_4, h⟩ := bd2_some h
          refine g_callV (pc' := 57) hC (c_X0_setNone _ hv0 hc_4) ml_X0_40 (rc_Col hv0) (by decide) rfl rfl rfl rfl dX0_spread_54 rfl ?_
          refine g_iinc (pc' := 60) (i := 5) (x := v5) (k := (-1 : Int32)) (lo' := [some (.ref (ea E (4 * v0))), some (.int v1), some (.int v2), some (.ref (ea E (32 + v3))), some (.int v4), some (.int (v5 + (-1 : Int32)))]) hC dX0_spread_57 rfl (by decide) rfl rfl rfl rfl ?_
          refine g_goto (tgt := 11) hC dX0_spread_60 (by decide) ?_
          exact hk11 _ _ _ _ _ h
        · refine g_iinc (pc' := 35) (i := 4) (x := v4) (k := (-1 : Int32)) (lo' := [some (.ref (ea E (4 * v0))), some (.int v1), some (.int v2), some (.ref (ea E (32 + v3))), some (.int (v4 + (-1 : Int32))), some (.int v5)]) hC dX0_spread_32 rfl (by decide) rfl rfl rfl rfl ?_
          refine g_aload_n (pc' := 36) (i := 0) hC dX0_spread_35 rfl rfl rfl ?_
          refine g_iload_n (pc' := 37) (i := 1) hC dX0_spread_36 rfl rfl rfl ?_
          refine g_iload (pc' := 39) (i := 5) hC dX0_spread_37 rfl rfl ?_
          refine g_iadd (pc' := 40) hC dX0_spread_39 rfl ?_
          refine g_aload_n (pc' := 41) (i := 0) hC dX0_spread_40 rfl rfl rfl ?_
          refine g_iload (pc' := 43) (i := 4) hC dX0_spread_41 rfl rfl ?_
          obtain ⟨xt_5, xn_6, xl_7, hc_8, h⟩ := bd3_some h
          refine g_callV (pc' := 46) hC (c_X0_setCopy _ hv0 hv0 hc_8) ml_X0_44 (rc_Col hv0) (by decide) rfl rfl rfl rfl dX0_spread_43 rfl ?_
          refine g_goto (tgt := 57) hC dX0_spread_46 (by decide) ?_
          refine g_iinc (pc' := 60) (i := 5) (x := v5) (k := (-1 : Int32)) (lo' := [some (.ref (ea E (4 * v0))), some (.int v1), some (.int v2), some (.ref (ea E (32 + v3))), some (.int (v4 + (-1 : Int32))), some (.int (v5 + (-1 : Int32)))]) hC dX0_spread_57 rfl (by decide) rfl rfl rfl rfl ?_
          refine g_goto (tgt := 11) hC dX0_spread_60 (by decide) ?_
          exact hk11 _ _ _ _ _ h
      · refine g_aload_n (pc' := 50) (i := 0) hC dX0_spread_49 rfl rfl rfl ?_
        refine g_iload_n (pc' := 51) (i := 1) hC dX0_spread_50 rfl rfl rfl ?_
        refine g_iload (pc' := 53) (i := 5) hC dX0_spread_51 rfl rfl ?_
        refine g_iadd (pc' := 54) hC dX0_spread_53 rfl ?_
        obtain ⟨xt_9, xn_10, hc_11, h⟩ := bd2_some h
        refine g_callV (pc' := 57) hC (c_X0_setNone _ hv0 hc_11) ml_X0_40 (rc_Col hv0) (by decide) rfl rfl rfl rfl dX0_spread_54 rfl ?_
        refine g_iinc (pc' := 60) (i := 5) (x := v5) (k := (-1 : Int32)) (lo' := [some (.ref (ea E (4 * v0))), some (.int v1), some (.int v2), some (.ref (ea E (32 + v3))), some (.int v4), some (.int (v5 + (-1 : Int32)))]) hC dX0_spread_57 rfl (by decide) rfl rfl rfl rfl ?_
        refine g_goto (tgt := 11) hC dX0_spread_60 (by decide) ?_
        exact hk11 _ _ _ _ _ h)
set_option maxRecDepth 200000 in
theorem c_X0_spread (l : Launch) {E : GE} {xcz : Nat → Int32} {xtz : Nat → Nat → Int32} {xnz : Nat → Nat → Int64} {xlz : Nat → Nat → Int32} {v0 : Nat} {v1 : Int32} {v2 : Int32} {v3 : Nat} (hv0 : v0 < 6) (hv3 : v3 < 3) (h : p_X0_spread v0 v1 v2 v3 xk xc xt xn xl la = some (xcz, xtz, xnz, xlz)) : Met l yX0_spread (.code yX0_spread cX0_spread 6 none :: gU) rm_X0_spread (gP E (xws E xk xo xc xt xn xl rc rv rb la wch wcc wpl wun srow ssp sen str stp swd rwp rdr rpd rpv rpc rzp) [.ref (ea E (4 * v0)), .int v1, .int v2, .ref (ea E (32 + v3))]) (gQ E (xws E xk xo xcz xtz xnz xlz rc rv rb la wch wcc wpl wun srow ssp sen str stp swd rwp rdr rpd rpv rpc rzp) none) 0 0 E.2.2.1 := by
  refine met_of (y := yX0_spread) (own := RX0) (lo := [some (.ref (ea E (4 * v0))), some (.int v1), some (.int v2), some (.ref (ea E (32 + v3))), none, none]) (by decide) rfl rfl rfl (fun κ hl hC => ?_)
  subst hl
  unfold p_X0_spread at h
  refine g_aload_n (pc' := 1) (i := 0) hC dX0_spread_0 rfl rfl rfl ?_
  refine gf_X0_31 (pc' := 4) hC hv0 dX0_spread_1 rfl ?_
  refine g_istore (pc' := 6) (i := 4) (lo' := [some (.ref (ea E (4 * v0))), some (.int v1), some (.int v2), some (.ref (ea E (32 + v3))), some (.int (xc v0)), none]) hC dX0_spread_4 rfl rfl rfl rfl ?_
  refine g_iload_n (pc' := 7) (i := 2) hC dX0_spread_6 rfl rfl rfl ?_
  refine g_iconst (pc' := 8) (v := (nI 1)) hC dX0_spread_7 (by decide) rfl ?_
  refine g_isub (pc' := 9) hC dX0_spread_8 rfl ?_
  refine g_istore (pc' := 11) (i := 5) (lo' := [some (.ref (ea E (4 * v0))), some (.int v1), some (.int v2), some (.ref (ea E (32 + v3))), some (.int (xc v0)), some (.int (v2 - (nI 1)))]) hC dX0_spread_9 rfl rfl rfl rfl ?_
  refine w_X0_spread_L11 hC hv0 hv3  _ _ _ _ _ _ h
set_option maxRecDepth 200000 in
theorem w_X0_become_L14 {κ : GK} {E : GE} {xkz : Nat → Int32} {xoz : Nat → Int32} {xcz : Nat → Int32} {xtz : Nat → Nat → Int32} {xnz : Nat → Nat → Int64} {xlz : Nat → Nat → Int32} {v0 : Nat} {v1 : Nat}  (hC : gC κ E cX0_become RX0 none rm_X0_become 3) (hv0 : v0 < 6) (hv1 : v1 < 6)  : ∀ (n : Nat) (v2 : Int32) (xc : Nat → Int32) (xt : Nat → Nat → Int32) (xn : Nat → Nat → Int64) (xl : Nat → Nat → Int32), itr5 (p_X0_become_L14 v0 v1 xk xo) n v2 xc xt xn xl = some (xkz, xoz, xcz, xtz, xnz, xlz) → GG κ E (xws E xkz xoz xcz xtz xnz xlz rc rv rb la wch wcc wpl wun srow ssp sen str stp swd rwp rdr rpd rpv rpc rzp, none) (xws E xk xo xc xt xn xl rc rv rb la wch wcc wpl wun srow ssp sen str stp swd rwp rdr rpd rpv rpc rzp) 14 [some (.ref (ea E (4 * v0))), some (.ref (ea E (4 * v1))), some (.int v2)] [] :=
  itr5_ind (fun k14 hk14 v2 xc xt xn xl h => by
    unfold p_X0_become_L14 at h
    refine g_iload_n (pc' := 15) (i := 2) hC dX0_become_14 rfl rfl rfl ?_
    refine g_aload_n (pc' := 16) (i := 1) hC dX0_become_15 rfl rfl rfl ?_
    refine gf_X0_31 (pc' := 19) hC hv1 dX0_become_16 rfl ?_
    refine g_icmp_ge (pc' := 22) (tgt := 34) hC dX0_become_19 (by decide) rfl h (fun h => ?_) (fun h => ?_)
    · refine g_aload_n (pc' := 23) (i := 0) hC dX0_become_22 rfl rfl rfl ?_
      refine g_aload_n (pc' := 24) (i := 1) hC dX0_become_23 rfl rfl rfl ?_
      refine g_iload_n (pc' := 25) (i := 2) hC dX0_become_24 rfl rfl rfl ?_
      obtain ⟨xc_5, xt_6, xn_7, xl_8, hc_9, h⟩ := bd4_some h
      refine g_callV (pc' := 28) hC (c_X0_pushCopy _ hv0 hv1 hc_9) ml_X0_58 (rc_Col hv0) (by decide) rfl rfl rfl rfl dX0_become_25 rfl ?_
      refine g_iinc (pc' := 31) (i := 2) (x := v2) (k := (nI 1)) (lo' := [some (.ref (ea E (4 * v0))), some (.ref (ea E (4 * v1))), some (.int (v2 + (nI 1)))]) hC dX0_become_28 rfl (by decide) rfl rfl rfl rfl ?_
      refine g_goto (tgt := 14) hC dX0_become_31 (by decide) ?_
      exact hk14 _ _ _ _ _ h
    · obtain ⟨rfl, rfl, rfl, rfl, rfl, rfl⟩ := inj6 h; exact g_vret hC dX0_become_34)
set_option maxRecDepth 200000 in
theorem c_X0_become (l : Launch) {E : GE} {xkz : Nat → Int32} {xoz : Nat → Int32} {xcz : Nat → Int32} {xtz : Nat → Nat → Int32} {xnz : Nat → Nat → Int64} {xlz : Nat → Nat → Int32} {v0 : Nat} {v1 : Nat} (hv0 : v0 < 6) (hv1 : v1 < 6) (h : p_X0_become v0 v1 xk xo xc xt xn xl = some (xkz, xoz, xcz, xtz, xnz, xlz)) : Met l yX0_become (.code yX0_become cX0_become 3 none :: gU) rm_X0_become (gP E (xws E xk xo xc xt xn xl rc rv rb la wch wcc wpl wun srow ssp sen str stp swd rwp rdr rpd rpv rpc rzp) [.ref (ea E (4 * v0)), .ref (ea E (4 * v1))]) (gQ E (xws E xkz xoz xcz xtz xnz xlz rc rv rb la wch wcc wpl wun srow ssp sen str stp swd rwp rdr rpd rpv rpc rzp) none) 0 0 E.2.2.1 := by
  refine met_of (y := yX0_become) (own := RX0) (lo := [some (.ref (ea E (4 * v0))), some (.ref (ea E (4 * v1))), none]) (by decide) rfl rfl rfl (fun κ hl hC => ?_)
  subst hl
  unfold p_X0_become at h
  refine g_aload_n (pc' := 1) (i := 0) hC dX0_become_0 rfl rfl rfl ?_
  refine g_aload_n (pc' := 2) (i := 1) hC dX0_become_1 rfl rfl rfl ?_
  refine gf_X0_23 (pc' := 5) hC hv1 dX0_become_2 rfl ?_
  refine g_aload_n (pc' := 6) (i := 1) hC dX0_become_5 rfl rfl rfl ?_
  refine gf_X0_27 (pc' := 9) hC hv1 dX0_become_6 rfl ?_
  obtain ⟨xk_1, xo_2, xc_3, hc_4, h⟩ := bd3_some h
  refine g_callV (pc' := 12) hC (c_X0_begin _ hv0 hc_4) ml_X0_54 (rc_Col hv0) (by decide) rfl rfl rfl rfl dX0_become_9 rfl ?_
  refine g_iconst (pc' := 13) (v := (nI 0)) hC dX0_become_12 (by decide) rfl ?_
  refine g_istore_n (pc' := 14) (i := 2) (lo' := [some (.ref (ea E (4 * v0))), some (.ref (ea E (4 * v1))), some (.int (nI 0))]) hC dX0_become_13 rfl rfl rfl rfl rfl ?_
  refine w_X0_become_L14 hC hv0 hv1  _ _ _ _ _ _ h
set_option maxRecDepth 200000 in
theorem w_X0_isSame_L49 {κ : GK} {E : GE} {rr : Int32} {v0 : Nat} {v1 : Int32} {v2 : Nat} {v3 : Int32} {v4 : Int64}  (hC : gC κ E cX0_isSame RX0 (some .boolean) rm_X0_isSame 7) (hv0 : v0 < 6) (hv2 : v2 < 6)  : ∀ (n : Nat) (v6 : Int32), itr1 (p_X0_isSame_L49 v0 v1 v2 v3 v4 xl) n v6 = some rr → GG κ E (xws E xk xo xc xt xn xl rc rv rb la wch wcc wpl wun srow ssp sen str stp swd rwp rdr rpd rpv rpc rzp, some (.int rr)) (xws E xk xo xc xt xn xl rc rv rb la wch wcc wpl wun srow ssp sen str stp swd rwp rdr rpd rpv rpc rzp) 49 [some (.ref (ea E (4 * v0))), some (.int v1), some (.ref (ea E (4 * v2))), some (.int v3), some (.long v4), none, some (.int v6)] [] :=
  itr1_ind (fun k49 hk49 v6 h => by
    unfold p_X0_isSame_L49 at h
    refine g_iload (pc' := 51) (i := 6) hC dX0_isSame_49 rfl rfl ?_
    refine g_bipush (pc' := 53) (v := (nI 40)) hC dX0_isSame_51 (by decide) rfl ?_
    refine g_icmp_ge (pc' := 56) (tgt := 90) hC dX0_isSame_53 (by decide) rfl h (fun h => ?_) (fun h => ?_)
    · refine g_iload (pc' := 58) (i := 6) hC dX0_isSame_56 rfl rfl ?_
      refine g_i2l (pc' := 59) hC dX0_isSame_58 rfl ?_
      refine g_lload (pc' := 61) (i := 4) hC dX0_isSame_59 rfl rfl ?_
      refine g_lcmp_ge (pc' := 65) (tgt := 90) hC dX0_isSame_61 dX0_isSame_62 rfl (by decide) rfl h (fun h => ?_) (fun h => ?_)
      · refine g_aload_n (pc' := 66) (i := 0) hC dX0_isSame_65 rfl rfl rfl ?_
        refine g_iload_n (pc' := 67) (i := 1) hC dX0_isSame_66 rfl rfl rfl ?_
        refine g_iload (pc' := 69) (i := 6) hC dX0_isSame_67 rfl rfl ?_
        obtain ⟨a_11, hc_12, h⟩ := bd1_some h
        refine g_callV (pc' := 72) hC (c_X0_letterAt _ hv0 hc_12) ml_X0_70 (rc_Col hv0) (by decide) rfl rfl rfl rfl dX0_isSame_69 rfl ?_
        refine g_aload_n (pc' := 73) (i := 2) hC dX0_isSame_72 rfl rfl rfl ?_
        refine g_iload_n (pc' := 74) (i := 3) hC dX0_isSame_73 rfl rfl rfl ?_
        refine g_iload (pc' := 76) (i := 6) hC dX0_isSame_74 rfl rfl ?_
        obtain ⟨a_13, hc_14, h⟩ := bd1_some h
        refine g_callV (pc' := 79) hC (c_X0_letterAt _ hv2 hc_14) ml_X0_70 (rc_Col hv2) (by decide) rfl rfl rfl rfl dX0_isSame_76 rfl ?_
        refine g_icmp_eq (pc' := 82) (tgt := 84) hC dX0_isSame_79 (by decide) rfl h (fun h => ?_) (fun h => ?_)
        · refine g_iinc (pc' := 87) (i := 6) (x := v6) (k := (nI 1)) (lo' := [some (.ref (ea E (4 * v0))), some (.int v1), some (.ref (ea E (4 * v2))), some (.int v3), some (.long v4), none, some (.int (v6 + (nI 1)))]) hC dX0_isSame_84 rfl (by decide) rfl rfl rfl rfl ?_
          refine g_goto (tgt := 49) hC dX0_isSame_87 (by decide) ?_
          exact hk49 _ h
        · refine g_iconst (pc' := 83) (v := (nI 0)) hC dX0_isSame_82 (by decide) rfl ?_
          obtain rfl := inj1 h; exact g_zret hC (by decide) dX0_isSame_83
      · refine g_iconst (pc' := 91) (v := (nI 1)) hC dX0_isSame_90 (by decide) rfl ?_
        obtain rfl := inj1 h; exact g_zret hC (by decide) dX0_isSame_91
    · refine g_iconst (pc' := 91) (v := (nI 1)) hC dX0_isSame_90 (by decide) rfl ?_
      obtain rfl := inj1 h; exact g_zret hC (by decide) dX0_isSame_91)
set_option maxRecDepth 200000 in
theorem c_X0_isSame (l : Launch) {E : GE} {rr : Int32} {v0 : Nat} {v1 : Int32} {v2 : Nat} {v3 : Int32} (hv0 : v0 < 6) (hv2 : v2 < 6) (h : p_X0_isSame v0 v1 v2 v3 xk xt xn xl = some rr) : Met l yX0_isSame (.code yX0_isSame cX0_isSame 7 (some .boolean) :: gU) rm_X0_isSame (gP E (xws E xk xo xc xt xn xl rc rv rb la wch wcc wpl wun srow ssp sen str stp swd rwp rdr rpd rpv rpc rzp) [.ref (ea E (4 * v0)), .int v1, .ref (ea E (4 * v2)), .int v3]) (gQ E (xws E xk xo xc xt xn xl rc rv rb la wch wcc wpl wun srow ssp sen str stp swd rwp rdr rpd rpv rpc rzp) (some (.int rr))) 0 0 E.2.2.1 := by
  refine met_of (y := yX0_isSame) (own := RX0) (lo := [some (.ref (ea E (4 * v0))), some (.int v1), some (.ref (ea E (4 * v2))), some (.int v3), none, none, none]) (by decide) rfl rfl rfl (fun κ hl hC => ?_)
  subst hl
  unfold p_X0_isSame at h
  refine g_aload_n (pc' := 1) (i := 0) hC dX0_isSame_0 rfl rfl rfl ?_
  refine g_iload_n (pc' := 2) (i := 1) hC dX0_isSame_1 rfl rfl rfl ?_
  obtain ⟨a_1, hc_2, h⟩ := bd1_some h
  refine g_callV (pc' := 5) hC (c_X0_isThere _ hv0 hc_2) ml_X0_62 (rc_Col hv0) (by decide) rfl rfl rfl rfl dX0_isSame_2 rfl ?_
  refine g_aload_n (pc' := 6) (i := 2) hC dX0_isSame_5 rfl rfl rfl ?_
  refine g_iload_n (pc' := 7) (i := 3) hC dX0_isSame_6 rfl rfl rfl ?_
  obtain ⟨a_3, hc_4, h⟩ := bd1_some h
  refine g_callV (pc' := 10) hC (c_X0_isThere _ hv2 hc_4) ml_X0_62 (rc_Col hv2) (by decide) rfl rfl rfl rfl dX0_isSame_7 rfl ?_
  refine g_icmp_ne (pc' := 13) (tgt := 27) hC dX0_isSame_10 (by decide) rfl h (fun h => ?_) (fun h => ?_)
  · refine g_aload_n (pc' := 14) (i := 0) hC dX0_isSame_13 rfl rfl rfl ?_
    refine g_iload_n (pc' := 15) (i := 1) hC dX0_isSame_14 rfl rfl rfl ?_
    obtain ⟨a_5, hc_6, h⟩ := bd1_some h
    refine g_callV (pc' := 18) hC (c_X0_numberAt _ hv0 hc_6) ml_X0_66 (rc_Col hv0) (by decide) rfl rfl rfl rfl dX0_isSame_15 rfl ?_
    refine g_aload_n (pc' := 19) (i := 2) hC dX0_isSame_18 rfl rfl rfl ?_
    refine g_iload_n (pc' := 20) (i := 3) hC dX0_isSame_19 rfl rfl rfl ?_
    obtain ⟨a_7, hc_8, h⟩ := bd1_some h
    refine g_callV (pc' := 23) hC (c_X0_numberAt _ hv2 hc_8) ml_X0_66 (rc_Col hv2) (by decide) rfl rfl rfl rfl dX0_isSame_20 rfl ?_
    refine g_lcmp_eq (pc' := 27) (tgt := 29) hC dX0_isSame_23 dX0_isSame_24 rfl (by decide) rfl h (fun h => ?_) (fun h => ?_)
    · refine g_aload_n (pc' := 30) (i := 0) hC dX0_isSame_29 rfl rfl rfl ?_
      refine gf_X0_23 (pc' := 33) hC hv0 dX0_isSame_30 rfl ?_
      refine g_iconst (pc' := 34) (v := (nI 2)) hC dX0_isSame_33 (by decide) rfl ?_
      refine g_icmp_eq (pc' := 37) (tgt := 39) hC dX0_isSame_34 (by decide) rfl h (fun h => ?_) (fun h => ?_)
      · refine g_aload_n (pc' := 40) (i := 0) hC dX0_isSame_39 rfl rfl rfl ?_
        refine g_iload_n (pc' := 41) (i := 1) hC dX0_isSame_40 rfl rfl rfl ?_
        obtain ⟨a_9, hc_10, h⟩ := bd1_some h
        refine g_callV (pc' := 44) hC (c_X0_numberAt _ hv0 hc_10) ml_X0_66 (rc_Col hv0) (by decide) rfl rfl rfl rfl dX0_isSame_41 rfl ?_
        refine g_lstore (pc' := 46) (i := 4) (lo' := [some (.ref (ea E (4 * v0))), some (.int v1), some (.ref (ea E (4 * v2))), some (.int v3), some (.long a_9), none, none]) hC dX0_isSame_44 rfl rfl rfl rfl ?_
        refine g_iconst (pc' := 47) (v := (nI 0)) hC dX0_isSame_46 (by decide) rfl ?_
        refine g_istore (pc' := 49) (i := 6) (lo' := [some (.ref (ea E (4 * v0))), some (.int v1), some (.ref (ea E (4 * v2))), some (.int v3), some (.long a_9), none, some (.int (nI 0))]) hC dX0_isSame_47 rfl rfl rfl rfl ?_
        refine w_X0_isSame_L49 hC hv0 hv2  _ _ h
      · refine g_iconst (pc' := 38) (v := (nI 1)) hC dX0_isSame_37 (by decide) rfl ?_
        obtain rfl := inj1 h; exact g_zret hC (by decide) dX0_isSame_38
    · refine g_iconst (pc' := 28) (v := (nI 0)) hC dX0_isSame_27 (by decide) rfl ?_
      obtain rfl := inj1 h; exact g_zret hC (by decide) dX0_isSame_28
  · refine g_iconst (pc' := 28) (v := (nI 0)) hC dX0_isSame_27 (by decide) rfl ?_
    obtain rfl := inj1 h; exact g_zret hC (by decide) dX0_isSame_28
set_option maxRecDepth 200000 in
theorem w_X0_isLike_L26 {κ : GK} {E : GE} {rr : Int32} {v0 : Nat} {v1 : Nat}  (hC : gC κ E cX0_isLike RX0 (some .boolean) rm_X0_isLike 3) (hv0 : v0 < 6) (hv1 : v1 < 6)  : ∀ (n : Nat) (v2 : Int32), itr1 (p_X0_isLike_L26 v0 v1 xk xc xt xn xl) n v2 = some rr → GG κ E (xws E xk xo xc xt xn xl rc rv rb la wch wcc wpl wun srow ssp sen str stp swd rwp rdr rpd rpv rpc rzp, some (.int rr)) (xws E xk xo xc xt xn xl rc rv rb la wch wcc wpl wun srow ssp sen str stp swd rwp rdr rpd rpv rpc rzp) 26 [some (.ref (ea E (4 * v0))), some (.ref (ea E (4 * v1))), some (.int v2)] [] :=
  itr1_ind (fun k26 hk26 v2 h => by
    unfold p_X0_isLike_L26 at h
    refine g_iload_n (pc' := 27) (i := 2) hC dX0_isLike_26 rfl rfl rfl ?_
    refine g_aload_n (pc' := 28) (i := 0) hC dX0_isLike_27 rfl rfl rfl ?_
    refine gf_X0_31 (pc' := 31) hC hv0 dX0_isLike_28 rfl ?_
    refine g_icmp_ge (pc' := 34) (tgt := 52) hC dX0_isLike_31 (by decide) rfl h (fun h => ?_) (fun h => ?_)
    · refine g_aload_n (pc' := 35) (i := 0) hC dX0_isLike_34 rfl rfl rfl ?_
      refine g_iload_n (pc' := 36) (i := 2) hC dX0_isLike_35 rfl rfl rfl ?_
      refine g_aload_n (pc' := 37) (i := 1) hC dX0_isLike_36 rfl rfl rfl ?_
      refine g_iload_n (pc' := 38) (i := 2) hC dX0_isLike_37 rfl rfl rfl ?_
      obtain ⟨a_1, hc_2, h⟩ := bd1_some h
      refine g_callV (pc' := 41) hC (c_X0_isSame _ hv0 hv1 hc_2) ml_X0_73 (rc_Col hv0) (by decide) rfl rfl rfl rfl dX0_isLike_38 rfl ?_
      refine g_if_ne (pc' := 44) (tgt := 46) hC dX0_isLike_41 (by decide) rfl h (fun h => ?_) (fun h => ?_)
      · refine g_iconst (pc' := 45) (v := (nI 0)) hC dX0_isLike_44 (by decide) rfl ?_
        obtain rfl := inj1 h; exact g_zret hC (by decide) dX0_isLike_45
      · refine g_iinc (pc' := 49) (i := 2) (x := v2) (k := (nI 1)) (lo' := [some (.ref (ea E (4 * v0))), some (.ref (ea E (4 * v1))), some (.int (v2 + (nI 1)))]) hC dX0_isLike_46 rfl (by decide) rfl rfl rfl rfl ?_
        refine g_goto (tgt := 26) hC dX0_isLike_49 (by decide) ?_
        exact hk26 _ h
    · refine g_iconst (pc' := 53) (v := (nI 1)) hC dX0_isLike_52 (by decide) rfl ?_
      obtain rfl := inj1 h; exact g_zret hC (by decide) dX0_isLike_53)
set_option maxRecDepth 200000 in
theorem c_X0_isLike (l : Launch) {E : GE} {rr : Int32} {v0 : Nat} {v1 : Nat} (hv0 : v0 < 6) (hv1 : v1 < 6) (h : p_X0_isLike v0 v1 xk xc xt xn xl = some rr) : Met l yX0_isLike (.code yX0_isLike cX0_isLike 3 (some .boolean) :: gU) rm_X0_isLike (gP E (xws E xk xo xc xt xn xl rc rv rb la wch wcc wpl wun srow ssp sen str stp swd rwp rdr rpd rpv rpc rzp) [.ref (ea E (4 * v0)), .ref (ea E (4 * v1))]) (gQ E (xws E xk xo xc xt xn xl rc rv rb la wch wcc wpl wun srow ssp sen str stp swd rwp rdr rpd rpv rpc rzp) (some (.int rr))) 0 0 E.2.2.1 := by
  refine met_of (y := yX0_isLike) (own := RX0) (lo := [some (.ref (ea E (4 * v0))), some (.ref (ea E (4 * v1))), none]) (by decide) rfl rfl rfl (fun κ hl hC => ?_)
  subst hl
  unfold p_X0_isLike at h
  refine g_aload_n (pc' := 1) (i := 0) hC dX0_isLike_0 rfl rfl rfl ?_
  refine gf_X0_23 (pc' := 4) hC hv0 dX0_isLike_1 rfl ?_
  refine g_aload_n (pc' := 5) (i := 1) hC dX0_isLike_4 rfl rfl rfl ?_
  refine gf_X0_23 (pc' := 8) hC hv1 dX0_isLike_5 rfl ?_
  refine g_icmp_ne (pc' := 11) (tgt := 22) hC dX0_isLike_8 (by decide) rfl h (fun h => ?_) (fun h => ?_)
  · refine g_aload_n (pc' := 12) (i := 0) hC dX0_isLike_11 rfl rfl rfl ?_
    refine gf_X0_31 (pc' := 15) hC hv0 dX0_isLike_12 rfl ?_
    refine g_aload_n (pc' := 16) (i := 1) hC dX0_isLike_15 rfl rfl rfl ?_
    refine gf_X0_31 (pc' := 19) hC hv1 dX0_isLike_16 rfl ?_
    refine g_icmp_eq (pc' := 22) (tgt := 24) hC dX0_isLike_19 (by decide) rfl h (fun h => ?_) (fun h => ?_)
    · refine g_iconst (pc' := 25) (v := (nI 0)) hC dX0_isLike_24 (by decide) rfl ?_
      refine g_istore_n (pc' := 26) (i := 2) (lo' := [some (.ref (ea E (4 * v0))), some (.ref (ea E (4 * v1))), some (.int (nI 0))]) hC dX0_isLike_25 rfl rfl rfl rfl rfl ?_
      refine w_X0_isLike_L26 hC hv0 hv1  _ _ h
    · refine g_iconst (pc' := 23) (v := (nI 0)) hC dX0_isLike_22 (by decide) rfl ?_
      obtain rfl := inj1 h; exact g_zret hC (by decide) dX0_isLike_23
  · refine g_iconst (pc' := 23) (v := (nI 0)) hC dX0_isLike_22 (by decide) rfl ?_
    obtain rfl := inj1 h; exact g_zret hC (by decide) dX0_isLike_23
set_option maxRecDepth 200000 in
theorem w_X0_firstLike_L2 {κ : GK} {E : GE} {rr : Int32} {v0 : Nat} {v1 : Int32}  (hC : gC κ E cX0_firstLike RX0 (some .int) rm_X0_firstLike 3) (hv0 : v0 < 6)  : ∀ (n : Nat) (v2 : Int32), itr1 (p_X0_firstLike_L2 v0 v1 xk xt xn xl) n v2 = some rr → GG κ E (xws E xk xo xc xt xn xl rc rv rb la wch wcc wpl wun srow ssp sen str stp swd rwp rdr rpd rpv rpc rzp, some (.int rr)) (xws E xk xo xc xt xn xl rc rv rb la wch wcc wpl wun srow ssp sen str stp swd rwp rdr rpd rpv rpc rzp) 2 [some (.ref (ea E (4 * v0))), some (.int v1), some (.int v2)] [] :=
  itr1_ind (fun k2 hk2 v2 h => by
    unfold p_X0_firstLike_L2 at h
    refine g_iload_n (pc' := 3) (i := 2) hC dX0_firstLike_2 rfl rfl rfl ?_
    refine g_iload_n (pc' := 4) (i := 1) hC dX0_firstLike_3 rfl rfl rfl ?_
    refine g_icmp_ge (pc' := 7) (tgt := 25) hC dX0_firstLike_4 (by decide) rfl h (fun h => ?_) (fun h => ?_)
    · refine g_aload_n (pc' := 8) (i := 0) hC dX0_firstLike_7 rfl rfl rfl ?_
      refine g_iload_n (pc' := 9) (i := 2) hC dX0_firstLike_8 rfl rfl rfl ?_
      refine g_aload_n (pc' := 10) (i := 0) hC dX0_firstLike_9 rfl rfl rfl ?_
      refine g_iload_n (pc' := 11) (i := 1) hC dX0_firstLike_10 rfl rfl rfl ?_
      obtain ⟨a_1, hc_2, h⟩ := bd1_some h
      refine g_callV (pc' := 14) hC (c_X0_isSame _ hv0 hv0 hc_2) ml_X0_73 (rc_Col hv0) (by decide) rfl rfl rfl rfl dX0_firstLike_11 rfl ?_
      refine g_if_eq (pc' := 17) (tgt := 19) hC dX0_firstLike_14 (by decide) rfl h (fun h => ?_) (fun h => ?_)
      · refine g_iinc (pc' := 22) (i := 2) (x := v2) (k := (nI 1)) (lo' := [some (.ref (ea E (4 * v0))), some (.int v1), some (.int (v2 + (nI 1)))]) hC dX0_firstLike_19 rfl (by decide) rfl rfl rfl rfl ?_
        refine g_goto (tgt := 2) hC dX0_firstLike_22 (by decide) ?_
        exact hk2 _ h
      · refine g_iload_n (pc' := 18) (i := 2) hC dX0_firstLike_17 rfl rfl rfl ?_
        obtain rfl := inj1 h; exact g_iret hC dX0_firstLike_18
    · refine g_iload_n (pc' := 26) (i := 1) hC dX0_firstLike_25 rfl rfl rfl ?_
      obtain rfl := inj1 h; exact g_iret hC dX0_firstLike_26)
set_option maxRecDepth 200000 in
theorem c_X0_firstLike (l : Launch) {E : GE} {rr : Int32} {v0 : Nat} {v1 : Int32} (hv0 : v0 < 6) (h : p_X0_firstLike v0 v1 xk xt xn xl = some rr) : Met l yX0_firstLike (.code yX0_firstLike cX0_firstLike 3 (some .int) :: gU) rm_X0_firstLike (gP E (xws E xk xo xc xt xn xl rc rv rb la wch wcc wpl wun srow ssp sen str stp swd rwp rdr rpd rpv rpc rzp) [.ref (ea E (4 * v0)), .int v1]) (gQ E (xws E xk xo xc xt xn xl rc rv rb la wch wcc wpl wun srow ssp sen str stp swd rwp rdr rpd rpv rpc rzp) (some (.int rr))) 0 0 E.2.2.1 := by
  refine met_of (y := yX0_firstLike) (own := RX0) (lo := [some (.ref (ea E (4 * v0))), some (.int v1), none]) (by decide) rfl rfl rfl (fun κ hl hC => ?_)
  subst hl
  unfold p_X0_firstLike at h
  refine g_iconst (pc' := 1) (v := (nI 0)) hC dX0_firstLike_0 (by decide) rfl ?_
  refine g_istore_n (pc' := 2) (i := 2) (lo' := [some (.ref (ea E (4 * v0))), some (.int v1), some (.int (nI 0))]) hC dX0_firstLike_1 rfl rfl rfl rfl rfl ?_
  refine w_X0_firstLike_L2 hC hv0  _ _ h
set_option maxRecDepth 200000 in
theorem w_X0_countAbsent_L4 {κ : GK} {E : GE} {rr : Int32} {v0 : Nat}  (hC : gC κ E cX0_countAbsent RX0 (some .int) rm_X0_countAbsent 3) (hv0 : v0 < 6)  : ∀ (n : Nat) (v1 : Int32) (v2 : Int32), itr2 (p_X0_countAbsent_L4 v0 xc xt) n v1 v2 = some rr → GG κ E (xws E xk xo xc xt xn xl rc rv rb la wch wcc wpl wun srow ssp sen str stp swd rwp rdr rpd rpv rpc rzp, some (.int rr)) (xws E xk xo xc xt xn xl rc rv rb la wch wcc wpl wun srow ssp sen str stp swd rwp rdr rpd rpv rpc rzp) 4 [some (.ref (ea E (4 * v0))), some (.int v1), some (.int v2)] [] :=
  itr2_ind (fun k4 hk4 v1 v2 h => by
    unfold p_X0_countAbsent_L4 at h
    refine g_iload_n (pc' := 5) (i := 2) hC dX0_countAbsent_4 rfl rfl rfl ?_
    refine g_aload_n (pc' := 6) (i := 0) hC dX0_countAbsent_5 rfl rfl rfl ?_
    refine gf_X0_31 (pc' := 9) hC hv0 dX0_countAbsent_6 rfl ?_
    refine g_icmp_ge (pc' := 12) (tgt := 34) hC dX0_countAbsent_9 (by decide) rfl h (fun h => ?_) (fun h => ?_)
    · refine g_iload_n (pc' := 13) (i := 1) hC dX0_countAbsent_12 rfl rfl rfl ?_
      refine g_aload_n (pc' := 14) (i := 0) hC dX0_countAbsent_13 rfl rfl rfl ?_
      refine g_iload_n (pc' := 15) (i := 2) hC dX0_countAbsent_14 rfl rfl rfl ?_
      obtain ⟨a_1, hc_2, h⟩ := bd1_some h
      refine g_callV (pc' := 18) hC (c_X0_isThere _ hv0 hc_2) ml_X0_62 (rc_Col hv0) (by decide) rfl rfl rfl rfl dX0_countAbsent_15 rfl ?_
      refine g_if_eq (pc' := 21) (tgt := 25) hC dX0_countAbsent_18 (by decide) rfl h (fun h => ?_) (fun h => ?_)
      · refine g_iconst (pc' := 26) (v := (nI 1)) hC dX0_countAbsent_25 (by decide) rfl ?_
        refine g_iadd (pc' := 27) hC dX0_countAbsent_26 rfl ?_
        refine g_istore_n (pc' := 28) (i := 1) (lo' := [some (.ref (ea E (4 * v0))), some (.int (v1 + (nI 1))), some (.int v2)]) hC dX0_countAbsent_27 rfl rfl rfl rfl rfl ?_
        refine g_iinc (pc' := 31) (i := 2) (x := v2) (k := (nI 1)) (lo' := [some (.ref (ea E (4 * v0))), some (.int (v1 + (nI 1))), some (.int (v2 + (nI 1)))]) hC dX0_countAbsent_28 rfl (by decide) rfl rfl rfl rfl ?_
        refine g_goto (tgt := 4) hC dX0_countAbsent_31 (by decide) ?_
        exact hk4 _ _ h
      · refine g_iconst (pc' := 22) (v := (nI 0)) hC dX0_countAbsent_21 (by decide) rfl ?_
        refine g_goto (tgt := 26) hC dX0_countAbsent_22 (by decide) ?_
        refine g_iadd (pc' := 27) hC dX0_countAbsent_26 rfl ?_
        refine g_istore_n (pc' := 28) (i := 1) (lo' := [some (.ref (ea E (4 * v0))), some (.int (v1 + (nI 0))), some (.int v2)]) hC dX0_countAbsent_27 rfl rfl rfl rfl rfl ?_
        refine g_iinc (pc' := 31) (i := 2) (x := v2) (k := (nI 1)) (lo' := [some (.ref (ea E (4 * v0))), some (.int (v1 + (nI 0))), some (.int (v2 + (nI 1)))]) hC dX0_countAbsent_28 rfl (by decide) rfl rfl rfl rfl ?_
        refine g_goto (tgt := 4) hC dX0_countAbsent_31 (by decide) ?_
        exact hk4 _ _ h
    · refine g_iload_n (pc' := 35) (i := 1) hC dX0_countAbsent_34 rfl rfl rfl ?_
      obtain rfl := inj1 h; exact g_iret hC dX0_countAbsent_35)
set_option maxRecDepth 200000 in
theorem c_X0_countAbsent (l : Launch) {E : GE} {rr : Int32} {v0 : Nat} (hv0 : v0 < 6) (h : p_X0_countAbsent v0 xc xt = some rr) : Met l yX0_countAbsent (.code yX0_countAbsent cX0_countAbsent 3 (some .int) :: gU) rm_X0_countAbsent (gP E (xws E xk xo xc xt xn xl rc rv rb la wch wcc wpl wun srow ssp sen str stp swd rwp rdr rpd rpv rpc rzp) [.ref (ea E (4 * v0))]) (gQ E (xws E xk xo xc xt xn xl rc rv rb la wch wcc wpl wun srow ssp sen str stp swd rwp rdr rpd rpv rpc rzp) (some (.int rr))) 0 0 E.2.2.1 := by
  refine met_of (y := yX0_countAbsent) (own := RX0) (lo := [some (.ref (ea E (4 * v0))), none, none]) (by decide) rfl rfl rfl (fun κ hl hC => ?_)
  subst hl
  unfold p_X0_countAbsent at h
  refine g_iconst (pc' := 1) (v := (nI 0)) hC dX0_countAbsent_0 (by decide) rfl ?_
  refine g_istore_n (pc' := 2) (i := 1) (lo' := [some (.ref (ea E (4 * v0))), some (.int (nI 0)), none]) hC dX0_countAbsent_1 rfl rfl rfl rfl rfl ?_
  refine g_iconst (pc' := 3) (v := (nI 0)) hC dX0_countAbsent_2 (by decide) rfl ?_
  refine g_istore_n (pc' := 4) (i := 2) (lo' := [some (.ref (ea E (4 * v0))), some (.int (nI 0)), some (.int (nI 0))]) hC dX0_countAbsent_3 rfl rfl rfl rfl rfl ?_
  refine w_X0_countAbsent_L4 hC hv0  _ _ _ h
set_option maxRecDepth 200000 in
theorem w_X0_countUnlike_L4 {κ : GK} {E : GE} {rr : Int32} {v0 : Nat}  (hC : gC κ E cX0_countUnlike RX0 (some .int) rm_X0_countUnlike 3) (hv0 : v0 < 6)  : ∀ (n : Nat) (v1 : Int32) (v2 : Int32), itr2 (p_X0_countUnlike_L4 v0 xk xc xt xn xl) n v1 v2 = some rr → GG κ E (xws E xk xo xc xt xn xl rc rv rb la wch wcc wpl wun srow ssp sen str stp swd rwp rdr rpd rpv rpc rzp, some (.int rr)) (xws E xk xo xc xt xn xl rc rv rb la wch wcc wpl wun srow ssp sen str stp swd rwp rdr rpd rpv rpc rzp) 4 [some (.ref (ea E (4 * v0))), some (.int v1), some (.int v2)] [] :=
  itr2_ind (fun k4 hk4 v1 v2 h => by
    unfold p_X0_countUnlike_L4 at h
    refine g_iload_n (pc' := 5) (i := 2) hC dX0_countUnlike_4 rfl rfl rfl ?_
    refine g_aload_n (pc' := 6) (i := 0) hC dX0_countUnlike_5 rfl rfl rfl ?_
    refine gf_X0_31 (pc' := 9) hC hv0 dX0_countUnlike_6 rfl ?_
    refine g_icmp_ge (pc' := 12) (tgt := 43) hC dX0_countUnlike_9 (by decide) rfl h (fun h => ?_) (fun h => ?_)
    · refine g_iload_n (pc' := 13) (i := 1) hC dX0_countUnlike_12 rfl rfl rfl ?_
      refine g_aload_n (pc' := 14) (i := 0) hC dX0_countUnlike_13 rfl rfl rfl ?_
      refine g_iload_n (pc' := 15) (i := 2) hC dX0_countUnlike_14 rfl rfl rfl ?_
      obtain ⟨a_1, hc_2, h⟩ := bd1_some h
      refine g_callV (pc' := 18) hC (c_X0_isThere _ hv0 hc_2) ml_X0_62 (rc_Col hv0) (by decide) rfl rfl rfl rfl dX0_countUnlike_15 rfl ?_
      refine g_if_eq (pc' := 21) (tgt := 34) hC dX0_countUnlike_18 (by decide) rfl h (fun h => ?_) (fun h => ?_)
      · refine g_iconst (pc' := 35) (v := (nI 0)) hC dX0_countUnlike_34 (by decide) rfl ?_
        refine g_iadd (pc' := 36) hC dX0_countUnlike_35 rfl ?_
        refine g_istore_n (pc' := 37) (i := 1) (lo' := [some (.ref (ea E (4 * v0))), some (.int (v1 + (nI 0))), some (.int v2)]) hC dX0_countUnlike_36 rfl rfl rfl rfl rfl ?_
        refine g_iinc (pc' := 40) (i := 2) (x := v2) (k := (nI 1)) (lo' := [some (.ref (ea E (4 * v0))), some (.int (v1 + (nI 0))), some (.int (v2 + (nI 1)))]) hC dX0_countUnlike_37 rfl (by decide) rfl rfl rfl rfl ?_
        refine g_goto (tgt := 4) hC dX0_countUnlike_40 (by decide) ?_
        exact hk4 _ _ h
      · refine g_aload_n (pc' := 22) (i := 0) hC dX0_countUnlike_21 rfl rfl rfl ?_
        refine g_iload_n (pc' := 23) (i := 2) hC dX0_countUnlike_22 rfl rfl rfl ?_
        obtain ⟨a_3, hc_4, h⟩ := bd1_some h
        refine g_callV (pc' := 26) hC (c_X0_firstLike _ hv0 hc_4) ml_X0_77 (rc_Col hv0) (by decide) rfl rfl rfl rfl dX0_countUnlike_23 rfl ?_
        refine g_iload_n (pc' := 27) (i := 2) hC dX0_countUnlike_26 rfl rfl rfl ?_
        refine g_icmp_ne (pc' := 30) (tgt := 34) hC dX0_countUnlike_27 (by decide) rfl h (fun h => ?_) (fun h => ?_)
        · refine g_iconst (pc' := 31) (v := (nI 1)) hC dX0_countUnlike_30 (by decide) rfl ?_
          refine g_goto (tgt := 35) hC dX0_countUnlike_31 (by decide) ?_
          refine g_iadd (pc' := 36) hC dX0_countUnlike_35 rfl ?_
          refine g_istore_n (pc' := 37) (i := 1) (lo' := [some (.ref (ea E (4 * v0))), some (.int (v1 + (nI 1))), some (.int v2)]) hC dX0_countUnlike_36 rfl rfl rfl rfl rfl ?_
          refine g_iinc (pc' := 40) (i := 2) (x := v2) (k := (nI 1)) (lo' := [some (.ref (ea E (4 * v0))), some (.int (v1 + (nI 1))), some (.int (v2 + (nI 1)))]) hC dX0_countUnlike_37 rfl (by decide) rfl rfl rfl rfl ?_
          refine g_goto (tgt := 4) hC dX0_countUnlike_40 (by decide) ?_
          exact hk4 _ _ h
        · refine g_iconst (pc' := 35) (v := (nI 0)) hC dX0_countUnlike_34 (by decide) rfl ?_
          refine g_iadd (pc' := 36) hC dX0_countUnlike_35 rfl ?_
          refine g_istore_n (pc' := 37) (i := 1) (lo' := [some (.ref (ea E (4 * v0))), some (.int (v1 + (nI 0))), some (.int v2)]) hC dX0_countUnlike_36 rfl rfl rfl rfl rfl ?_
          refine g_iinc (pc' := 40) (i := 2) (x := v2) (k := (nI 1)) (lo' := [some (.ref (ea E (4 * v0))), some (.int (v1 + (nI 0))), some (.int (v2 + (nI 1)))]) hC dX0_countUnlike_37 rfl (by decide) rfl rfl rfl rfl ?_
          refine g_goto (tgt := 4) hC dX0_countUnlike_40 (by decide) ?_
          exact hk4 _ _ h
    · refine g_iload_n (pc' := 44) (i := 1) hC dX0_countUnlike_43 rfl rfl rfl ?_
      obtain rfl := inj1 h; exact g_iret hC dX0_countUnlike_44)
set_option maxRecDepth 200000 in
theorem c_X0_countUnlike (l : Launch) {E : GE} {rr : Int32} {v0 : Nat} (hv0 : v0 < 6) (h : p_X0_countUnlike v0 xk xc xt xn xl = some rr) : Met l yX0_countUnlike (.code yX0_countUnlike cX0_countUnlike 3 (some .int) :: gU) rm_X0_countUnlike (gP E (xws E xk xo xc xt xn xl rc rv rb la wch wcc wpl wun srow ssp sen str stp swd rwp rdr rpd rpv rpc rzp) [.ref (ea E (4 * v0))]) (gQ E (xws E xk xo xc xt xn xl rc rv rb la wch wcc wpl wun srow ssp sen str stp swd rwp rdr rpd rpv rpc rzp) (some (.int rr))) 0 0 E.2.2.1 := by
  refine met_of (y := yX0_countUnlike) (own := RX0) (lo := [some (.ref (ea E (4 * v0))), none, none]) (by decide) rfl rfl rfl (fun κ hl hC => ?_)
  subst hl
  unfold p_X0_countUnlike at h
  refine g_iconst (pc' := 1) (v := (nI 0)) hC dX0_countUnlike_0 (by decide) rfl ?_
  refine g_istore_n (pc' := 2) (i := 1) (lo' := [some (.ref (ea E (4 * v0))), some (.int (nI 0)), none]) hC dX0_countUnlike_1 rfl rfl rfl rfl rfl ?_
  refine g_iconst (pc' := 3) (v := (nI 0)) hC dX0_countUnlike_2 (by decide) rfl ?_
  refine g_istore_n (pc' := 4) (i := 2) (lo' := [some (.ref (ea E (4 * v0))), some (.int (nI 0)), some (.int (nI 0))]) hC dX0_countUnlike_3 rfl rfl rfl rfl rfl ?_
  refine w_X0_countUnlike_L4 hC hv0  _ _ _ h
set_option maxRecDepth 200000 in
theorem c_X4_isSound (l : Launch) {E : GE} {rr : Int32}   (h : p_X4_isSound str = some rr) : Met l yX4_isSound (.code yX4_isSound cX4_isSound 1 (some .boolean) :: gU) rm_X4_isSound (gP E (xws E xk xo xc xt xn xl rc rv rb la wch wcc wpl wun srow ssp sen str stp swd rwp rdr rpd rpv rpc rzp) [.ref (ea E 40)]) (gQ E (xws E xk xo xc xt xn xl rc rv rb la wch wcc wpl wun srow ssp sen str stp swd rwp rdr rpd rpv rpc rzp) (some (.int rr))) 0 0 E.2.2.1 := by
  refine met_of (y := yX4_isSound) (own := RX4) (lo := [some (.ref (ea E 40))]) (by decide) rfl rfl rfl (fun κ hl hC => ?_)
  subst hl
  unfold p_X4_isSound at h
  refine g_aload_n (pc' := 1) (i := 0) hC dX4_isSound_0 rfl rfl rfl ?_
  refine gf_X4_31 (pc' := 4) hC dX4_isSound_1 rfl ?_
  refine g_if_ne (pc' := 7) (tgt := 11) hC dX4_isSound_4 (by decide) rfl h (fun h => ?_) (fun h => ?_)
  · refine g_iconst (pc' := 8) (v := (nI 1)) hC dX4_isSound_7 (by decide) rfl ?_
    refine g_goto (tgt := 12) hC dX4_isSound_8 (by decide) ?_
    obtain rfl := inj1 h; exact g_zret hC (by decide) dX4_isSound_12
  · refine g_iconst (pc' := 12) (v := (nI 0)) hC dX4_isSound_11 (by decide) rfl ?_
    obtain rfl := inj1 h; exact g_zret hC (by decide) dX4_isSound_12
set_option maxRecDepth 200000 in
theorem w_X1_countOnes_L4 {κ : GK} {E : GE} {rr : Int32} {v1 : Int32}  (hC : gC κ E cX1_countOnes RX1 (some .int) rm_X1_countOnes 4)   : ∀ (n : Nat) (v2 : Int32) (v3 : Int32), itr2 (p_X1_countOnes_L4 v1 la str) n v2 v3 = some rr → GG κ E (xws E xk xo xc xt xn xl rc rv rb la wch wcc wpl wun srow ssp sen str stp swd rwp rdr rpd rpv rpc rzp, some (.int rr)) (xws E xk xo xc xt xn xl rc rv rb la wch wcc wpl wun srow ssp sen str stp swd rwp rdr rpd rpv rpc rzp) 4 [some (.ref (ea E 42)), some (.int v1), some (.int v2), some (.int v3)] [] :=
  itr2_ind (fun k4 hk4 v2 v3 h => by
    unfold p_X1_countOnes_L4 at h
    refine g_iload_n (pc' := 5) (i := 3) hC dX1_countOnes_4 rfl rfl rfl ?_
    refine g_iload_n (pc' := 6) (i := 1) hC dX1_countOnes_5 rfl rfl rfl ?_
    refine g_icmp_ge (pc' := 9) (tgt := 53) hC dX1_countOnes_6 (by decide) rfl h (fun h => ?_) (fun h => ?_)
    · refine g_iload_n (pc' := 10) (i := 3) hC dX1_countOnes_9 rfl rfl rfl ?_
      refine g_aload_n (pc' := 11) (i := 0) hC dX1_countOnes_10 rfl rfl rfl ?_
      refine gf_X1_28 (pc' := 14) hC dX1_countOnes_11 rfl ?_
      refine al_la (pc' := 15) hC (by decide) dX1_countOnes_14 rfl ?_
      refine g_icmp_ge (pc' := 18) (tgt := 53) hC dX1_countOnes_15 (by decide) rfl h (fun h => ?_) (fun h => ?_)
      · refine g_iload_n (pc' := 19) (i := 2) hC dX1_countOnes_18 rfl rfl rfl ?_
        refine g_aload_n (pc' := 20) (i := 0) hC dX1_countOnes_19 rfl rfl rfl ?_
        refine gf_X1_12 (pc' := 23) hC dX1_countOnes_20 rfl ?_
        obtain ⟨a_1, hc_2, h⟩ := bd1_some h
        refine g_callV (pc' := 26) hC (c_X4_isSound _ hc_2) ml_X1_50 (rc_Src) (by decide) rfl rfl rfl rfl dX1_countOnes_23 rfl ?_
        refine g_if_eq (pc' := 29) (tgt := 44) hC dX1_countOnes_26 (by decide) rfl h (fun h => ?_) (fun h => ?_)
        · refine g_iconst (pc' := 45) (v := (nI 0)) hC dX1_countOnes_44 (by decide) rfl ?_
          refine g_iadd (pc' := 46) hC dX1_countOnes_45 rfl ?_
          refine g_istore_n (pc' := 47) (i := 2) (lo' := [some (.ref (ea E 42)), some (.int v1), some (.int (v2 + (nI 0))), some (.int v3)]) hC dX1_countOnes_46 rfl rfl rfl rfl rfl ?_
          refine g_iinc (pc' := 50) (i := 3) (x := v3) (k := (nI 1)) (lo' := [some (.ref (ea E 42)), some (.int v1), some (.int (v2 + (nI 0))), some (.int (v3 + (nI 1)))]) hC dX1_countOnes_47 rfl (by decide) rfl rfl rfl rfl ?_
          refine g_goto (tgt := 4) hC dX1_countOnes_50 (by decide) ?_
          exact hk4 _ _ h
        · refine g_aload_n (pc' := 30) (i := 0) hC dX1_countOnes_29 rfl rfl rfl ?_
          refine gf_X1_28 (pc' := 33) hC dX1_countOnes_30 rfl ?_
          refine g_iload_n (pc' := 34) (i := 3) hC dX1_countOnes_33 rfl rfl rfl ?_
          obtain ⟨g_3, h⟩ := gd_some h
          refine ld_la (pc' := 35) hC (by decide) g_3 dX1_countOnes_34 rfl ?_
          refine g_lconst (pc' := 36) (v := (lN 0)) hC dX1_countOnes_35 (by decide) rfl ?_
          refine g_lcmp_eq (pc' := 40) (tgt := 44) hC dX1_countOnes_36 dX1_countOnes_37 rfl (by decide) rfl h (fun h => ?_) (fun h => ?_)
          · refine g_iconst (pc' := 45) (v := (nI 0)) hC dX1_countOnes_44 (by decide) rfl ?_
            refine g_iadd (pc' := 46) hC dX1_countOnes_45 rfl ?_
            refine g_istore_n (pc' := 47) (i := 2) (lo' := [some (.ref (ea E 42)), some (.int v1), some (.int (v2 + (nI 0))), some (.int v3)]) hC dX1_countOnes_46 rfl rfl rfl rfl rfl ?_
            refine g_iinc (pc' := 50) (i := 3) (x := v3) (k := (nI 1)) (lo' := [some (.ref (ea E 42)), some (.int v1), some (.int (v2 + (nI 0))), some (.int (v3 + (nI 1)))]) hC dX1_countOnes_47 rfl (by decide) rfl rfl rfl rfl ?_
            refine g_goto (tgt := 4) hC dX1_countOnes_50 (by decide) ?_
            exact hk4 _ _ h
          · refine g_iconst (pc' := 41) (v := (nI 1)) hC dX1_countOnes_40 (by decide) rfl ?_
            refine g_goto (tgt := 45) hC dX1_countOnes_41 (by decide) ?_
            refine g_iadd (pc' := 46) hC dX1_countOnes_45 rfl ?_
            refine g_istore_n (pc' := 47) (i := 2) (lo' := [some (.ref (ea E 42)), some (.int v1), some (.int (v2 + (nI 1))), some (.int v3)]) hC dX1_countOnes_46 rfl rfl rfl rfl rfl ?_
            refine g_iinc (pc' := 50) (i := 3) (x := v3) (k := (nI 1)) (lo' := [some (.ref (ea E 42)), some (.int v1), some (.int (v2 + (nI 1))), some (.int (v3 + (nI 1)))]) hC dX1_countOnes_47 rfl (by decide) rfl rfl rfl rfl ?_
            refine g_goto (tgt := 4) hC dX1_countOnes_50 (by decide) ?_
            exact hk4 _ _ h
      · refine g_iload_n (pc' := 54) (i := 2) hC dX1_countOnes_53 rfl rfl rfl ?_
        obtain rfl := inj1 h; exact g_iret hC dX1_countOnes_54
    · refine g_iload_n (pc' := 54) (i := 2) hC dX1_countOnes_53 rfl rfl rfl ?_
      obtain rfl := inj1 h; exact g_iret hC dX1_countOnes_54)
set_option maxRecDepth 200000 in
theorem c_X1_countOnes (l : Launch) {E : GE} {rr : Int32} {v1 : Int32}  (h : p_X1_countOnes v1 la str = some rr) : Met l yX1_countOnes (.code yX1_countOnes cX1_countOnes 4 (some .int) :: gU) rm_X1_countOnes (gP E (xws E xk xo xc xt xn xl rc rv rb la wch wcc wpl wun srow ssp sen str stp swd rwp rdr rpd rpv rpc rzp) [.ref (ea E 42), .int v1]) (gQ E (xws E xk xo xc xt xn xl rc rv rb la wch wcc wpl wun srow ssp sen str stp swd rwp rdr rpd rpv rpc rzp) (some (.int rr))) 0 0 E.2.2.1 := by
  refine met_of (y := yX1_countOnes) (own := RX1) (lo := [some (.ref (ea E 42)), some (.int v1), none, none]) (by decide) rfl rfl rfl (fun κ hl hC => ?_)
  subst hl
  unfold p_X1_countOnes at h
  refine g_iconst (pc' := 1) (v := (nI 0)) hC dX1_countOnes_0 (by decide) rfl ?_
  refine g_istore_n (pc' := 2) (i := 2) (lo' := [some (.ref (ea E 42)), some (.int v1), some (.int (nI 0)), none]) hC dX1_countOnes_1 rfl rfl rfl rfl rfl ?_
  refine g_iconst (pc' := 3) (v := (nI 0)) hC dX1_countOnes_2 (by decide) rfl ?_
  refine g_istore_n (pc' := 4) (i := 3) (lo' := [some (.ref (ea E 42)), some (.int v1), some (.int (nI 0)), some (.int (nI 0))]) hC dX1_countOnes_3 rfl rfl rfl rfl rfl ?_
  refine w_X1_countOnes_L4 hC   _ _ _ h
set_option maxRecDepth 200000 in
theorem w_X1_pushNumbers_L2 {κ : GK} {E : GE} {xcz : Nat → Int32} {xtz : Nat → Nat → Int32} {xnz : Nat → Nat → Int64} {v1 : Int32}  (hC : gC κ E cX1_pushNumbers RX1 none rm_X1_pushNumbers 3)   : ∀ (n : Nat) (v2 : Int32) (xc : Nat → Int32) (xt : Nat → Nat → Int32) (xn : Nat → Nat → Int64), itr4 (p_X1_pushNumbers_L2 v1 xk la str) n v2 xc xt xn = some (xcz, xtz, xnz) → GG κ E (xws E xk xo xcz xtz xnz xl rc rv rb la wch wcc wpl wun srow ssp sen str stp swd rwp rdr rpd rpv rpc rzp, none) (xws E xk xo xc xt xn xl rc rv rb la wch wcc wpl wun srow ssp sen str stp swd rwp rdr rpd rpv rpc rzp) 2 [some (.ref (ea E 42)), some (.int v1), some (.int v2)] [] :=
  itr4_ind (fun k2 hk2 v2 xc xt xn h => by
    unfold p_X1_pushNumbers_L2 at h
    refine g_iload_n (pc' := 3) (i := 2) hC dX1_pushNumbers_2 rfl rfl rfl ?_
    refine g_iload_n (pc' := 4) (i := 1) hC dX1_pushNumbers_3 rfl rfl rfl ?_
    refine g_icmp_ge (pc' := 7) (tgt := 45) hC dX1_pushNumbers_4 (by decide) rfl h (fun h => ?_) (fun h => ?_)
    · refine g_iload_n (pc' := 8) (i := 2) hC dX1_pushNumbers_7 rfl rfl rfl ?_
      refine g_aload_n (pc' := 9) (i := 0) hC dX1_pushNumbers_8 rfl rfl rfl ?_
      refine gf_X1_32 (pc' := 12) hC dX1_pushNumbers_9 rfl ?_
      refine al_la (pc' := 13) hC (by decide) dX1_pushNumbers_12 rfl ?_
      refine g_icmp_ge (pc' := 16) (tgt := 45) hC dX1_pushNumbers_13 (by decide) rfl h (fun h => ?_) (fun h => ?_)
      · refine g_aload_n (pc' := 17) (i := 0) hC dX1_pushNumbers_16 rfl rfl rfl ?_
        refine gf_X1_12 (pc' := 20) hC dX1_pushNumbers_17 rfl ?_
        obtain ⟨a_1, hc_2, h⟩ := bd1_some h
        refine g_callV (pc' := 23) hC (c_X4_isSound _ hc_2) ml_X1_50 (rc_Src) (by decide) rfl rfl rfl rfl dX1_pushNumbers_20 rfl ?_
        refine g_if_eq (pc' := 26) (tgt := 45) hC dX1_pushNumbers_23 (by decide) rfl h (fun h => ?_) (fun h => ?_)
        · obtain ⟨rfl, rfl, rfl⟩ := inj3 h; exact g_vret hC dX1_pushNumbers_45
        · refine g_aload_n (pc' := 27) (i := 0) hC dX1_pushNumbers_26 rfl rfl rfl ?_
          refine gf_X1_21 (pc' := 30) hC dX1_pushNumbers_27 rfl ?_
          refine g_aload_n (pc' := 31) (i := 0) hC dX1_pushNumbers_30 rfl rfl rfl ?_
          refine gf_X1_32 (pc' := 34) hC dX1_pushNumbers_31 rfl ?_
          refine g_iload_n (pc' := 35) (i := 2) hC dX1_pushNumbers_34 rfl rfl rfl ?_
          obtain ⟨g_3, h⟩ := gd_some h
          refine ld_la (pc' := 36) hC (by decide) g_3 dX1_pushNumbers_35 rfl ?_
          obtain ⟨xc_4, xt_5, xn_6, hc_7, h⟩ := bd3_some h
          refine g_callV (pc' := 39) hC (c_X0_pushNumber _ (by decide) hc_7) ml_X1_170 (rc_Col (by decide)) (by decide) rfl rfl rfl rfl dX1_pushNumbers_36 rfl ?_
          refine g_iinc (pc' := 42) (i := 2) (x := v2) (k := (nI 1)) (lo' := [some (.ref (ea E 42)), some (.int v1), some (.int (v2 + (nI 1)))]) hC dX1_pushNumbers_39 rfl (by decide) rfl rfl rfl rfl ?_
          refine g_goto (tgt := 2) hC dX1_pushNumbers_42 (by decide) ?_
          exact hk2 _ _ _ _ h
      · obtain ⟨rfl, rfl, rfl⟩ := inj3 h; exact g_vret hC dX1_pushNumbers_45
    · obtain ⟨rfl, rfl, rfl⟩ := inj3 h; exact g_vret hC dX1_pushNumbers_45)
set_option maxRecDepth 200000 in
theorem c_X1_pushNumbers (l : Launch) {E : GE} {xcz : Nat → Int32} {xtz : Nat → Nat → Int32} {xnz : Nat → Nat → Int64} {v1 : Int32}  (h : p_X1_pushNumbers v1 xk xc xt xn la str = some (xcz, xtz, xnz)) : Met l yX1_pushNumbers (.code yX1_pushNumbers cX1_pushNumbers 3 none :: gU) rm_X1_pushNumbers (gP E (xws E xk xo xc xt xn xl rc rv rb la wch wcc wpl wun srow ssp sen str stp swd rwp rdr rpd rpv rpc rzp) [.ref (ea E 42), .int v1]) (gQ E (xws E xk xo xcz xtz xnz xl rc rv rb la wch wcc wpl wun srow ssp sen str stp swd rwp rdr rpd rpv rpc rzp) none) 0 0 E.2.2.1 := by
  refine met_of (y := yX1_pushNumbers) (own := RX1) (lo := [some (.ref (ea E 42)), some (.int v1), none]) (by decide) rfl rfl rfl (fun κ hl hC => ?_)
  subst hl
  unfold p_X1_pushNumbers at h
  refine g_iconst (pc' := 1) (v := (nI 0)) hC dX1_pushNumbers_0 (by decide) rfl ?_
  refine g_istore_n (pc' := 2) (i := 2) (lo' := [some (.ref (ea E 42)), some (.int v1), some (.int (nI 0))]) hC dX1_pushNumbers_1 rfl rfl rfl rfl rfl ?_
  refine w_X1_pushNumbers_L2 hC   _ _ _ _ _ h
set_option maxRecDepth 200000 in
theorem c_X4_demand (l : Launch) {E : GE} {strz : Int32} {stpz : Int32} {v1 : Int32} {v2 : Int32} {v3 : Int32}  (h : p_X4_demand v1 v2 v3 str stp = some (strz, stpz)) : Met l yX4_demand (.code yX4_demand cX4_demand 4 none :: gU) rm_X4_demand (gP E (xws E xk xo xc xt xn xl rc rv rb la wch wcc wpl wun srow ssp sen str stp swd rwp rdr rpd rpv rpc rzp) [.ref (ea E 40), .int v1, .int v2, .int v3]) (gQ E (xws E xk xo xc xt xn xl rc rv rb la wch wcc wpl wun srow ssp sen strz stpz swd rwp rdr rpd rpv rpc rzp) none) 0 0 E.2.2.1 := by
  refine met_of (y := yX4_demand) (own := RX4) (lo := [some (.ref (ea E 40)), some (.int v1), some (.int v2), some (.int v3)]) (by decide) rfl rfl rfl (fun κ hl hC => ?_)
  subst hl
  unfold p_X4_demand at h
  refine g_aload_n (pc' := 1) (i := 0) hC dX4_demand_0 rfl rfl rfl ?_
  refine gf_X4_31 (pc' := 4) hC dX4_demand_1 rfl ?_
  refine g_if_ne (pc' := 7) (tgt := 21) hC dX4_demand_4 (by decide) rfl h (fun h => ?_) (fun h => ?_)
  · refine g_iload_n (pc' := 8) (i := 1) hC dX4_demand_7 rfl rfl rfl ?_
    refine g_if_ne (pc' := 11) (tgt := 21) hC dX4_demand_8 (by decide) rfl h (fun h => ?_) (fun h => ?_)
    · refine g_aload_n (pc' := 12) (i := 0) hC dX4_demand_11 rfl rfl rfl ?_
      refine g_iload_n (pc' := 13) (i := 2) hC dX4_demand_12 rfl rfl rfl ?_
      refine pf_X4_31 (pc' := 16) hC dX4_demand_13 rfl ?_
      refine g_aload_n (pc' := 17) (i := 0) hC dX4_demand_16 rfl rfl rfl ?_
      refine g_iload_n (pc' := 18) (i := 3) hC dX4_demand_17 rfl rfl rfl ?_
      refine pf_X4_34 (pc' := 21) hC dX4_demand_18 rfl ?_
      obtain ⟨rfl, rfl⟩ := inj2 h; exact g_vret hC dX4_demand_21
    · obtain ⟨rfl, rfl⟩ := inj2 h; exact g_vret hC dX4_demand_21
  · obtain ⟨rfl, rfl⟩ := inj2 h; exact g_vret hC dX4_demand_21
set_option maxRecDepth 200000 in
theorem c_X4_left (l : Launch) {E : GE} {rr : Int32}   (h : p_X4_left ssp sen = some rr) : Met l yX4_left (.code yX4_left cX4_left 1 (some .int) :: gU) rm_X4_left (gP E (xws E xk xo xc xt xn xl rc rv rb la wch wcc wpl wun srow ssp sen str stp swd rwp rdr rpd rpv rpc rzp) [.ref (ea E 40)]) (gQ E (xws E xk xo xc xt xn xl rc rv rb la wch wcc wpl wun srow ssp sen str stp swd rwp rdr rpd rpv rpc rzp) (some (.int rr))) 0 0 E.2.2.1 := by
  refine met_of (y := yX4_left) (own := RX4) (lo := [some (.ref (ea E 40))]) (by decide) rfl rfl rfl (fun κ hl hC => ?_)
  subst hl
  unfold p_X4_left at h
  refine g_aload_n (pc' := 1) (i := 0) hC dX4_left_0 rfl rfl rfl ?_
  refine gf_X4_28 (pc' := 4) hC dX4_left_1 rfl ?_
  refine g_aload_n (pc' := 5) (i := 0) hC dX4_left_4 rfl rfl rfl ?_
  refine gf_X4_19 (pc' := 8) hC dX4_left_5 rfl ?_
  refine g_isub (pc' := 9) hC dX4_left_8 rfl ?_
  obtain rfl := inj1 h; exact g_iret hC dX4_left_9
set_option maxRecDepth 200000 in
theorem w_X4_next_J49 {κ : GK} {E : GE} {rr : Int32} {sspz : Int32} {strz : Int32} {stpz : Int32}   (hC : gC κ E cX4_next RX4 (some .int) rm_X4_next 2)   (h : p_X4_next_J49 ssp = some (rr, sspz, strz, stpz)) : GG κ E (xws E xk xo xc xt xn xl rc rv rb la wch wcc wpl wun srow sspz sen strz stpz swd rwp rdr rpd rpv rpc rzp, some (.int rr)) (xws E xk xo xc xt xn xl rc rv rb la wch wcc wpl wun srow ssp sen str stp swd rwp rdr rpd rpv rpc rzp) 49 [some (.ref (ea E 40)), none] [] := by
  unfold p_X4_next_J49 at h
  refine g_aload_n (pc' := 50) (i := 0) hC dX4_next_49 rfl rfl rfl ?_
  refine g_iconst (pc' := 51) (v := (nI 1)) hC dX4_next_50 (by decide) rfl ?_
  refine pf_X4_31 (pc' := 54) hC dX4_next_51 rfl ?_
  refine g_aload_n (pc' := 55) (i := 0) hC dX4_next_54 rfl rfl rfl ?_
  refine g_aload_n (pc' := 56) (i := 0) hC dX4_next_55 rfl rfl rfl ?_
  refine gf_X4_19 (pc' := 59) hC dX4_next_56 rfl ?_
  refine pf_X4_34 (pc' := 62) hC dX4_next_59 rfl ?_
  refine g_iconst (pc' := 63) (v := (nI 0)) hC dX4_next_62 (by decide) rfl ?_
  obtain ⟨rfl, rfl, rfl, rfl⟩ := inj4 h; exact g_iret hC dX4_next_63
set_option maxRecDepth 200000 in
theorem c_X4_next (l : Launch) {E : GE} {rr : Int32} {sspz : Int32} {strz : Int32} {stpz : Int32}   (h : p_X4_next rb srow ssp sen str stp = some (rr, sspz, strz, stpz)) : Met l yX4_next (.code yX4_next cX4_next 2 (some .int) :: gU) rm_X4_next (gP E (xws E xk xo xc xt xn xl rc rv rb la wch wcc wpl wun srow ssp sen str stp swd rwp rdr rpd rpv rpc rzp) [.ref (ea E 40)]) (gQ E (xws E xk xo xc xt xn xl rc rv rb la wch wcc wpl wun srow sspz sen strz stpz swd rwp rdr rpd rpv rpc rzp) (some (.int rr))) 0 0 E.2.2.1 := by
  refine met_of (y := yX4_next) (own := RX4) (lo := [some (.ref (ea E 40)), none]) (by decide) rfl rfl rfl (fun κ hl hC => ?_)
  subst hl
  unfold p_X4_next at h
  refine g_aload_n (pc' := 1) (i := 0) hC dX4_next_0 rfl rfl rfl ?_
  refine gf_X4_31 (pc' := 4) hC dX4_next_1 rfl ?_
  refine g_if_ne (pc' := 7) (tgt := 14) hC dX4_next_4 (by decide) rfl h (fun h => ?_) (fun h => ?_)
  · refine g_aload_n (pc' := 8) (i := 0) hC dX4_next_7 rfl rfl rfl ?_
    rcases srow with _ | o_1
    · have h := mo_n h
      refine gf_X4_15 (pc' := 11) hC dX4_next_8 rfl ?_
      refine g_ifnonnullN (pc' := 14) hC dX4_next_11 rfl ?_
      refine g_iconst (pc' := 15) (v := (nI 0)) hC dX4_next_14 (by decide) rfl ?_
      obtain ⟨rfl, rfl, rfl, rfl⟩ := inj4 h; exact g_iret hC dX4_next_15
    · have h := mo_s h
      obtain ⟨g_2, h⟩ := gd_some h
      refine gf_X4_15 (pc' := 11) hC dX4_next_8 rfl ?_
      refine g_ifnonnull (tgt := 16) hC dX4_next_11 (by decide) ?_
      refine g_aload_n (pc' := 17) (i := 0) hC dX4_next_16 rfl rfl rfl ?_
      refine gf_X4_19 (pc' := 20) hC dX4_next_17 rfl ?_
      refine g_if_lt (pc' := 23) (tgt := 49) hC dX4_next_20 (by decide) rfl h (fun h => ?_) (fun h => ?_)
      · exact w_X4_next_J49 hC   h
      · refine g_aload_n (pc' := 24) (i := 0) hC dX4_next_23 rfl rfl rfl ?_
        refine gf_X4_19 (pc' := 27) hC dX4_next_24 rfl ?_
        refine g_aload_n (pc' := 28) (i := 0) hC dX4_next_27 rfl rfl rfl ?_
        refine gf_X4_28 (pc' := 31) hC dX4_next_28 rfl ?_
        refine g_icmp_ge (pc' := 34) (tgt := 49) hC dX4_next_31 (by decide) rfl h (fun h => ?_) (fun h => ?_)
        · refine g_aload_n (pc' := 35) (i := 0) hC dX4_next_34 rfl rfl rfl ?_
          refine gf_X4_19 (pc' := 38) hC dX4_next_35 rfl ?_
          refine g_aload_n (pc' := 39) (i := 0) hC dX4_next_38 rfl rfl rfl ?_
          refine gf_X4_15 (pc' := 42) hC dX4_next_39 rfl ?_
          refine gf_X4_37 (pc' := 45) hC (of_decide_eq_true g_2) dX4_next_42 rfl ?_
          refine al_rb (pc' := 46) hC (of_decide_eq_true g_2) dX4_next_45 rfl ?_
          refine g_icmp_lt (pc' := 49) (tgt := 64) hC dX4_next_46 (by decide) rfl h (fun h => ?_) (fun h => ?_)
          · refine g_aload_n (pc' := 65) (i := 0) hC dX4_next_64 rfl rfl rfl ?_
            refine gf_X4_15 (pc' := 68) hC dX4_next_65 rfl ?_
            refine gf_X4_37 (pc' := 71) hC (of_decide_eq_true g_2) dX4_next_68 rfl ?_
            refine g_aload_n (pc' := 72) (i := 0) hC dX4_next_71 rfl rfl rfl ?_
            refine gf_X4_19 (pc' := 75) hC dX4_next_72 rfl ?_
            obtain ⟨g_3, h⟩ := gd_some h
            refine ld_rb (pc' := 76) hC (of_decide_eq_true g_2) g_3 dX4_next_75 rfl ?_
            refine g_sipush (pc' := 79) (v := (nI 255)) hC dX4_next_76 (by decide) rfl ?_
            refine g_iand (pc' := 80) hC dX4_next_79 rfl ?_
            refine g_istore_n (pc' := 81) (i := 1) (lo' := [some (.ref (ea E 40)), some (.int ((rb o_1 (ix ssp)) &&& (nI 255)))]) hC dX4_next_80 rfl rfl rfl rfl rfl ?_
            refine g_aload_n (pc' := 82) (i := 0) hC dX4_next_81 rfl rfl rfl ?_
            refine g_dup (pc' := 83) hC dX4_next_82 rfl rfl ?_
            refine gf_X4_19 (pc' := 86) hC dX4_next_83 rfl ?_
            refine g_iconst (pc' := 87) (v := (nI 1)) hC dX4_next_86 (by decide) rfl ?_
            refine g_iadd (pc' := 88) hC dX4_next_87 rfl ?_
            refine pf_X4_19 (pc' := 91) hC dX4_next_88 rfl ?_
            refine g_iload_n (pc' := 92) (i := 1) hC dX4_next_91 rfl rfl rfl ?_
            obtain ⟨rfl, rfl, rfl, rfl⟩ := inj4 h; exact g_iret hC dX4_next_92
          · exact w_X4_next_J49 hC   h
        · exact w_X4_next_J49 hC   h
  · refine g_iconst (pc' := 15) (v := (nI 0)) hC dX4_next_14 (by decide) rfl ?_
    obtain ⟨rfl, rfl, rfl, rfl⟩ := inj4 h; exact g_iret hC dX4_next_15
set_option maxRecDepth 200000 in
theorem w_X4_nextPacked_J53 {κ : GK} {E : GE} {laz : Nat → Nat → Int64} {sspz : Int32} {strz : Int32} {stpz : Int32} {v1 : Nat} {v2 : Int32} {v3 : Int32} {v4 : Int32} {v5 : Int32} {v6 : Int32} {v7 : Int32} {v8 : Int32} {v9 : Int64} {v11 : Int32} {k31 : Int32 → Int32 → Int64 → Int32 → Int32 → Int32 → Int32 → Option ((Nat → Nat → Int64) × Int32 × Int32 × Int32)} (hC : gC κ E cX4_nextPacked RX4 none rm_X4_nextPacked 12) (hv1 : v1 < 3) (hk31 : ∀ (v6 : Int32) (v7 : Int32) (v9 : Int64) (v11 : Int32) (ssp : Int32) (str : Int32) (stp : Int32), k31 v6 v7 v9 v11 ssp str stp = some (laz, sspz, strz, stpz) → GG κ E (xws E xk xo xc xt xn xl rc rv rb laz wch wcc wpl wun srow sspz sen strz stpz swd rwp rdr rpd rpv rpc rzp, none) (xws E xk xo xc xt xn xl rc rv rb la wch wcc wpl wun srow ssp sen str stp swd rwp rdr rpd rpv rpc rzp) 31 [some (.ref (ea E 40)), some (.ref (ea E (32 + v1))), some (.int v2), some (.int v3), some (.int v4), some (.int v5), some (.int v6), some (.int v7), some (.int v8), some (.long v9), none, some (.int v11)] []) (h : p_X4_nextPacked_J53 v6 v7 v9 v11 ssp str stp k31 = some (laz, sspz, strz, stpz)) : GG κ E (xws E xk xo xc xt xn xl rc rv rb laz wch wcc wpl wun srow sspz sen strz stpz swd rwp rdr rpd rpv rpc rzp, none) (xws E xk xo xc xt xn xl rc rv rb la wch wcc wpl wun srow ssp sen str stp swd rwp rdr rpd rpv rpc rzp) 53 [some (.ref (ea E 40)), some (.ref (ea E (32 + v1))), some (.int v2), some (.int v3), some (.int v4), some (.int v5), some (.int v6), some (.int v7), some (.int v8), some (.long v9), none, some (.int v11)] [] := by
  unfold p_X4_nextPacked_J53 at h
  refine g_lload (pc' := 55) (i := 9) hC dX4_nextPacked_53 rfl rfl ?_
  refine g_iload (pc' := 57) (i := 6) hC dX4_nextPacked_55 rfl rfl ?_
  refine g_iconst (pc' := 58) (v := (nI 1)) hC dX4_nextPacked_57 (by decide) rfl ?_
  refine g_iand (pc' := 59) hC dX4_nextPacked_58 rfl ?_
  refine g_i2l (pc' := 60) hC dX4_nextPacked_59 rfl ?_
  refine g_iload (pc' := 62) (i := 11) hC dX4_nextPacked_60 rfl rfl ?_
  refine g_lshl (pc' := 63) hC dX4_nextPacked_62 rfl ?_
  refine g_lor (pc' := 64) hC dX4_nextPacked_63 rfl ?_
  refine g_lstore (pc' := 66) (i := 9) (lo' := [some (.ref (ea E 40)), some (.ref (ea E (32 + v1))), some (.int v2), some (.int v3), some (.int v4), some (.int v5), some (.int v6), some (.int v7), some (.int v8), some (.long (v9 ||| (lshl (i2l (v6 &&& (nI 1))) v11))), none, some (.int v11)]) hC dX4_nextPacked_64 rfl rfl rfl rfl ?_
  refine g_iload (pc' := 68) (i := 6) hC dX4_nextPacked_66 rfl rfl ?_
  refine g_iconst (pc' := 69) (v := (nI 1)) hC dX4_nextPacked_68 (by decide) rfl ?_
  refine g_ishr (pc' := 70) hC dX4_nextPacked_69 rfl ?_
  refine g_istore (pc' := 72) (i := 6) (lo' := [some (.ref (ea E 40)), some (.ref (ea E (32 + v1))), some (.int v2), some (.int v3), some (.int v4), some (.int v5), some (.int (ishr v6 (nI 1))), some (.int v7), some (.int v8), some (.long (v9 ||| (lshl (i2l (v6 &&& (nI 1))) v11))), none, some (.int v11)]) hC dX4_nextPacked_70 rfl rfl rfl rfl ?_
  refine g_iinc (pc' := 75) (i := 7) (x := v7) (k := (-1 : Int32)) (lo' := [some (.ref (ea E 40)), some (.ref (ea E (32 + v1))), some (.int v2), some (.int v3), some (.int v4), some (.int v5), some (.int (ishr v6 (nI 1))), some (.int (v7 + (-1 : Int32))), some (.int v8), some (.long (v9 ||| (lshl (i2l (v6 &&& (nI 1))) v11))), none, some (.int v11)]) hC dX4_nextPacked_72 rfl (by decide) rfl rfl rfl rfl ?_
  refine g_iinc (pc' := 78) (i := 11) (x := v11) (k := (nI 1)) (lo' := [some (.ref (ea E 40)), some (.ref (ea E (32 + v1))), some (.int v2), some (.int v3), some (.int v4), some (.int v5), some (.int (ishr v6 (nI 1))), some (.int (v7 + (-1 : Int32))), some (.int v8), some (.long (v9 ||| (lshl (i2l (v6 &&& (nI 1))) v11))), none, some (.int (v11 + (nI 1)))]) hC dX4_nextPacked_75 rfl (by decide) rfl rfl rfl rfl ?_
  refine g_goto (tgt := 31) hC dX4_nextPacked_78 (by decide) ?_
  exact hk31 _ _ _ _ _ _ _ h
set_option maxRecDepth 200000 in
theorem w_X4_nextPacked_L31 {κ : GK} {E : GE} {laz : Nat → Nat → Int64} {sspz : Int32} {strz : Int32} {stpz : Int32} {v1 : Nat} {v2 : Int32} {v3 : Int32} {v4 : Int32} {v5 : Int32} {v8 : Int32} {k81 : Int32 → Int32 → Int64 → Int32 → Int32 → Int32 → Option ((Nat → Nat → Int64) × Int32 × Int32 × Int32)} (hC : gC κ E cX4_nextPacked RX4 none rm_X4_nextPacked 12) (hv1 : v1 < 3) (hk81 : ∀ (v6 : Int32) (v7 : Int32) (v9 : Int64) (ssp : Int32) (str : Int32) (stp : Int32), k81 v6 v7 v9 ssp str stp = some (laz, sspz, strz, stpz) → GG κ E (xws E xk xo xc xt xn xl rc rv rb laz wch wcc wpl wun srow sspz sen strz stpz swd rwp rdr rpd rpv rpc rzp, none) (xws E xk xo xc xt xn xl rc rv rb la wch wcc wpl wun srow ssp sen str stp swd rwp rdr rpd rpv rpc rzp) 81 [some (.ref (ea E 40)), some (.ref (ea E (32 + v1))), some (.int v2), some (.int v3), some (.int v4), some (.int v5), some (.int v6), some (.int v7), some (.int v8), some (.long v9), none, none] []) : ∀ (n : Nat) (v6 : Int32) (v7 : Int32) (v9 : Int64) (v11 : Int32) (ssp : Int32) (str : Int32) (stp : Int32), itr7 (p_X4_nextPacked_L31 v5 rb srow sen k81) n v6 v7 v9 v11 ssp str stp = some (laz, sspz, strz, stpz) → GG κ E (xws E xk xo xc xt xn xl rc rv rb laz wch wcc wpl wun srow sspz sen strz stpz swd rwp rdr rpd rpv rpc rzp, none) (xws E xk xo xc xt xn xl rc rv rb la wch wcc wpl wun srow ssp sen str stp swd rwp rdr rpd rpv rpc rzp) 31 [some (.ref (ea E 40)), some (.ref (ea E (32 + v1))), some (.int v2), some (.int v3), some (.int v4), some (.int v5), some (.int v6), some (.int v7), some (.int v8), some (.long v9), none, some (.int v11)] [] :=
  itr7_ind (fun k31 hk31 v6 v7 v9 v11 ssp str stp h => by
    unfold p_X4_nextPacked_L31 at h
    refine g_iload (pc' := 33) (i := 11) hC dX4_nextPacked_31 rfl rfl ?_
    refine g_iload (pc' := 35) (i := 5) hC dX4_nextPacked_33 rfl rfl ?_
    refine g_icmp_ge (pc' := 38) (tgt := 81) hC dX4_nextPacked_35 (by decide) rfl h (fun h => ?_) (fun h => ?_)
    · refine g_iload (pc' := 40) (i := 7) hC dX4_nextPacked_38 rfl rfl ?_
      refine g_if_ne (pc' := 43) (tgt := 53) hC dX4_nextPacked_40 (by decide) rfl h (fun h => ?_) (fun h => ?_)
      · refine g_aload_n (pc' := 44) (i := 0) hC dX4_nextPacked_43 rfl rfl rfl ?_
        obtain ⟨a_1, ssp_2, str_3, stp_4, hc_5, h⟩ := bd4_some h
        refine g_callV (pc' := 47) hC (c_X4_next _ hc_5) ml_X4_41 (rc_Src) (by decide) rfl rfl rfl rfl dX4_nextPacked_44 rfl ?_
        refine g_istore (pc' := 49) (i := 6) (lo' := [some (.ref (ea E 40)), some (.ref (ea E (32 + v1))), some (.int v2), some (.int v3), some (.int v4), some (.int v5), some (.int a_1), some (.int v7), some (.int v8), some (.long v9), none, some (.int v11)]) hC dX4_nextPacked_47 rfl rfl rfl rfl ?_
        refine g_bipush (pc' := 51) (v := (nI 8)) hC dX4_nextPacked_49 (by decide) rfl ?_
        refine g_istore (pc' := 53) (i := 7) (lo' := [some (.ref (ea E 40)), some (.ref (ea E (32 + v1))), some (.int v2), some (.int v3), some (.int v4), some (.int v5), some (.int a_1), some (.int (nI 8)), some (.int v8), some (.long v9), none, some (.int v11)]) hC dX4_nextPacked_51 rfl rfl rfl rfl ?_
        exact w_X4_nextPacked_J53 hC hv1 hk31 h
      · exact w_X4_nextPacked_J53 hC hv1 hk31 h
    · refine g_weak (lo' := [some (.ref (ea E 40)), some (.ref (ea E (32 + v1))), some (.int v2), some (.int v3), some (.int v4), some (.int v5), some (.int v6), some (.int v7), some (.int v8), some (.long v9), none, none]) rfl ?_
      exact hk81 _ _ _ _ _ _ h)
set_option maxRecDepth 200000 in
theorem w_X4_nextPacked_L9 {κ : GK} {E : GE} {laz : Nat → Nat → Int64} {sspz : Int32} {strz : Int32} {stpz : Int32} {v1 : Nat} {v2 : Int32} {v3 : Int32} {v4 : Int32} {v5 : Int32}  (hC : gC κ E cX4_nextPacked RX4 none rm_X4_nextPacked 12) (hv1 : v1 < 3)  : ∀ (n : Nat) (v6 : Int32) (v7 : Int32) (v8 : Int32) (la : Nat → Nat → Int64) (ssp : Int32) (str : Int32) (stp : Int32), itr7 (p_X4_nextPacked_L9 v1 v2 v3 v4 v5 rb srow sen) n v6 v7 v8 la ssp str stp = some (laz, sspz, strz, stpz) → GG κ E (xws E xk xo xc xt xn xl rc rv rb laz wch wcc wpl wun srow sspz sen strz stpz swd rwp rdr rpd rpv rpc rzp, none) (xws E xk xo xc xt xn xl rc rv rb la wch wcc wpl wun srow ssp sen str stp swd rwp rdr rpd rpv rpc rzp) 9 [some (.ref (ea E 40)), some (.ref (ea E (32 + v1))), some (.int v2), some (.int v3), some (.int v4), some (.int v5), some (.int v6), some (.int v7), some (.int v8), none, none, none] [] :=
  itr7_ind (fun k9 hk9 v6 v7 v8 la ssp str stp h => by
    unfold p_X4_nextPacked_L9 at h
    refine g_iload (pc' := 11) (i := 8) hC dX4_nextPacked_9 rfl rfl ?_
    refine g_iload_n (pc' := 12) (i := 2) hC dX4_nextPacked_11 rfl rfl rfl ?_
    refine g_iload (pc' := 14) (i := 4) hC dX4_nextPacked_12 rfl rfl ?_
    refine g_iadd (pc' := 15) hC dX4_nextPacked_14 rfl ?_
    refine g_icmp_ge (pc' := 18) (tgt := 111) hC dX4_nextPacked_15 (by decide) rfl h (fun h => ?_) (fun h => ?_)
    · refine g_aload_n (pc' := 19) (i := 0) hC dX4_nextPacked_18 rfl rfl rfl ?_
      refine gf_X4_31 (pc' := 22) hC dX4_nextPacked_19 rfl ?_
      refine g_if_ne (pc' := 25) (tgt := 111) hC dX4_nextPacked_22 (by decide) rfl h (fun h => ?_) (fun h => ?_)
      · refine g_lconst (pc' := 26) (v := (lN 0)) hC dX4_nextPacked_25 (by decide) rfl ?_
        refine g_lstore (pc' := 28) (i := 9) (lo' := [some (.ref (ea E 40)), some (.ref (ea E (32 + v1))), some (.int v2), some (.int v3), some (.int v4), some (.int v5), some (.int v6), some (.int v7), some (.int v8), some (.long (lN 0)), none, none]) hC dX4_nextPacked_26 rfl rfl rfl rfl ?_
        refine g_iconst (pc' := 29) (v := (nI 0)) hC dX4_nextPacked_28 (by decide) rfl ?_
        refine g_istore (pc' := 31) (i := 11) (lo' := [some (.ref (ea E 40)), some (.ref (ea E (32 + v1))), some (.int v2), some (.int v3), some (.int v4), some (.int v5), some (.int v6), some (.int v7), some (.int v8), some (.long (lN 0)), none, some (.int (nI 0))]) hC dX4_nextPacked_29 rfl rfl rfl rfl ?_
        refine w_X4_nextPacked_L31 hC hv1 ?_ _ _ _ _ _ _ _ _ h
        · intro v6_6 v7_7 v9_8 ssp_9 str_10 stp_11 h
          refine g_iload (pc' := 83) (i := 8) hC dX4_nextPacked_81 rfl rfl ?_
          refine g_if_lt (pc' := 86) (tgt := 105) hC dX4_nextPacked_83 (by decide) rfl h (fun h => ?_) (fun h => ?_)
          · refine g_iinc (pc' := 108) (i := 8) (x := v8) (k := (nI 1)) (lo' := [some (.ref (ea E 40)), some (.ref (ea E (32 + v1))), some (.int v2), some (.int v3), some (.int v4), some (.int v5), some (.int v6_6), some (.int v7_7), some (.int (v8 + (nI 1))), some (.long v9_8), none, none]) hC dX4_nextPacked_105 rfl (by decide) rfl rfl rfl rfl ?_
            refine g_goto (tgt := 9) hC dX4_nextPacked_108 (by decide) ?_
            refine g_weak (lo' := [some (.ref (ea E 40)), some (.ref (ea E (32 + v1))), some (.int v2), some (.int v3), some (.int v4), some (.int v5), some (.int v6_6), some (.int v7_7), some (.int (v8 + (nI 1))), none, none, none]) rfl ?_
            exact hk9 _ _ _ _ _ _ _ h
          · refine g_iload (pc' := 88) (i := 8) hC dX4_nextPacked_86 rfl rfl ?_
            refine g_iload_n (pc' := 89) (i := 3) hC dX4_nextPacked_88 rfl rfl rfl ?_
            refine g_icmp_ge (pc' := 92) (tgt := 105) hC dX4_nextPacked_89 (by decide) rfl h (fun h => ?_) (fun h => ?_)
            · refine g_iload (pc' := 94) (i := 8) hC dX4_nextPacked_92 rfl rfl ?_
              refine g_aload_n (pc' := 95) (i := 1) hC dX4_nextPacked_94 rfl rfl rfl ?_
              refine al_la (pc' := 96) hC hv1 dX4_nextPacked_95 rfl ?_
              refine g_icmp_ge (pc' := 99) (tgt := 105) hC dX4_nextPacked_96 (by decide) rfl h (fun h => ?_) (fun h => ?_)
              · refine g_aload_n (pc' := 100) (i := 1) hC dX4_nextPacked_99 rfl rfl rfl ?_
                refine g_iload (pc' := 102) (i := 8) hC dX4_nextPacked_100 rfl rfl ?_
                refine g_lload (pc' := 104) (i := 9) hC dX4_nextPacked_102 rfl rfl ?_
                obtain ⟨g_12, h⟩ := gd_some h
                refine st_la (pc' := 105) hC hv1 g_12 dX4_nextPacked_104 rfl ?_
                refine g_iinc (pc' := 108) (i := 8) (x := v8) (k := (nI 1)) (lo' := [some (.ref (ea E 40)), some (.ref (ea E (32 + v1))), some (.int v2), some (.int v3), some (.int v4), some (.int v5), some (.int v6_6), some (.int v7_7), some (.int (v8 + (nI 1))), some (.long v9_8), none, none]) hC dX4_nextPacked_105 rfl (by decide) rfl rfl rfl rfl ?_
                refine g_goto (tgt := 9) hC dX4_nextPacked_108 (by decide) ?_
                refine g_weak (lo' := [some (.ref (ea E 40)), some (.ref (ea E (32 + v1))), some (.int v2), some (.int v3), some (.int v4), some (.int v5), some (.int v6_6), some (.int v7_7), some (.int (v8 + (nI 1))), none, none, none]) rfl ?_
                exact hk9 _ _ _ _ _ _ _ h
              · refine g_iinc (pc' := 108) (i := 8) (x := v8) (k := (nI 1)) (lo' := [some (.ref (ea E 40)), some (.ref (ea E (32 + v1))), some (.int v2), some (.int v3), some (.int v4), some (.int v5), some (.int v6_6), some (.int v7_7), some (.int (v8 + (nI 1))), some (.long v9_8), none, none]) hC dX4_nextPacked_105 rfl (by decide) rfl rfl rfl rfl ?_
                refine g_goto (tgt := 9) hC dX4_nextPacked_108 (by decide) ?_
                refine g_weak (lo' := [some (.ref (ea E 40)), some (.ref (ea E (32 + v1))), some (.int v2), some (.int v3), some (.int v4), some (.int v5), some (.int v6_6), some (.int v7_7), some (.int (v8 + (nI 1))), none, none, none]) rfl ?_
                exact hk9 _ _ _ _ _ _ _ h
            · refine g_iinc (pc' := 108) (i := 8) (x := v8) (k := (nI 1)) (lo' := [some (.ref (ea E 40)), some (.ref (ea E (32 + v1))), some (.int v2), some (.int v3), some (.int v4), some (.int v5), some (.int v6_6), some (.int v7_7), some (.int (v8 + (nI 1))), some (.long v9_8), none, none]) hC dX4_nextPacked_105 rfl (by decide) rfl rfl rfl rfl ?_
              refine g_goto (tgt := 9) hC dX4_nextPacked_108 (by decide) ?_
              refine g_weak (lo' := [some (.ref (ea E 40)), some (.ref (ea E (32 + v1))), some (.int v2), some (.int v3), some (.int v4), some (.int v5), some (.int v6_6), some (.int v7_7), some (.int (v8 + (nI 1))), none, none, none]) rfl ?_
              exact hk9 _ _ _ _ _ _ _ h
      · obtain ⟨rfl, rfl, rfl, rfl⟩ := inj4 h; exact g_vret hC dX4_nextPacked_111
    · obtain ⟨rfl, rfl, rfl, rfl⟩ := inj4 h; exact g_vret hC dX4_nextPacked_111)
set_option maxRecDepth 200000 in
theorem c_X4_nextPacked (l : Launch) {E : GE} {laz : Nat → Nat → Int64} {sspz : Int32} {strz : Int32} {stpz : Int32} {v1 : Nat} {v2 : Int32} {v3 : Int32} {v4 : Int32} {v5 : Int32} (hv1 : v1 < 3) (h : p_X4_nextPacked v1 v2 v3 v4 v5 rb la srow ssp sen str stp = some (laz, sspz, strz, stpz)) : Met l yX4_nextPacked (.code yX4_nextPacked cX4_nextPacked 12 none :: gU) rm_X4_nextPacked (gP E (xws E xk xo xc xt xn xl rc rv rb la wch wcc wpl wun srow ssp sen str stp swd rwp rdr rpd rpv rpc rzp) [.ref (ea E 40), .ref (ea E (32 + v1)), .int v2, .int v3, .int v4, .int v5]) (gQ E (xws E xk xo xc xt xn xl rc rv rb laz wch wcc wpl wun srow sspz sen strz stpz swd rwp rdr rpd rpv rpc rzp) none) 0 0 E.2.2.1 := by
  refine met_of (y := yX4_nextPacked) (own := RX4) (lo := [some (.ref (ea E 40)), some (.ref (ea E (32 + v1))), some (.int v2), some (.int v3), some (.int v4), some (.int v5), none, none, none, none, none, none]) (by decide) rfl rfl rfl (fun κ hl hC => ?_)
  subst hl
  unfold p_X4_nextPacked at h
  refine g_iconst (pc' := 1) (v := (nI 0)) hC dX4_nextPacked_0 (by decide) rfl ?_
  refine g_istore (pc' := 3) (i := 6) (lo' := [some (.ref (ea E 40)), some (.ref (ea E (32 + v1))), some (.int v2), some (.int v3), some (.int v4), some (.int v5), some (.int (nI 0)), none, none, none, none, none]) hC dX4_nextPacked_1 rfl rfl rfl rfl ?_
  refine g_iconst (pc' := 4) (v := (nI 0)) hC dX4_nextPacked_3 (by decide) rfl ?_
  refine g_istore (pc' := 6) (i := 7) (lo' := [some (.ref (ea E 40)), some (.ref (ea E (32 + v1))), some (.int v2), some (.int v3), some (.int v4), some (.int v5), some (.int (nI 0)), some (.int (nI 0)), none, none, none, none]) hC dX4_nextPacked_4 rfl rfl rfl rfl ?_
  refine g_iload_n (pc' := 7) (i := 2) hC dX4_nextPacked_6 rfl rfl rfl ?_
  refine g_istore (pc' := 9) (i := 8) (lo' := [some (.ref (ea E 40)), some (.ref (ea E (32 + v1))), some (.int v2), some (.int v3), some (.int v4), some (.int v5), some (.int (nI 0)), some (.int (nI 0)), some (.int v2), none, none, none]) hC dX4_nextPacked_7 rfl rfl rfl rfl ?_
  refine w_X4_nextPacked_L9 hC hv1  _ _ _ _ _ _ _ _ h
end WALK
