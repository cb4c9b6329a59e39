section WALK
variable {xk : Nat → Int32} {xo : Nat → Int32} {xc : Nat → Int32} {xt : Nat → Nat → Int32} {xn : Nat → Nat → Int64} {xl : Nat → Nat → Int32} {rc : Nat → Int32} {rv : Nat → Int32} {rb : Nat → Nat → Int32} {la : Nat → Nat → Int64} {wch : Nat → Int32} {wcc : Int32} {wpl : Nat → Int32} {wun : Int32} {srow : Option Nat} {ssp : Int32} {sen : Int32} {str : Int32} {stp : Int32} {swd : Nat → Int32} {rwp : Int32} {rdr : Int32} {rpd : Int32} {rpv : Int32} {rpc : Int32} {rzp : Int32}
set_option maxRecDepth 200000 in
theorem w_X4_nextVar_J58 {κ : GK} {E : GE} {rr : Int64} {sspz : Int32} {strz : Int32} {stpz : Int32} {v1 : Int64} {v3 : Int32} {v4 : Int32} {k4 : Int64 → Int32 → Int32 → Int32 → Int32 → Option (Int64 × Int32 × Int32 × Int32)} (hC : gC κ E cX4_nextVar RX4 (some .long) rm_X4_nextVar 5)  (hk4 : ∀ (v1 : Int64) (v3 : Int32) (ssp : Int32) (str : Int32) (stp : Int32), k4 v1 v3 ssp str stp = some (rr, sspz, strz, stpz) → GG κ E (xws E xk xo xc xt xn xl rc rv rb la wch wcc wpl wun srow sspz sen strz stpz swd rwp rdr rpd rpv rpc rzp, some (.long rr)) (xws E xk xo xc xt xn xl rc rv rb la wch wcc wpl wun srow ssp sen str stp swd rwp rdr rpd rpv rpc rzp) 4 [some (.ref (ea E 40)), some (.long v1), none, some (.int v3), none] []) (h : p_X4_nextVar_J58 v1 v3 v4 ssp str stp k4 = some (rr, sspz, strz, stpz)) : GG κ E (xws E xk xo xc xt xn xl rc rv rb la wch wcc wpl wun srow sspz sen strz stpz swd rwp rdr rpd rpv rpc rzp, some (.long rr)) (xws E xk xo xc xt xn xl rc rv rb la wch wcc wpl wun srow ssp sen str stp swd rwp rdr rpd rpv rpc rzp) 58 [some (.ref (ea E 40)), some (.long v1), none, some (.int v3), some (.int v4)] [] := by
  unfold p_X4_nextVar_J58 at h
  refine g_iload (pc' := 60) (i := 4) hC dX4_nextVar_58 rfl rfl ?_
  refine g_sipush (pc' := 63) (v := (nI 128)) hC dX4_nextVar_60 (by decide) rfl ?_
  refine g_icmp_ge (pc' := 66) (tgt := 69) hC dX4_nextVar_63 (by decide) rfl h (fun h => ?_) (fun h => ?_)
  · refine g_goto (tgt := 75) hC dX4_nextVar_66 (by decide) ?_
    refine g_lload_n (pc' := 76) (i := 1) hC dX4_nextVar_75 rfl rfl rfl ?_
    obtain ⟨rfl, rfl, rfl, rfl⟩ := inj4 h; exact g_lret hC dX4_nextVar_76
  · refine g_iinc (pc' := 72) (i := 3) (x := v3) (k := (nI 1)) (lo' := [some (.ref (ea E 40)), some (.long v1), none, some (.int (v3 + (nI 1))), some (.int v4)]) hC dX4_nextVar_69 rfl (by decide) rfl rfl rfl rfl ?_
    refine g_goto (tgt := 4) hC dX4_nextVar_72 (by decide) ?_
    refine g_weak (lo' := [some (.ref (ea E 40)), some (.long v1), none, some (.int (v3 + (nI 1))), none]) rfl ?_
    exact hk4 _ _ _ _ _ h
set_option maxRecDepth 200000 in
theorem w_X4_nextVar_J48 {κ : GK} {E : GE} {rr : Int64} {sspz : Int32} {strz : Int32} {stpz : Int32} {v1 : Int64} {v3 : Int32} {v4 : Int32} {s1 : Int32} {k4 : Int64 → Int32 → Int32 → Int32 → Int32 → Option (Int64 × Int32 × Int32 × Int32)} (hC : gC κ E cX4_nextVar RX4 (some .long) rm_X4_nextVar 5)  (hk4 : ∀ (v1 : Int64) (v3 : Int32) (ssp : Int32) (str : Int32) (stp : Int32), k4 v1 v3 ssp str stp = some (rr, sspz, strz, stpz) → GG κ E (xws E xk xo xc xt xn xl rc rv rb la wch wcc wpl wun srow sspz sen strz stpz swd rwp rdr rpd rpv rpc rzp, some (.long rr)) (xws E xk xo xc xt xn xl rc rv rb la wch wcc wpl wun srow ssp sen str stp swd rwp rdr rpd rpv rpc rzp) 4 [some (.ref (ea E 40)), some (.long v1), none, some (.int v3), none] []) (h : p_X4_nextVar_J48 v1 v3 v4 s1 ssp str stp k4 = some (rr, sspz, strz, stpz)) : GG κ E (xws E xk xo xc xt xn xl rc rv rb la wch wcc wpl wun srow sspz sen strz stpz swd rwp rdr rpd rpv rpc rzp, some (.long rr)) (xws E xk xo xc xt xn xl rc rv rb la wch wcc wpl wun srow ssp sen str stp swd rwp rdr rpd rpv rpc rzp) 48 [some (.ref (ea E 40)), some (.long v1), none, some (.int v3), some (.int v4)] [.int s1, .ref (ea E 40)] := by
  unfold p_X4_nextVar_J48 at h
  refine g_iconst (pc' := 49) (v := (nI 2)) hC dX4_nextVar_48 (by decide) rfl ?_
  refine g_aload_n (pc' := 50) (i := 0) hC dX4_nextVar_49 rfl rfl rfl ?_
  refine gf_X4_19 (pc' := 53) hC dX4_nextVar_50 rfl ?_
  refine g_iconst (pc' := 54) (v := (nI 1)) hC dX4_nextVar_53 (by decide) rfl ?_
  refine g_isub (pc' := 55) hC dX4_nextVar_54 rfl ?_
  obtain ⟨str_6, stp_7, hc_8, h⟩ := bd2_some h
  refine g_callV (pc' := 58) hC (c_X4_demand _ hc_8) ml_X4_45 (rc_Src) (by decide) rfl rfl rfl rfl dX4_nextVar_55 rfl ?_
  exact w_X4_nextVar_J58 hC  hk4 h
set_option maxRecDepth 200000 in
theorem w_X4_nextVar_L4 {κ : GK} {E : GE} {rr : Int64} {sspz : Int32} {strz : Int32} {stpz : Int32}   (hC : gC κ E cX4_nextVar RX4 (some .long) rm_X4_nextVar 5)   : ∀ (n : Nat) (v1 : Int64) (v3 : Int32) (ssp : Int32) (str : Int32) (stp : Int32), itr5 (p_X4_nextVar_L4 rb srow sen) n v1 v3 ssp str stp = some (rr, sspz, strz, stpz) → GG κ E (xws E xk xo xc xt xn xl rc rv rb la wch wcc wpl wun srow sspz sen strz stpz swd rwp rdr rpd rpv rpc rzp, some (.long rr)) (xws E xk xo xc xt xn xl rc rv rb la wch wcc wpl wun srow ssp sen str stp swd rwp rdr rpd rpv rpc rzp) 4 [some (.ref (ea E 40)), some (.long v1), none, some (.int v3), none] [] :=
  itr5_ind (fun k4 hk4 v1 v3 ssp str stp h => by
    unfold p_X4_nextVar_L4 at h
    refine g_iload_n (pc' := 5) (i := 3) hC dX4_nextVar_4 rfl rfl rfl ?_
    refine g_bipush (pc' := 7) (v := (nI 10)) hC dX4_nextVar_5 (by decide) rfl ?_
    refine g_icmp_ge (pc' := 10) (tgt := 75) hC dX4_nextVar_7 (by decide) rfl h (fun h => ?_) (fun h => ?_)
    · refine g_aload_n (pc' := 11) (i := 0) hC dX4_nextVar_10 rfl rfl rfl ?_
      obtain ⟨a_1, ssp_2, str_3, stp_4, hc_5, h⟩ := bd4_some h
      refine g_callV (pc' := 14) hC (c_X4_next _ hc_5) ml_X4_41 (rc_Src) (by decide) rfl rfl rfl rfl dX4_nextVar_11 rfl ?_
      refine g_istore (pc' := 16) (i := 4) (lo' := [some (.ref (ea E 40)), some (.long v1), none, some (.int v3), some (.int a_1)]) hC dX4_nextVar_14 rfl rfl rfl rfl ?_
      refine g_lload_n (pc' := 17) (i := 1) hC dX4_nextVar_16 rfl rfl rfl ?_
      refine g_iload (pc' := 19) (i := 4) hC dX4_nextVar_17 rfl rfl ?_
      refine g_bipush (pc' := 21) (v := (nI 127)) hC dX4_nextVar_19 (by decide) rfl ?_
      refine g_iand (pc' := 22) hC dX4_nextVar_21 rfl ?_
      refine g_i2l (pc' := 23) hC dX4_nextVar_22 rfl ?_
      refine g_bipush (pc' := 25) (v := (nI 7)) hC dX4_nextVar_23 (by decide) rfl ?_
      refine g_iload_n (pc' := 26) (i := 3) hC dX4_nextVar_25 rfl rfl rfl ?_
      refine g_imul (pc' := 27) hC dX4_nextVar_26 rfl ?_
      refine g_lshl (pc' := 28) hC dX4_nextVar_27 rfl ?_
      refine g_lor (pc' := 29) hC dX4_nextVar_28 rfl ?_
      refine g_lstore_n (pc' := 30) (i := 1) (lo' := [some (.ref (ea E 40)), some (.long (v1 ||| (lshl (i2l (a_1 &&& (nI 127))) ((nI 7) * v3)))), none, some (.int v3), some (.int a_1)]) hC dX4_nextVar_29 rfl rfl rfl rfl rfl ?_
      refine g_iload_n (pc' := 31) (i := 3) hC dX4_nextVar_30 rfl rfl rfl ?_
      refine g_bipush (pc' := 33) (v := (nI 9)) hC dX4_nextVar_31 (by decide) rfl ?_
      refine g_icmp_ne (pc' := 36) (tgt := 58) hC dX4_nextVar_33 (by decide) rfl h (fun h => ?_) (fun h => ?_)
      · refine g_aload_n (pc' := 37) (i := 0) hC dX4_nextVar_36 rfl rfl rfl ?_
        refine g_iload (pc' := 39) (i := 4) hC dX4_nextVar_37 rfl rfl ?_
        refine g_iconst (pc' := 40) (v := (nI 1)) hC dX4_nextVar_39 (by decide) rfl ?_
        refine g_icmp_gt (pc' := 43) (tgt := 47) hC dX4_nextVar_40 (by decide) rfl h (fun h => ?_) (fun h => ?_)
        · refine g_iconst (pc' := 48) (v := (nI 0)) hC dX4_nextVar_47 (by decide) rfl ?_
          exact w_X4_nextVar_J48 hC  hk4 h
        · refine g_iconst (pc' := 44) (v := (nI 1)) hC dX4_nextVar_43 (by decide) rfl ?_
          refine g_goto (tgt := 48) hC dX4_nextVar_44 (by decide) ?_
          exact w_X4_nextVar_J48 hC  hk4 h
      · exact w_X4_nextVar_J58 hC  hk4 h
    · refine g_lload_n (pc' := 76) (i := 1) hC dX4_nextVar_75 rfl rfl rfl ?_
      obtain ⟨rfl, rfl, rfl, rfl⟩ := inj4 h; exact g_lret hC dX4_nextVar_76)
set_option maxRecDepth 200000 in
theorem c_X4_nextVar (l : Launch) {E : GE} {rr : Int64} {sspz : Int32} {strz : Int32} {stpz : Int32}   (h : p_X4_nextVar rb srow ssp sen str stp = some (rr, sspz, strz, stpz)) : Met l yX4_nextVar (.code yX4_nextVar cX4_nextVar 5 (some .long) :: gU) rm_X4_nextVar (gP E (xws E xk xo xc xt xn xl rc rv rb la wch wcc wpl wun srow ssp sen str stp swd rwp rdr rpd rpv rpc rzp) [.ref (ea E 40)]) (gQ E (xws E xk xo xc xt xn xl rc rv rb la wch wcc wpl wun srow sspz sen strz stpz swd rwp rdr rpd rpv rpc rzp) (some (.long rr))) 0 0 E.2.2.1 := by
  refine met_of (y := yX4_nextVar) (own := RX4) (lo := [some (.ref (ea E 40)), none, none, none, none]) (by decide) rfl rfl rfl (fun κ hl hC => ?_)
  subst hl
  unfold p_X4_nextVar at h
  refine g_lconst (pc' := 1) (v := (lN 0)) hC dX4_nextVar_0 (by decide) rfl ?_
  refine g_lstore_n (pc' := 2) (i := 1) (lo' := [some (.ref (ea E 40)), some (.long (lN 0)), none, none, none]) hC dX4_nextVar_1 rfl rfl rfl rfl rfl ?_
  refine g_iconst (pc' := 3) (v := (nI 0)) hC dX4_nextVar_2 (by decide) rfl ?_
  refine g_istore_n (pc' := 4) (i := 3) (lo' := [some (.ref (ea E 40)), some (.long (lN 0)), none, some (.int (nI 0)), none]) hC dX4_nextVar_3 rfl rfl rfl rfl rfl ?_
  refine w_X4_nextVar_L4 hC   _ _ _ _ _ _ h
set_option maxRecDepth 200000 in
theorem w_X4_nextWidths_J43 {κ : GK} {E : GE} {sspz : Int32} {strz : Int32} {stpz : Int32} {swdz : Nat → Int32} {v1 : Int32} {v2 : Int32} {v3 : Int32} {v4 : Int32} {v5 : Int32} {s1 : Int32} {k2 : Int32 → Int32 → Int32 → Int32 → (Nat → Int32) → Option (Int32 × Int32 × Int32 × (Nat → Int32))} (hC : gC κ E cX4_nextWidths RX4 none rm_X4_nextWidths 6)  (hk2 : ∀ (v3 : Int32) (ssp : Int32) (str : Int32) (stp : Int32) (swd : Nat → Int32), k2 v3 ssp str stp swd = some (sspz, strz, stpz, swdz) → GG κ E (xws E xk xo xc xt xn xl rc rv rb la wch wcc wpl wun srow sspz sen strz stpz swdz rwp rdr rpd rpv rpc rzp, none) (xws E xk xo xc xt xn xl rc rv rb la wch wcc wpl wun srow ssp sen str stp swd rwp rdr rpd rpv rpc rzp) 2 [some (.ref (ea E 40)), some (.int v1), some (.int v2), some (.int v3), none, none] []) (h : p_X4_nextWidths_J43 v3 v4 v5 s1 ssp str stp swd k2 = some (sspz, strz, stpz, swdz)) : GG κ E (xws E xk xo xc xt xn xl rc rv rb la wch wcc wpl wun srow sspz sen strz stpz swdz rwp rdr rpd rpv rpc rzp, none) (xws E xk xo xc xt xn xl rc rv rb la wch wcc wpl wun srow ssp sen str stp swd rwp rdr rpd rpv rpc rzp) 43 [some (.ref (ea E 40)), some (.int v1), some (.int v2), some (.int v3), some (.int v4), some (.int v5)] [.int s1, .ref (ea E 40)] := by
  unfold p_X4_nextWidths_J43 at h
  refine g_bipush (pc' := 45) (v := (nI 6)) hC dX4_nextWidths_43 (by decide) rfl ?_
  refine g_iload (pc' := 47) (i := 4) hC dX4_nextWidths_45 rfl rfl ?_
  obtain ⟨str_6, stp_7, hc_8, h⟩ := bd2_some h
  refine g_callV (pc' := 50) hC (c_X4_demand _ hc_8) ml_X4_45 (rc_Src) (by decide) rfl rfl rfl rfl dX4_nextWidths_47 rfl ?_
  refine g_aload_n (pc' := 51) (i := 0) hC dX4_nextWidths_50 rfl rfl rfl ?_
  refine gf_X4_9 (pc' := 54) hC dX4_nextWidths_51 rfl ?_
  refine g_iload_n (pc' := 55) (i := 3) hC dX4_nextWidths_54 rfl rfl rfl ?_
  refine g_aload_n (pc' := 56) (i := 0) hC dX4_nextWidths_55 rfl rfl rfl ?_
  refine gf_X4_31 (pc' := 59) hC dX4_nextWidths_56 rfl ?_
  refine g_if_ne (pc' := 62) (tgt := 67) hC dX4_nextWidths_59 (by decide) rfl h (fun h => ?_) (fun h => ?_)
  · refine g_iload (pc' := 64) (i := 5) hC dX4_nextWidths_62 rfl rfl ?_
    refine g_goto (tgt := 68) hC dX4_nextWidths_64 (by decide) ?_
    obtain ⟨g_9, h⟩ := gd_some h
    refine st_swd (pc' := 69) hC g_9 dX4_nextWidths_68 rfl ?_
    refine g_iinc (pc' := 72) (i := 3) (x := v3) (k := (nI 1)) (lo' := [some (.ref (ea E 40)), some (.int v1), some (.int v2), some (.int (v3 + (nI 1))), some (.int v4), some (.int v5)]) hC dX4_nextWidths_69 rfl (by decide) rfl rfl rfl rfl ?_
    refine g_goto (tgt := 2) hC dX4_nextWidths_72 (by decide) ?_
    refine g_weak (lo' := [some (.ref (ea E 40)), some (.int v1), some (.int v2), some (.int (v3 + (nI 1))), none, none]) rfl ?_
    exact hk2 _ _ _ _ _ h
  · refine g_iconst (pc' := 68) (v := (nI 0)) hC dX4_nextWidths_67 (by decide) rfl ?_
    obtain ⟨g_10, h⟩ := gd_some h
    refine st_swd (pc' := 69) hC g_10 dX4_nextWidths_68 rfl ?_
    refine g_iinc (pc' := 72) (i := 3) (x := v3) (k := (nI 1)) (lo' := [some (.ref (ea E 40)), some (.int v1), some (.int v2), some (.int (v3 + (nI 1))), some (.int v4), some (.int v5)]) hC dX4_nextWidths_69 rfl (by decide) rfl rfl rfl rfl ?_
    refine g_goto (tgt := 2) hC dX4_nextWidths_72 (by decide) ?_
    refine g_weak (lo' := [some (.ref (ea E 40)), some (.int v1), some (.int v2), some (.int (v3 + (nI 1))), none, none]) rfl ?_
    exact hk2 _ _ _ _ _ h
set_option maxRecDepth 200000 in
theorem w_X4_nextWidths_J35 {κ : GK} {E : GE} {sspz : Int32} {strz : Int32} {stpz : Int32} {swdz : Nat → Int32} {v1 : Int32} {v2 : Int32} {v3 : Int32} {v4 : Int32} {v5 : Int32} {s1 : Int32} {s2 : Int32} {k2 : Int32 → Int32 → Int32 → Int32 → (Nat → Int32) → Option (Int32 × Int32 × Int32 × (Nat → Int32))} (hC : gC κ E cX4_nextWidths RX4 none rm_X4_nextWidths 6)  (hk2 : ∀ (v3 : Int32) (ssp : Int32) (str : Int32) (stp : Int32) (swd : Nat → Int32), k2 v3 ssp str stp swd = some (sspz, strz, stpz, swdz) → GG κ E (xws E xk xo xc xt xn xl rc rv rb la wch wcc wpl wun srow sspz sen strz stpz swdz rwp rdr rpd rpv rpc rzp, none) (xws E xk xo xc xt xn xl rc rv rb la wch wcc wpl wun srow ssp sen str stp swd rwp rdr rpd rpv rpc rzp) 2 [some (.ref (ea E 40)), some (.int v1), some (.int v2), some (.int v3), none, none] []) (h : p_X4_nextWidths_J35 v3 v4 v5 s1 s2 ssp str stp swd k2 = some (sspz, strz, stpz, swdz)) : GG κ E (xws E xk xo xc xt xn xl rc rv rb la wch wcc wpl wun srow sspz sen strz stpz swdz rwp rdr rpd rpv rpc rzp, none) (xws E xk xo xc xt xn xl rc rv rb la wch wcc wpl wun srow ssp sen str stp swd rwp rdr rpd rpv rpc rzp) 35 [some (.ref (ea E 40)), some (.int v1), some (.int v2), some (.int v3), some (.int v4), some (.int v5)] [.int s2, .int s1, .ref (ea E 40)] := by
  unfold p_X4_nextWidths_J35 at h
  refine g_icmp_gt (pc' := 38) (tgt := 42) hC dX4_nextWidths_35 (by decide) rfl h (fun h => ?_) (fun h => ?_)
  · refine g_iconst (pc' := 43) (v := (nI 0)) hC dX4_nextWidths_42 (by decide) rfl ?_
    exact w_X4_nextWidths_J43 hC  hk2 h
  · refine g_iconst (pc' := 39) (v := (nI 1)) hC dX4_nextWidths_38 (by decide) rfl ?_
    refine g_goto (tgt := 43) hC dX4_nextWidths_39 (by decide) ?_
    exact w_X4_nextWidths_J43 hC  hk2 h
set_option maxRecDepth 200000 in
theorem w_X4_nextWidths_L2 {κ : GK} {E : GE} {sspz : Int32} {strz : Int32} {stpz : Int32} {swdz : Nat → Int32} {v1 : Int32} {v2 : Int32}  (hC : gC κ E cX4_nextWidths RX4 none rm_X4_nextWidths 6)   : ∀ (n : Nat) (v3 : Int32) (ssp : Int32) (str : Int32) (stp : Int32) (swd : Nat → Int32), itr5 (p_X4_nextWidths_L2 v1 v2 rb srow sen) n v3 ssp str stp swd = some (sspz, strz, stpz, swdz) → GG κ E (xws E xk xo xc xt xn xl rc rv rb la wch wcc wpl wun srow sspz sen strz stpz swdz rwp rdr rpd rpv rpc rzp, none) (xws E xk xo xc xt xn xl rc rv rb la wch wcc wpl wun srow ssp sen str stp swd rwp rdr rpd rpv rpc rzp) 2 [some (.ref (ea E 40)), some (.int v1), some (.int v2), some (.int v3), none, none] [] :=
  itr5_ind (fun k2 hk2 v3 ssp str stp swd h => by
    unfold p_X4_nextWidths_L2 at h
    refine g_iload_n (pc' := 3) (i := 3) hC dX4_nextWidths_2 rfl rfl rfl ?_
    refine g_iconst (pc' := 4) (v := (nI 4)) hC dX4_nextWidths_3 (by decide) rfl ?_
    refine g_icmp_ge (pc' := 7) (tgt := 75) hC dX4_nextWidths_4 (by decide) rfl h (fun h => ?_) (fun h => ?_)
    · refine g_aload_n (pc' := 8) (i := 0) hC dX4_nextWidths_7 rfl rfl rfl ?_
      refine gf_X4_19 (pc' := 11) hC dX4_nextWidths_8 rfl ?_
      refine g_istore (pc' := 13) (i := 4) (lo' := [some (.ref (ea E 40)), some (.int v1), some (.int v2), some (.int v3), some (.int ssp), none]) hC dX4_nextWidths_11 rfl rfl rfl rfl ?_
      refine g_aload_n (pc' := 14) (i := 0) hC dX4_nextWidths_13 rfl rfl rfl ?_
      obtain ⟨a_1, ssp_2, str_3, stp_4, hc_5, h⟩ := bd4_some h
      refine g_callV (pc' := 17) hC (c_X4_next _ hc_5) ml_X4_41 (rc_Src) (by decide) rfl rfl rfl rfl dX4_nextWidths_14 rfl ?_
      refine g_istore (pc' := 19) (i := 5) (lo' := [some (.ref (ea E 40)), some (.int v1), some (.int v2), some (.int v3), some (.int ssp), some (.int a_1)]) hC dX4_nextWidths_17 rfl rfl rfl rfl ?_
      refine g_aload_n (pc' := 20) (i := 0) hC dX4_nextWidths_19 rfl rfl rfl ?_
      refine g_iload (pc' := 22) (i := 5) hC dX4_nextWidths_20 rfl rfl ?_
      refine g_iload_n (pc' := 23) (i := 1) hC dX4_nextWidths_22 rfl rfl rfl ?_
      refine g_iload_n (pc' := 24) (i := 3) hC dX4_nextWidths_23 rfl rfl rfl ?_
      refine g_bipush (pc' := 26) (v := (nI 32)) hC dX4_nextWidths_24 (by decide) rfl ?_
      refine g_imul (pc' := 27) hC dX4_nextWidths_26 rfl ?_
      refine g_icmp_le (pc' := 30) (tgt := 34) hC dX4_nextWidths_27 (by decide) rfl h (fun h => ?_) (fun h => ?_)
      · refine g_iload_n (pc' := 31) (i := 2) hC dX4_nextWidths_30 rfl rfl rfl ?_
        refine g_goto (tgt := 35) hC dX4_nextWidths_31 (by decide) ?_
        exact w_X4_nextWidths_J35 hC  hk2 h
      · refine g_iconst (pc' := 35) (v := (nI 0)) hC dX4_nextWidths_34 (by decide) rfl ?_
        exact w_X4_nextWidths_J35 hC  hk2 h
    · obtain ⟨rfl, rfl, rfl, rfl⟩ := inj4 h; exact g_vret hC dX4_nextWidths_75)
set_option maxRecDepth 200000 in
theorem c_X4_nextWidths (l : Launch) {E : GE} {sspz : Int32} {strz : Int32} {stpz : Int32} {swdz : Nat → Int32} {v1 : Int32} {v2 : Int32}  (h : p_X4_nextWidths v1 v2 rb srow ssp sen str stp swd = some (sspz, strz, stpz, swdz)) : Met l yX4_nextWidths (.code yX4_nextWidths cX4_nextWidths 6 none :: gU) rm_X4_nextWidths (gP E (xws E xk xo xc xt xn xl rc rv rb la wch wcc wpl wun srow ssp sen str stp swd rwp rdr rpd rpv rpc rzp) [.ref (ea E 40), .int v1, .int v2]) (gQ E (xws E xk xo xc xt xn xl rc rv rb la wch wcc wpl wun srow sspz sen strz stpz swdz rwp rdr rpd rpv rpc rzp) none) 0 0 E.2.2.1 := by
  refine met_of (y := yX4_nextWidths) (own := RX4) (lo := [some (.ref (ea E 40)), some (.int v1), some (.int v2), none, none, none]) (by decide) rfl rfl rfl (fun κ hl hC => ?_)
  subst hl
  unfold p_X4_nextWidths at h
  refine g_iconst (pc' := 1) (v := (nI 0)) hC dX4_nextWidths_0 (by decide) rfl ?_
  refine g_istore_n (pc' := 2) (i := 3) (lo' := [some (.ref (ea E 40)), some (.int v1), some (.int v2), some (.int (nI 0)), none, none]) hC dX4_nextWidths_1 rfl rfl rfl rfl rfl ?_
  refine w_X4_nextWidths_L2 hC   _ _ _ _ _ _ h
set_option maxRecDepth 200000 in
theorem c_X5_unzigged (l : Launch) {E : GE} {rr : Int64} {v0 : Int64}  (h : p_X5_unzigged v0 = some rr) : Met l yX5_unzigged (.code yX5_unzigged cX5_unzigged 2 (some .long) :: gU) rm_X5_unzigged (gP E (xws E xk xo xc xt xn xl rc rv rb la wch wcc wpl wun srow ssp sen str stp swd rwp rdr rpd rpv rpc rzp) [.long v0]) (gQ E (xws E xk xo xc xt xn xl rc rv rb la wch wcc wpl wun srow ssp sen str stp swd rwp rdr rpd rpv rpc rzp) (some (.long rr))) 0 0 E.2.2.1 := by
  refine met_of (y := yX5_unzigged) (own := RX5) (lo := [some (.long v0), none]) (by decide) rfl rfl rfl (fun κ hl hC => ?_)
  subst hl
  unfold p_X5_unzigged at h
  refine g_lload_n (pc' := 1) (i := 0) hC dX5_unzigged_0 rfl rfl rfl ?_
  refine g_iconst (pc' := 2) (v := (nI 1)) hC dX5_unzigged_1 (by decide) rfl ?_
  refine g_lushr (pc' := 3) hC dX5_unzigged_2 rfl ?_
  refine g_lload_n (pc' := 4) (i := 0) hC dX5_unzigged_3 rfl rfl rfl ?_
  refine g_lconst (pc' := 5) (v := (lN 1)) hC dX5_unzigged_4 (by decide) rfl ?_
  refine g_land (pc' := 6) hC dX5_unzigged_5 rfl ?_
  refine g_lneg (pc' := 7) hC dX5_unzigged_6 rfl ?_
  refine g_lxor (pc' := 8) hC dX5_unzigged_7 rfl ?_
  obtain rfl := inj1 h; exact g_lret hC dX5_unzigged_8
set_option maxRecDepth 200000 in
theorem w_X4_nextDifferences_L168 {κ : GK} {E : GE} {laz : Nat → Nat → Int64} {sspz : Int32} {strz : Int32} {stpz : Int32} {swdz : Nat → Int32} {v1 : Nat} {v2 : Int32} {v3 : Int32} {v7 : Int32} {v8 : Int32} {v9 : Int64} {k217 : (Nat → Nat → Int64) → Int32 → Int32 → Int32 → Option ((Nat → Nat → Int64) × Int32 × Int32 × Int32 × (Nat → Int32))} (hC : gC κ E cX4_nextDifferences RX4 none rm_X4_nextDifferences 14) (hv1 : v1 < 3) (hk217 : ∀ (la : Nat → Nat → Int64) (ssp : Int32) (str : Int32) (stp : Int32), k217 la ssp str stp = some (laz, sspz, strz, stpz, swdz) → GG κ E (xws E xk xo xc xt xn xl rc rv rb laz wch wcc wpl wun srow sspz sen strz stpz swdz rwp rdr rpd rpv rpc rzp, none) (xws E xk xo xc xt xn xl rc rv rb la wch wcc wpl wun srow ssp sen str stp swd rwp rdr rpd rpv rpc rzp) 217 [some (.ref (ea E 40)), some (.ref (ea E (32 + v1))), some (.int v2), some (.int v3), none, none, none, some (.int v7), some (.int v8), some (.long v9), none, none, none, none] []) : ∀ (n : Nat) (v11 : Int32) (la : Nat → Nat → Int64) (ssp : Int32) (str : Int32) (stp : Int32), itr5 (p_X4_nextDifferences_L168 v1 v7 v8 rb srow sen swd k217) n v11 la ssp str stp = some (laz, sspz, strz, stpz, swdz) → GG κ E (xws E xk xo xc xt xn xl rc rv rb laz wch wcc wpl wun srow sspz sen strz stpz swdz rwp rdr rpd rpv rpc rzp, none) (xws E xk xo xc xt xn xl rc rv rb la wch wcc wpl wun srow ssp sen str stp swd rwp rdr rpd rpv rpc rzp) 168 [some (.ref (ea E 40)), some (.ref (ea E (32 + v1))), some (.int v2), some (.int v3), none, none, none, some (.int v7), some (.int v8), some (.long v9), none, some (.int v11), none, none] [] :=
  itr5_ind (fun k168 hk168 v11 la ssp str stp h => by
    unfold p_X4_nextDifferences_L168 at h
    refine g_iload (pc' := 170) (i := 11) hC dX4_nextDifferences_168 rfl rfl ?_
    refine g_iconst (pc' := 171) (v := (nI 4)) hC dX4_nextDifferences_170 (by decide) rfl ?_
    refine g_icmp_ge (pc' := 174) (tgt := 217) hC dX4_nextDifferences_171 (by decide) rfl h (fun h => ?_) (fun h => ?_)
    · refine g_iload (pc' := 176) (i := 7) hC dX4_nextDifferences_174 rfl rfl ?_
      refine g_iload (pc' := 178) (i := 11) hC dX4_nextDifferences_176 rfl rfl ?_
      refine g_bipush (pc' := 180) (v := (nI 32)) hC dX4_nextDifferences_178 (by decide) rfl ?_
      refine g_imul (pc' := 181) hC dX4_nextDifferences_180 rfl ?_
      refine g_iadd (pc' := 182) hC dX4_nextDifferences_181 rfl ?_
      refine g_iload (pc' := 184) (i := 8) hC dX4_nextDifferences_182 rfl rfl ?_
      refine g_icmp_ge (pc' := 187) (tgt := 217) hC dX4_nextDifferences_184 (by decide) rfl h (fun h => ?_) (fun h => ?_)
      · refine g_aload_n (pc' := 188) (i := 0) hC dX4_nextDifferences_187 rfl rfl rfl ?_
        refine g_aload_n (pc' := 189) (i := 1) hC dX4_nextDifferences_188 rfl rfl rfl ?_
        refine g_iload (pc' := 191) (i := 7) hC dX4_nextDifferences_189 rfl rfl ?_
        refine g_iload (pc' := 193) (i := 11) hC dX4_nextDifferences_191 rfl rfl ?_
        refine g_bipush (pc' := 195) (v := (nI 32)) hC dX4_nextDifferences_193 (by decide) rfl ?_
        refine g_imul (pc' := 196) hC dX4_nextDifferences_195 rfl ?_
        refine g_iadd (pc' := 197) hC dX4_nextDifferences_196 rfl ?_
        refine g_iload (pc' := 199) (i := 8) hC dX4_nextDifferences_197 rfl rfl ?_
        refine g_bipush (pc' := 201) (v := (nI 32)) hC dX4_nextDifferences_199 (by decide) rfl ?_
        refine g_aload_n (pc' := 202) (i := 0) hC dX4_nextDifferences_201 rfl rfl rfl ?_
        refine gf_X4_9 (pc' := 205) hC dX4_nextDifferences_202 rfl ?_
        refine g_iload (pc' := 207) (i := 11) hC dX4_nextDifferences_205 rfl rfl ?_
        obtain ⟨g_45, h⟩ := gd_some h
        refine ld_swd (pc' := 208) hC g_45 dX4_nextDifferences_207 rfl ?_
        obtain ⟨la_46, ssp_47, str_48, stp_49, hc_50, h⟩ := bd4_some h
        refine g_callV (pc' := 211) hC (c_X4_nextPacked _ hv1 hc_50) ml_X4_66 (rc_Src) (by decide) rfl rfl rfl rfl dX4_nextDifferences_208 rfl ?_
        refine g_iinc (pc' := 214) (i := 11) (x := v11) (k := (nI 1)) (lo' := [some (.ref (ea E 40)), some (.ref (ea E (32 + v1))), some (.int v2), some (.int v3), none, none, none, some (.int v7), some (.int v8), some (.long v9), none, some (.int (v11 + (nI 1))), none, none]) hC dX4_nextDifferences_211 rfl (by decide) rfl rfl rfl rfl ?_
        refine g_goto (tgt := 168) hC dX4_nextDifferences_214 (by decide) ?_
        exact hk168 _ _ _ _ _ h
      · refine g_weak (lo' := [some (.ref (ea E 40)), some (.ref (ea E (32 + v1))), some (.int v2), some (.int v3), none, none, none, some (.int v7), some (.int v8), some (.long v9), none, none, none, none]) rfl ?_
        exact hk217 _ _ _ _ h
    · refine g_weak (lo' := [some (.ref (ea E 40)), some (.ref (ea E (32 + v1))), some (.int v2), some (.int v3), none, none, none, some (.int v7), some (.int v8), some (.long v9), none, none, none, none]) rfl ?_
      exact hk217 _ _ _ _ h)
set_option maxRecDepth 200000 in
theorem w_X4_nextDifferences_L221 {κ : GK} {E : GE} {laz : Nat → Nat → Int64} {sspz : Int32} {strz : Int32} {stpz : Int32} {swdz : Nat → Int32} {v1 : Nat} {v2 : Int32} {v3 : Int32} {v7 : Int32} {v8 : Int32} {v9 : Int64} {k274 : (Nat → Nat → Int64) → Option ((Nat → Nat → Int64) × Int32 × Int32 × Int32 × (Nat → Int32))} (hC : gC κ E cX4_nextDifferences RX4 none rm_X4_nextDifferences 14) (hv1 : v1 < 3) (hk274 : ∀ (la : Nat → Nat → Int64), k274 la = some (laz, sspz, strz, stpz, swdz) → GG κ E (xws E xk xo xc xt xn xl rc rv rb laz wch wcc wpl wun srow sspz sen strz stpz swdz rwp rdr rpd rpv rpc rzp, none) (xws E xk xo xc xt xn xl rc rv rb la wch wcc wpl wun srow ssp sen str stp swd rwp rdr rpd rpv rpc rzp) 274 [some (.ref (ea E 40)), some (.ref (ea E (32 + v1))), some (.int v2), some (.int v3), none, none, none, some (.int v7), none, none, none, none, none, none] []) : ∀ (n : Nat) (v11 : Int32) (la : Nat → Nat → Int64), itr2 (p_X4_nextDifferences_L221 v1 v3 v8 v9 k274) n v11 la = some (laz, sspz, strz, stpz, swdz) → GG κ E (xws E xk xo xc xt xn xl rc rv rb laz wch wcc wpl wun srow sspz sen strz stpz swdz rwp rdr rpd rpv rpc rzp, none) (xws E xk xo xc xt xn xl rc rv rb la wch wcc wpl wun srow ssp sen str stp swd rwp rdr rpd rpv rpc rzp) 221 [some (.ref (ea E 40)), some (.ref (ea E (32 + v1))), some (.int v2), some (.int v3), none, none, none, some (.int v7), some (.int v8), some (.long v9), none, some (.int v11), none, none] [] :=
  itr2_ind (fun k221 hk221 v11 la h => by
    unfold p_X4_nextDifferences_L221 at h
    refine g_iload (pc' := 223) (i := 11) hC dX4_nextDifferences_221 rfl rfl ?_
    refine g_iload (pc' := 225) (i := 8) hC dX4_nextDifferences_223 rfl rfl ?_
    refine g_icmp_ge (pc' := 228) (tgt := 274) hC dX4_nextDifferences_225 (by decide) rfl h (fun h => ?_) (fun h => ?_)
    · refine g_iload (pc' := 230) (i := 11) hC dX4_nextDifferences_228 rfl rfl ?_
      refine g_aload_n (pc' := 231) (i := 1) hC dX4_nextDifferences_230 rfl rfl rfl ?_
      refine al_la (pc' := 232) hC hv1 dX4_nextDifferences_231 rfl ?_
      refine g_icmp_ge (pc' := 235) (tgt := 274) hC dX4_nextDifferences_232 (by decide) rfl h (fun h => ?_) (fun h => ?_)
      · refine g_aload_n (pc' := 236) (i := 1) hC dX4_nextDifferences_235 rfl rfl rfl ?_
        refine g_iload (pc' := 238) (i := 11) hC dX4_nextDifferences_236 rfl rfl ?_
        refine g_iconst (pc' := 239) (v := (nI 1)) hC dX4_nextDifferences_238 (by decide) rfl ?_
        refine g_isub (pc' := 240) hC dX4_nextDifferences_239 rfl ?_
        obtain ⟨g_55, h⟩ := gd_some h
        refine ld_la (pc' := 241) hC hv1 g_55 dX4_nextDifferences_240 rfl ?_
        refine g_lload (pc' := 243) (i := 9) hC dX4_nextDifferences_241 rfl rfl ?_
        refine g_ladd (pc' := 244) hC dX4_nextDifferences_243 rfl ?_
        refine g_aload_n (pc' := 245) (i := 1) hC dX4_nextDifferences_244 rfl rfl rfl ?_
        refine g_iload (pc' := 247) (i := 11) hC dX4_nextDifferences_245 rfl rfl ?_
        obtain ⟨g_56, h⟩ := gd_some h
        refine ld_la (pc' := 248) hC hv1 g_56 dX4_nextDifferences_247 rfl ?_
        refine g_ladd (pc' := 249) hC dX4_nextDifferences_248 rfl ?_
        refine g_lstore (pc' := 251) (i := 12) (lo' := [some (.ref (ea E 40)), some (.ref (ea E (32 + v1))), some (.int v2), some (.int v3), none, none, none, some (.int v7), some (.int v8), some (.long v9), none, some (.int v11), some (.long (((la v1 (ix (v11 - (nI 1)))) + v9) + (la v1 (ix v11)))), none]) hC dX4_nextDifferences_249 rfl rfl rfl rfl ?_
        refine g_aload_n (pc' := 252) (i := 1) hC dX4_nextDifferences_251 rfl rfl rfl ?_
        refine g_iload (pc' := 254) (i := 11) hC dX4_nextDifferences_252 rfl rfl ?_
        refine g_iload_n (pc' := 255) (i := 3) hC dX4_nextDifferences_254 rfl rfl rfl ?_
        refine g_if_eq (pc' := 258) (tgt := 265) hC dX4_nextDifferences_255 (by decide) rfl h (fun h => ?_) (fun h => ?_)
        · refine g_lload (pc' := 267) (i := 12) hC dX4_nextDifferences_265 rfl rfl ?_
          obtain ⟨g_57, h⟩ := gd_some h
          refine st_la (pc' := 268) hC hv1 g_57 dX4_nextDifferences_267 rfl ?_
          refine g_iinc (pc' := 271) (i := 11) (x := v11) (k := (nI 1)) (lo' := [some (.ref (ea E 40)), some (.ref (ea E (32 + v1))), some (.int v2), some (.int v3), none, none, none, some (.int v7), some (.int v8), some (.long v9), none, some (.int (v11 + (nI 1))), some (.long (((la v1 (ix (v11 - (nI 1)))) + v9) + (la v1 (ix v11)))), none]) hC dX4_nextDifferences_268 rfl (by decide) rfl rfl rfl rfl ?_
          refine g_goto (tgt := 221) hC dX4_nextDifferences_271 (by decide) ?_
          refine g_weak (lo' := [some (.ref (ea E 40)), some (.ref (ea E (32 + v1))), some (.int v2), some (.int v3), none, none, none, some (.int v7), some (.int v8), some (.long v9), none, some (.int (v11 + (nI 1))), none, none]) rfl ?_
          exact hk221 _ _ h
        · refine g_lload (pc' := 260) (i := 12) hC dX4_nextDifferences_258 rfl rfl ?_
          refine g_l2i (pc' := 261) hC dX4_nextDifferences_260 rfl ?_
          refine g_i2l (pc' := 262) hC dX4_nextDifferences_261 rfl ?_
          refine g_goto (tgt := 267) hC dX4_nextDifferences_262 (by decide) ?_
          obtain ⟨g_58, h⟩ := gd_some h
          refine st_la (pc' := 268) hC hv1 g_58 dX4_nextDifferences_267 rfl ?_
          refine g_iinc (pc' := 271) (i := 11) (x := v11) (k := (nI 1)) (lo' := [some (.ref (ea E 40)), some (.ref (ea E (32 + v1))), some (.int v2), some (.int v3), none, none, none, some (.int v7), some (.int v8), some (.long v9), none, some (.int (v11 + (nI 1))), some (.long (((la v1 (ix (v11 - (nI 1)))) + v9) + (la v1 (ix v11)))), none]) hC dX4_nextDifferences_268 rfl (by decide) rfl rfl rfl rfl ?_
          refine g_goto (tgt := 221) hC dX4_nextDifferences_271 (by decide) ?_
          refine g_weak (lo' := [some (.ref (ea E 40)), some (.ref (ea E (32 + v1))), some (.int v2), some (.int v3), none, none, none, some (.int v7), some (.int v8), some (.long v9), none, some (.int (v11 + (nI 1))), none, none]) rfl ?_
          exact hk221 _ _ h
      · refine g_weak (lo' := [some (.ref (ea E 40)), some (.ref (ea E (32 + v1))), some (.int v2), some (.int v3), none, none, none, some (.int v7), none, none, none, none, none, none]) rfl ?_
        exact hk274 _ h
    · refine g_weak (lo' := [some (.ref (ea E 40)), some (.ref (ea E (32 + v1))), some (.int v2), some (.int v3), none, none, none, some (.int v7), none, none, none, none, none, none]) rfl ?_
      exact hk274 _ h)
set_option maxRecDepth 200000 in
theorem w_X4_nextDifferences_L111 {κ : GK} {E : GE} {laz : Nat → Nat → Int64} {sspz : Int32} {strz : Int32} {stpz : Int32} {swdz : Nat → Int32} {v1 : Nat} {v2 : Int32} {v3 : Int32}  (hC : gC κ E cX4_nextDifferences RX4 none rm_X4_nextDifferences 14) (hv1 : v1 < 3)  : ∀ (n : Nat) (v7 : Int32) (la : Nat → Nat → Int64) (ssp : Int32) (str : Int32) (stp : Int32) (swd : Nat → Int32), itr6 (p_X4_nextDifferences_L111 v1 v2 v3 rb srow sen) n v7 la ssp str stp swd = some (laz, sspz, strz, stpz, swdz) → GG κ E (xws E xk xo xc xt xn xl rc rv rb laz wch wcc wpl wun srow sspz sen strz stpz swdz rwp rdr rpd rpv rpc rzp, none) (xws E xk xo xc xt xn xl rc rv rb la wch wcc wpl wun srow ssp sen str stp swd rwp rdr rpd rpv rpc rzp) 111 [some (.ref (ea E 40)), some (.ref (ea E (32 + v1))), some (.int v2), some (.int v3), none, none, none, some (.int v7), none, none, none, none, none, none] [] :=
  itr6_ind (fun k111 hk111 v7 la ssp str stp swd h => by
    unfold p_X4_nextDifferences_L111 at h
    refine g_iload (pc' := 113) (i := 7) hC dX4_nextDifferences_111 rfl rfl ?_
    refine g_iload_n (pc' := 114) (i := 2) hC dX4_nextDifferences_113 rfl rfl rfl ?_
    refine g_icmp_ge (pc' := 117) (tgt := 283) hC dX4_nextDifferences_114 (by decide) rfl h (fun h => ?_) (fun h => ?_)
    · refine g_aload_n (pc' := 118) (i := 0) hC dX4_nextDifferences_117 rfl rfl rfl ?_
      refine gf_X4_31 (pc' := 121) hC dX4_nextDifferences_118 rfl ?_
      refine g_if_ne (pc' := 124) (tgt := 283) hC dX4_nextDifferences_121 (by decide) rfl h (fun h => ?_) (fun h => ?_)
      · refine g_iload (pc' := 126) (i := 7) hC dX4_nextDifferences_124 rfl rfl ?_
        refine g_sipush (pc' := 129) (v := (nI 128)) hC dX4_nextDifferences_126 (by decide) rfl ?_
        refine g_iadd (pc' := 130) hC dX4_nextDifferences_129 rfl ?_
        refine g_iload_n (pc' := 131) (i := 2) hC dX4_nextDifferences_130 rfl rfl rfl ?_
        refine g_imin (pc' := 134) hC math_X4_96 (by decide) dX4_nextDifferences_131 rfl rfl ?_
        refine g_istore (pc' := 136) (i := 8) (lo' := [some (.ref (ea E 40)), some (.ref (ea E (32 + v1))), some (.int v2), some (.int v3), none, none, none, some (.int v7), some (.int (imin (v7 + (nI 128)) v2)), none, none, none, none, none]) hC dX4_nextDifferences_134 rfl rfl rfl rfl ?_
        refine g_aload_n (pc' := 137) (i := 0) hC dX4_nextDifferences_136 rfl rfl rfl ?_
        obtain ⟨a_33, ssp_34, str_35, stp_36, hc_37, h⟩ := bd4_some h
        refine g_callV (pc' := 140) hC (c_X4_nextVar _ hc_37) ml_X4_58 (rc_Src) (by decide) rfl rfl rfl rfl dX4_nextDifferences_137 rfl ?_
        obtain ⟨a_38, hc_39, h⟩ := bd1_some h
        refine g_callN (pc' := 143) hC (c_X5_unzigged _ hc_39) ml_X4_92  (by decide) rfl rfl rfl dX4_nextDifferences_140 rfl ?_
        refine g_lstore (pc' := 145) (i := 9) (lo' := [some (.ref (ea E 40)), some (.ref (ea E (32 + v1))), some (.int v2), some (.int v3), none, none, none, some (.int v7), some (.int (imin (v7 + (nI 128)) v2)), some (.long a_38), none, none, none, none]) hC dX4_nextDifferences_143 rfl rfl rfl rfl ?_
        refine g_aload_n (pc' := 146) (i := 0) hC dX4_nextDifferences_145 rfl rfl rfl ?_
        refine g_iload (pc' := 148) (i := 8) hC dX4_nextDifferences_146 rfl rfl ?_
        refine g_iload (pc' := 150) (i := 7) hC dX4_nextDifferences_148 rfl rfl ?_
        refine g_isub (pc' := 151) hC dX4_nextDifferences_150 rfl ?_
        refine g_iload_n (pc' := 152) (i := 3) hC dX4_nextDifferences_151 rfl rfl rfl ?_
        refine g_if_eq (pc' := 155) (tgt := 160) hC dX4_nextDifferences_152 (by decide) rfl h (fun h => ?_) (fun h => ?_)
        · refine g_bipush (pc' := 162) (v := (nI 64)) hC dX4_nextDifferences_160 (by decide) rfl ?_
          obtain ⟨ssp_40, str_41, stp_42, swd_43, hc_44, h⟩ := bd4_some h
          refine g_callV (pc' := 165) hC (c_X4_nextWidths _ hc_44) ml_X4_99 (rc_Src) (by decide) rfl rfl rfl rfl dX4_nextDifferences_162 rfl ?_
          refine g_iconst (pc' := 166) (v := (nI 0)) hC dX4_nextDifferences_165 (by decide) rfl ?_
          refine g_istore (pc' := 168) (i := 11) (lo' := [some (.ref (ea E 40)), some (.ref (ea E (32 + v1))), some (.int v2), some (.int v3), none, none, none, some (.int v7), some (.int (imin (v7 + (nI 128)) v2)), some (.long a_38), none, some (.int (nI 0)), none, none]) hC dX4_nextDifferences_166 rfl rfl rfl rfl ?_
          refine w_X4_nextDifferences_L168 hC hv1 ?_ _ _ _ _ _ _ h
          · intro la_51 ssp_52 str_53 stp_54 h
            refine g_iload (pc' := 219) (i := 7) hC dX4_nextDifferences_217 rfl rfl ?_
            refine g_istore (pc' := 221) (i := 11) (lo' := [some (.ref (ea E 40)), some (.ref (ea E (32 + v1))), some (.int v2), some (.int v3), none, none, none, some (.int v7), some (.int (imin (v7 + (nI 128)) v2)), some (.long a_38), none, some (.int v7), none, none]) hC dX4_nextDifferences_219 rfl rfl rfl rfl ?_
            refine w_X4_nextDifferences_L221 hC hv1 ?_ _ _ _ h
            · intro la_59 h
              refine g_iincW (pc' := 280) (i := 7) (x := v7) (k := (nI 128)) (lo' := [some (.ref (ea E 40)), some (.ref (ea E (32 + v1))), some (.int v2), some (.int v3), none, none, none, some (.int (v7 + (nI 128))), none, none, none, none, none, none]) hC dX4_nextDifferences_274 rfl (by decide) rfl rfl rfl rfl ?_
              refine g_goto (tgt := 111) hC dX4_nextDifferences_280 (by decide) ?_
              exact hk111 _ _ _ _ _ _ h
        · refine g_bipush (pc' := 157) (v := (nI 32)) hC dX4_nextDifferences_155 (by decide) rfl ?_
          refine g_goto (tgt := 162) hC dX4_nextDifferences_157 (by decide) ?_
          obtain ⟨ssp_60, str_61, stp_62, swd_63, hc_64, h⟩ := bd4_some h
          refine g_callV (pc' := 165) hC (c_X4_nextWidths _ hc_64) ml_X4_99 (rc_Src) (by decide) rfl rfl rfl rfl dX4_nextDifferences_162 rfl ?_
          refine g_iconst (pc' := 166) (v := (nI 0)) hC dX4_nextDifferences_165 (by decide) rfl ?_
          refine g_istore (pc' := 168) (i := 11) (lo' := [some (.ref (ea E 40)), some (.ref (ea E (32 + v1))), some (.int v2), some (.int v3), none, none, none, some (.int v7), some (.int (imin (v7 + (nI 128)) v2)), some (.long a_38), none, some (.int (nI 0)), none, none]) hC dX4_nextDifferences_166 rfl rfl rfl rfl ?_
          refine w_X4_nextDifferences_L168 hC hv1 ?_ _ _ _ _ _ _ h
          · intro la_65 ssp_66 str_67 stp_68 h
            refine g_iload (pc' := 219) (i := 7) hC dX4_nextDifferences_217 rfl rfl ?_
            refine g_istore (pc' := 221) (i := 11) (lo' := [some (.ref (ea E 40)), some (.ref (ea E (32 + v1))), some (.int v2), some (.int v3), none, none, none, some (.int v7), some (.int (imin (v7 + (nI 128)) v2)), some (.long a_38), none, some (.int v7), none, none]) hC dX4_nextDifferences_219 rfl rfl rfl rfl ?_
            refine w_X4_nextDifferences_L221 hC hv1 ?_ _ _ _ h
            · intro la_69 h
              refine g_iincW (pc' := 280) (i := 7) (x := v7) (k := (nI 128)) (lo' := [some (.ref (ea E 40)), some (.ref (ea E (32 + v1))), some (.int v2), some (.int v3), none, none, none, some (.int (v7 + (nI 128))), none, none, none, none, none, none]) hC dX4_nextDifferences_274 rfl (by decide) rfl rfl rfl rfl ?_
              refine g_goto (tgt := 111) hC dX4_nextDifferences_280 (by decide) ?_
              exact hk111 _ _ _ _ _ _ h
      · obtain ⟨rfl, rfl, rfl, rfl, rfl⟩ := inj5 h; exact g_vret hC dX4_nextDifferences_283
    · obtain ⟨rfl, rfl, rfl, rfl, rfl⟩ := inj5 h; exact g_vret hC dX4_nextDifferences_283)
set_option maxRecDepth 200000 in
theorem w_X4_nextDifferences_J68 {κ : GK} {E : GE} {laz : Nat → Nat → Int64} {sspz : Int32} {strz : Int32} {stpz : Int32} {swdz : Nat → Int32} {v1 : Nat} {v2 : Int32} {v3 : Int32} {v4 : Int32} {s1 : Int32}  (hC : gC κ E cX4_nextDifferences RX4 none rm_X4_nextDifferences 14) (hv1 : v1 < 3)  (h : p_X4_nextDifferences_J68 v1 v2 v3 v4 s1 rb la srow ssp sen str stp swd = some (laz, sspz, strz, stpz, swdz)) : GG κ E (xws E xk xo xc xt xn xl rc rv rb laz wch wcc wpl wun srow sspz sen strz stpz swdz rwp rdr rpd rpv rpc rzp, none) (xws E xk xo xc xt xn xl rc rv rb la wch wcc wpl wun srow ssp sen str stp swd rwp rdr rpd rpv rpc rzp) 68 [some (.ref (ea E 40)), some (.ref (ea E (32 + v1))), some (.int v2), some (.int v3), some (.int v4), none, none, none, none, none, none, none, none, none] [.int s1, .ref (ea E 40)] := by
  unfold p_X4_nextDifferences_J68 at h
  refine g_iconst (pc' := 69) (v := (nI 5)) hC dX4_nextDifferences_68 (by decide) rfl ?_
  refine g_iload (pc' := 71) (i := 4) hC dX4_nextDifferences_69 rfl rfl ?_
  obtain ⟨str_22, stp_23, hc_24, h⟩ := bd2_some h
  refine g_callV (pc' := 74) hC (c_X4_demand _ hc_24) ml_X4_45 (rc_Src) (by decide) rfl rfl rfl rfl dX4_nextDifferences_71 rfl ?_
  refine g_aload_n (pc' := 75) (i := 0) hC dX4_nextDifferences_74 rfl rfl rfl ?_
  obtain ⟨a_25, ssp_26, str_27, stp_28, hc_29, h⟩ := bd4_some h
  refine g_callV (pc' := 78) hC (c_X4_nextVar _ hc_29) ml_X4_58 (rc_Src) (by decide) rfl rfl rfl rfl dX4_nextDifferences_75 rfl ?_
  obtain ⟨a_30, hc_31, h⟩ := bd1_some h
  refine g_callN (pc' := 81) hC (c_X5_unzigged _ hc_31) ml_X4_92  (by decide) rfl rfl rfl dX4_nextDifferences_78 rfl ?_
  refine g_lstore (pc' := 83) (i := 5) (lo' := [some (.ref (ea E 40)), some (.ref (ea E (32 + v1))), some (.int v2), some (.int v3), some (.int v4), some (.long a_30), none, none, none, none, none, none, none, none]) hC dX4_nextDifferences_81 rfl rfl rfl rfl ?_
  refine g_iload_n (pc' := 84) (i := 2) hC dX4_nextDifferences_83 rfl rfl rfl ?_
  refine g_if_le (pc' := 87) (tgt := 108) hC dX4_nextDifferences_84 (by decide) rfl h (fun h => ?_) (fun h => ?_)
  · refine g_aload_n (pc' := 88) (i := 1) hC dX4_nextDifferences_87 rfl rfl rfl ?_
    refine al_la (pc' := 89) hC hv1 dX4_nextDifferences_88 rfl ?_
    refine g_if_le (pc' := 92) (tgt := 108) hC dX4_nextDifferences_89 (by decide) rfl h (fun h => ?_) (fun h => ?_)
    · refine g_aload_n (pc' := 93) (i := 1) hC dX4_nextDifferences_92 rfl rfl rfl ?_
      refine g_iconst (pc' := 94) (v := (nI 0)) hC dX4_nextDifferences_93 (by decide) rfl ?_
      refine g_iload_n (pc' := 95) (i := 3) hC dX4_nextDifferences_94 rfl rfl rfl ?_
      refine g_if_eq (pc' := 98) (tgt := 105) hC dX4_nextDifferences_95 (by decide) rfl h (fun h => ?_) (fun h => ?_)
      · refine g_lload (pc' := 107) (i := 5) hC dX4_nextDifferences_105 rfl rfl ?_
        obtain ⟨g_32, h⟩ := gd_some h
        refine st_la (pc' := 108) hC hv1 g_32 dX4_nextDifferences_107 rfl ?_
        refine g_iconst (pc' := 109) (v := (nI 1)) hC dX4_nextDifferences_108 (by decide) rfl ?_
        refine g_istore (pc' := 111) (i := 7) (lo' := [some (.ref (ea E 40)), some (.ref (ea E (32 + v1))), some (.int v2), some (.int v3), some (.int v4), some (.long a_30), none, some (.int (nI 1)), none, none, none, none, none, none]) hC dX4_nextDifferences_109 rfl rfl rfl rfl ?_
        refine g_weak (lo' := [some (.ref (ea E 40)), some (.ref (ea E (32 + v1))), some (.int v2), some (.int v3), none, none, none, some (.int (nI 1)), none, none, none, none, none, none]) rfl ?_
        refine w_X4_nextDifferences_L111 hC hv1  _ _ _ _ _ _ _ h
      · refine g_lload (pc' := 100) (i := 5) hC dX4_nextDifferences_98 rfl rfl ?_
        refine g_l2i (pc' := 101) hC dX4_nextDifferences_100 rfl ?_
        refine g_i2l (pc' := 102) hC dX4_nextDifferences_101 rfl ?_
        refine g_goto (tgt := 107) hC dX4_nextDifferences_102 (by decide) ?_
        obtain ⟨g_70, h⟩ := gd_some h
        refine st_la (pc' := 108) hC hv1 g_70 dX4_nextDifferences_107 rfl ?_
        refine g_iconst (pc' := 109) (v := (nI 1)) hC dX4_nextDifferences_108 (by decide) rfl ?_
        refine g_istore (pc' := 111) (i := 7) (lo' := [some (.ref (ea E 40)), some (.ref (ea E (32 + v1))), some (.int v2), some (.int v3), some (.int v4), some (.long a_30), none, some (.int (nI 1)), none, none, none, none, none, none]) hC dX4_nextDifferences_109 rfl rfl rfl rfl ?_
        refine g_weak (lo' := [some (.ref (ea E 40)), some (.ref (ea E (32 + v1))), some (.int v2), some (.int v3), none, none, none, some (.int (nI 1)), none, none, none, none, none, none]) rfl ?_
        refine w_X4_nextDifferences_L111 hC hv1  _ _ _ _ _ _ _ h
    · refine g_iconst (pc' := 109) (v := (nI 1)) hC dX4_nextDifferences_108 (by decide) rfl ?_
      refine g_istore (pc' := 111) (i := 7) (lo' := [some (.ref (ea E 40)), some (.ref (ea E (32 + v1))), some (.int v2), some (.int v3), some (.int v4), some (.long a_30), none, some (.int (nI 1)), none, none, none, none, none, none]) hC dX4_nextDifferences_109 rfl rfl rfl rfl ?_
      refine g_weak (lo' := [some (.ref (ea E 40)), some (.ref (ea E (32 + v1))), some (.int v2), some (.int v3), none, none, none, some (.int (nI 1)), none, none, none, none, none, none]) rfl ?_
      refine w_X4_nextDifferences_L111 hC hv1  _ _ _ _ _ _ _ h
  · refine g_iconst (pc' := 109) (v := (nI 1)) hC dX4_nextDifferences_108 (by decide) rfl ?_
    refine g_istore (pc' := 111) (i := 7) (lo' := [some (.ref (ea E 40)), some (.ref (ea E (32 + v1))), some (.int v2), some (.int v3), some (.int v4), some (.long a_30), none, some (.int (nI 1)), none, none, none, none, none, none]) hC dX4_nextDifferences_109 rfl rfl rfl rfl ?_
    refine g_weak (lo' := [some (.ref (ea E 40)), some (.ref (ea E (32 + v1))), some (.int v2), some (.int v3), none, none, none, some (.int (nI 1)), none, none, none, none, none, none]) rfl ?_
    refine w_X4_nextDifferences_L111 hC hv1  _ _ _ _ _ _ _ h
set_option maxRecDepth 200000 in
theorem w_X4_nextDifferences_J46 {κ : GK} {E : GE} {laz : Nat → Nat → Int64} {sspz : Int32} {strz : Int32} {stpz : Int32} {swdz : Nat → Int32} {v1 : Nat} {v2 : Int32} {v3 : Int32} {v4 : Int32} {s1 : Int32}  (hC : gC κ E cX4_nextDifferences RX4 none rm_X4_nextDifferences 14) (hv1 : v1 < 3)  (h : p_X4_nextDifferences_J46 v1 v2 v3 v4 s1 rb la srow ssp sen str stp swd = some (laz, sspz, strz, stpz, swdz)) : GG κ E (xws E xk xo xc xt xn xl rc rv rb laz wch wcc wpl wun srow sspz sen strz stpz swdz rwp rdr rpd rpv rpc rzp, none) (xws E xk xo xc xt xn xl rc rv rb la wch wcc wpl wun srow ssp sen str stp swd rwp rdr rpd rpv rpc rzp) 46 [some (.ref (ea E 40)), some (.ref (ea E (32 + v1))), some (.int v2), some (.int v3), some (.int v4), none, none, none, none, none, none, none, none, none] [.int s1, .ref (ea E 40)] := by
  unfold p_X4_nextDifferences_J46 at h
  refine g_iconst (pc' := 47) (v := (nI 5)) hC dX4_nextDifferences_46 (by decide) rfl ?_
  refine g_iload (pc' := 49) (i := 4) hC dX4_nextDifferences_47 rfl rfl ?_
  obtain ⟨str_14, stp_15, hc_16, h⟩ := bd2_some h
  refine g_callV (pc' := 52) hC (c_X4_demand _ hc_16) ml_X4_45 (rc_Src) (by decide) rfl rfl rfl rfl dX4_nextDifferences_49 rfl ?_
  refine g_aload_n (pc' := 53) (i := 0) hC dX4_nextDifferences_52 rfl rfl rfl ?_
  refine g_aload_n (pc' := 54) (i := 0) hC dX4_nextDifferences_53 rfl rfl rfl ?_
  obtain ⟨a_17, ssp_18, str_19, stp_20, hc_21, h⟩ := bd4_some h
  refine g_callV (pc' := 57) hC (c_X4_nextVar _ hc_21) ml_X4_58 (rc_Src) (by decide) rfl rfl rfl rfl dX4_nextDifferences_54 rfl ?_
  refine g_iload_n (pc' := 58) (i := 2) hC dX4_nextDifferences_57 rfl rfl rfl ?_
  refine g_i2l (pc' := 59) hC dX4_nextDifferences_58 rfl ?_
  refine g_lcmp_ne (pc' := 63) (tgt := 67) hC dX4_nextDifferences_59 dX4_nextDifferences_60 rfl (by decide) rfl h (fun h => ?_) (fun h => ?_)
  · refine g_iconst (pc' := 64) (v := (nI 1)) hC dX4_nextDifferences_63 (by decide) rfl ?_
    refine g_goto (tgt := 68) hC dX4_nextDifferences_64 (by decide) ?_
    exact w_X4_nextDifferences_J68 hC hv1  h
  · refine g_iconst (pc' := 68) (v := (nI 0)) hC dX4_nextDifferences_67 (by decide) rfl ?_
    exact w_X4_nextDifferences_J68 hC hv1  h
set_option maxRecDepth 200000 in
theorem w_X4_nextDifferences_J23 {κ : GK} {E : GE} {laz : Nat → Nat → Int64} {sspz : Int32} {strz : Int32} {stpz : Int32} {swdz : Nat → Int32} {v1 : Nat} {v2 : Int32} {v3 : Int32} {v4 : Int32} {s1 : Int32}  (hC : gC κ E cX4_nextDifferences RX4 none rm_X4_nextDifferences 14) (hv1 : v1 < 3)  (h : p_X4_nextDifferences_J23 v1 v2 v3 v4 s1 rb la srow ssp sen str stp swd = some (laz, sspz, strz, stpz, swdz)) : GG κ E (xws E xk xo xc xt xn xl rc rv rb laz wch wcc wpl wun srow sspz sen strz stpz swdz rwp rdr rpd rpv rpc rzp, none) (xws E xk xo xc xt xn xl rc rv rb la wch wcc wpl wun srow ssp sen str stp swd rwp rdr rpd rpv rpc rzp) 23 [some (.ref (ea E 40)), some (.ref (ea E (32 + v1))), some (.int v2), some (.int v3), some (.int v4), none, none, none, none, none, none, none, none, none] [.int s1, .ref (ea E 40)] := by
  unfold p_X4_nextDifferences_J23 at h
  refine g_iconst (pc' := 24) (v := (nI 5)) hC dX4_nextDifferences_23 (by decide) rfl ?_
  refine g_iload (pc' := 26) (i := 4) hC dX4_nextDifferences_24 rfl rfl ?_
  obtain ⟨str_6, stp_7, hc_8, h⟩ := bd2_some h
  refine g_callV (pc' := 29) hC (c_X4_demand _ hc_8) ml_X4_45 (rc_Src) (by decide) rfl rfl rfl rfl dX4_nextDifferences_26 rfl ?_
  refine g_aload_n (pc' := 30) (i := 0) hC dX4_nextDifferences_29 rfl rfl rfl ?_
  refine g_aload_n (pc' := 31) (i := 0) hC dX4_nextDifferences_30 rfl rfl rfl ?_
  obtain ⟨a_9, ssp_10, str_11, stp_12, hc_13, h⟩ := bd4_some h
  refine g_callV (pc' := 34) hC (c_X4_nextVar _ hc_13) ml_X4_58 (rc_Src) (by decide) rfl rfl rfl rfl dX4_nextDifferences_31 rfl ?_
  refine g_ldc2_w (pc' := 37) (v := (lN 4)) hC u_1 dX4_nextDifferences_34 rfl ?_
  refine g_lcmp_ne (pc' := 41) (tgt := 45) hC dX4_nextDifferences_37 dX4_nextDifferences_38 rfl (by decide) rfl h (fun h => ?_) (fun h => ?_)
  · refine g_iconst (pc' := 42) (v := (nI 1)) hC dX4_nextDifferences_41 (by decide) rfl ?_
    refine g_goto (tgt := 46) hC dX4_nextDifferences_42 (by decide) ?_
    exact w_X4_nextDifferences_J46 hC hv1  h
  · refine g_iconst (pc' := 46) (v := (nI 0)) hC dX4_nextDifferences_45 (by decide) rfl ?_
    exact w_X4_nextDifferences_J46 hC hv1  h
set_option maxRecDepth 200000 in
theorem c_X4_nextDifferences (l : Launch) {E : GE} {laz : Nat → Nat → Int64} {sspz : Int32} {strz : Int32} {stpz : Int32} {swdz : Nat → Int32} {v1 : Nat} {v2 : Int32} {v3 : Int32} (hv1 : v1 < 3) (h : p_X4_nextDifferences v1 v2 v3 rb la srow ssp sen str stp swd = some (laz, sspz, strz, stpz, swdz)) : Met l yX4_nextDifferences (.code yX4_nextDifferences cX4_nextDifferences 14 none :: gU) rm_X4_nextDifferences (gP E (xws E xk xo xc xt xn xl rc rv rb la wch wcc wpl wun srow ssp sen str stp swd rwp rdr rpd rpv rpc rzp) [.ref (ea E 40), .ref (ea E (32 + v1)), .int v2, .int v3]) (gQ E (xws E xk xo xc xt xn xl rc rv rb laz wch wcc wpl wun srow sspz sen strz stpz swdz rwp rdr rpd rpv rpc rzp) none) 0 0 E.2.2.1 := by
  refine met_of (y := yX4_nextDifferences) (own := RX4) (lo := [some (.ref (ea E 40)), some (.ref (ea E (32 + v1))), some (.int v2), some (.int v3), none, none, none, none, none, none, none, none, none, none]) (by decide) rfl rfl rfl (fun κ hl hC => ?_)
  subst hl
  unfold p_X4_nextDifferences at h
  refine g_aload_n (pc' := 1) (i := 0) hC dX4_nextDifferences_0 rfl rfl rfl ?_
  refine gf_X4_19 (pc' := 4) hC dX4_nextDifferences_1 rfl ?_
  refine g_istore (pc' := 6) (i := 4) (lo' := [some (.ref (ea E 40)), some (.ref (ea E (32 + v1))), some (.int v2), some (.int v3), some (.int ssp), none, none, none, none, none, none, none, none, none]) hC dX4_nextDifferences_4 rfl rfl rfl rfl ?_
  refine g_aload_n (pc' := 7) (i := 0) hC dX4_nextDifferences_6 rfl rfl rfl ?_
  refine g_aload_n (pc' := 8) (i := 0) hC dX4_nextDifferences_7 rfl rfl rfl ?_
  obtain ⟨a_1, ssp_2, str_3, stp_4, hc_5, h⟩ := bd4_some h
  refine g_callV (pc' := 11) hC (c_X4_nextVar _ hc_5) ml_X4_58 (rc_Src) (by decide) rfl rfl rfl rfl dX4_nextDifferences_8 rfl ?_
  refine g_ldc2_w (pc' := 14) (v := (lN 128)) hC u_0 dX4_nextDifferences_11 rfl ?_
  refine g_lcmp_ne (pc' := 18) (tgt := 22) hC dX4_nextDifferences_14 dX4_nextDifferences_15 rfl (by decide) rfl h (fun h => ?_) (fun h => ?_)
  · refine g_iconst (pc' := 19) (v := (nI 1)) hC dX4_nextDifferences_18 (by decide) rfl ?_
    refine g_goto (tgt := 23) hC dX4_nextDifferences_19 (by decide) ?_
    exact w_X4_nextDifferences_J23 hC hv1  h
  · refine g_iconst (pc' := 23) (v := (nI 0)) hC dX4_nextDifferences_22 (by decide) rfl ?_
    exact w_X4_nextDifferences_J23 hC hv1  h
set_option maxRecDepth 200000 in
theorem c_X4_nextText (l : Launch) {E : GE} {xcz : Nat → Int32} {xtz : Nat → Nat → Int32} {xnz : Nat → Nat → Int64} {xlz : Nat → Nat → Int32} {sspz : Int32} {v1 : Nat} {v2 : Int32} (hv1 : v1 < 6) (h : p_X4_nextText v1 v2 xc xt xn xl rc rb srow ssp sen str = some (xcz, xtz, xnz, xlz, sspz)) : Met l yX4_nextText (.code yX4_nextText cX4_nextText 3 none :: gU) rm_X4_nextText (gP E (xws E xk xo xc xt xn xl rc rv rb la wch wcc wpl wun srow ssp sen str stp swd rwp rdr rpd rpv rpc rzp) [.ref (ea E 40), .ref (ea E (4 * v1)), .int v2]) (gQ E (xws E xk xo xcz xtz xnz xlz rc rv rb la wch wcc wpl wun srow sspz sen str stp swd rwp rdr rpd rpv rpc rzp) none) 0 0 E.2.2.1 := by
  refine met_of (y := yX4_nextText) (own := RX4) (lo := [some (.ref (ea E 40)), some (.ref (ea E (4 * v1))), some (.int v2)]) (by decide) rfl rfl rfl (fun κ hl hC => ?_)
  subst hl
  unfold p_X4_nextText at h
  refine g_aload_n (pc' := 1) (i := 0) hC dX4_nextText_0 rfl rfl rfl ?_
  refine gf_X4_31 (pc' := 4) hC dX4_nextText_1 rfl ?_
  refine g_if_ne (pc' := 7) (tgt := 49) hC dX4_nextText_4 (by decide) rfl h (fun h => ?_) (fun h => ?_)
  · refine g_aload_n (pc' := 8) (i := 0) hC dX4_nextText_7 rfl rfl rfl ?_
    rcases srow with _ | o_1
    · have h := mo_n h
      refine gf_X4_15 (pc' := 11) hC dX4_nextText_8 rfl ?_
      refine g_ifnullN (tgt := 49) hC dX4_nextText_11 (by decide) ?_
      obtain ⟨rfl, rfl, rfl, rfl, rfl⟩ := inj5 h; exact g_vret hC dX4_nextText_49
    · have h := mo_s h
      obtain ⟨g_2, h⟩ := gd_some h
      refine gf_X4_15 (pc' := 11) hC dX4_nextText_8 rfl ?_
      refine g_ifnull (pc' := 14) hC dX4_nextText_11 rfl ?_
      refine g_iload_n (pc' := 15) (i := 2) hC dX4_nextText_14 rfl rfl rfl ?_
      refine g_if_lt (pc' := 18) (tgt := 49) hC dX4_nextText_15 (by decide) rfl h (fun h => ?_) (fun h => ?_)
      · obtain ⟨rfl, rfl, rfl, rfl, rfl⟩ := inj5 h; exact g_vret hC dX4_nextText_49
      · refine g_iload_n (pc' := 19) (i := 2) hC dX4_nextText_18 rfl rfl rfl ?_
        refine g_aload_n (pc' := 20) (i := 0) hC dX4_nextText_19 rfl rfl rfl ?_
        obtain ⟨a_3, hc_4, h⟩ := bd1_some h
        refine g_callV (pc' := 23) hC (c_X4_left _ hc_4) ml_X4_49 (rc_Src) (by decide) rfl rfl rfl rfl dX4_nextText_20 rfl ?_
        refine g_icmp_gt (pc' := 26) (tgt := 49) hC dX4_nextText_23 (by decide) rfl h (fun h => ?_) (fun h => ?_)
        · obtain ⟨rfl, rfl, rfl, rfl, rfl⟩ := inj5 h; exact g_vret hC dX4_nextText_49
        · refine g_aload_n (pc' := 27) (i := 1) hC dX4_nextText_26 rfl rfl rfl ?_
          refine g_aload_n (pc' := 28) (i := 0) hC dX4_nextText_27 rfl rfl rfl ?_
          refine gf_X4_15 (pc' := 31) hC dX4_nextText_28 rfl ?_
          refine g_aload_n (pc' := 32) (i := 0) hC dX4_nextText_31 rfl rfl rfl ?_
          refine gf_X4_19 (pc' := 35) hC dX4_nextText_32 rfl ?_
          refine g_iload_n (pc' := 36) (i := 2) hC dX4_nextText_35 rfl rfl rfl ?_
          obtain ⟨xc_5, xt_6, xn_7, xl_8, hc_9, h⟩ := bd4_some h
          refine g_callV (pc' := 39) hC (c_X0_pushText _ hv1 (of_decide_eq_true g_2) hc_9) ml_X4_52 (rc_Col hv1) (by decide) rfl rfl rfl rfl dX4_nextText_36 rfl ?_
          refine g_aload_n (pc' := 40) (i := 0) hC dX4_nextText_39 rfl rfl rfl ?_
          refine g_dup (pc' := 41) hC dX4_nextText_40 rfl rfl ?_
          refine gf_X4_19 (pc' := 44) hC dX4_nextText_41 rfl ?_
          refine g_iload_n (pc' := 45) (i := 2) hC dX4_nextText_44 rfl rfl rfl ?_
          refine g_iadd (pc' := 46) hC dX4_nextText_45 rfl ?_
          refine pf_X4_19 (pc' := 49) hC dX4_nextText_46 rfl ?_
          obtain ⟨rfl, rfl, rfl, rfl, rfl⟩ := inj5 h; exact g_vret hC dX4_nextText_49
  · obtain ⟨rfl, rfl, rfl, rfl, rfl⟩ := inj5 h; exact g_vret hC dX4_nextText_49
set_option maxRecDepth 200000 in
theorem w_X1_readLengths_J73 {κ : GK} {E : GE} {xcz : Nat → Int32} {xtz : Nat → Nat → Int32} {xnz : Nat → Nat → Int64} {xlz : Nat → Nat → Int32} {laz : Nat → Nat → Int64} {sspz : Int32} {strz : Int32} {stpz : Int32} {swdz : Nat → Int32} {v1 : Int32} {v2 : Int64} {v5 : Int32} {s0 : Int32} {k21 : Int64 → Int32 → Int32 → Option ((Nat → Int32) × (Nat → Nat → Int32) × (Nat → Nat → Int64) × (Nat → Nat → Int32) × (Nat → Nat → Int64) × Int32 × Int32 × Int32 × (Nat → Int32))} (hC : gC κ E cX1_readLengths RX1 none rm_X1_readLengths 6)  (hk21 : ∀ (v2 : Int64) (v4 : Int32) (v5 : Int32), k21 v2 v4 v5 = some (xcz, xtz, xnz, xlz, laz, sspz, strz, stpz, swdz) → GG κ E (xws E xk xo xcz xtz xnz xlz rc rv rb laz wch wcc wpl wun srow sspz sen strz stpz swdz rwp rdr rpd rpv rpc rzp, none) (xws E xk xo xc xt xn xl rc rv rb la wch wcc wpl wun srow ssp sen str stp swd rwp rdr rpd rpv rpc rzp) 21 [some (.ref (ea E 42)), some (.int v1), some (.long v2), none, some (.int v4), some (.int v5)] []) (h : p_X1_readLengths_J73 v2 v5 s0 la k21 = some (xcz, xtz, xnz, xlz, laz, sspz, strz, stpz, swdz)) : GG κ E (xws E xk xo xcz xtz xnz xlz rc rv rb laz wch wcc wpl wun srow sspz sen strz stpz swdz rwp rdr rpd rpv rpc rzp, none) (xws E xk xo xc xt xn xl rc rv rb la wch wcc wpl wun srow ssp sen str stp swd rwp rdr rpd rpv rpc rzp) 73 [some (.ref (ea E 42)), some (.int v1), some (.long v2), none, none, some (.int v5)] [.int s0] := by
  unfold p_X1_readLengths_J73 at h
  refine g_istore (pc' := 75) (i := 4) (lo' := [some (.ref (ea E 42)), some (.int v1), some (.long v2), none, some (.int s0), some (.int v5)]) hC dX1_readLengths_73 rfl rfl rfl rfl ?_
  refine g_lload_n (pc' := 76) (i := 2) hC dX1_readLengths_75 rfl rfl rfl ?_
  refine g_aload_n (pc' := 77) (i := 0) hC dX1_readLengths_76 rfl rfl rfl ?_
  refine gf_X1_32 (pc' := 80) hC dX1_readLengths_77 rfl ?_
  refine g_iload (pc' := 82) (i := 5) hC dX1_readLengths_80 rfl rfl ?_
  obtain ⟨g_7, h⟩ := gd_some h
  refine ld_la (pc' := 83) hC (by decide) g_7 dX1_readLengths_82 rfl ?_
  refine g_ladd (pc' := 84) hC dX1_readLengths_83 rfl ?_
  refine g_lstore_n (pc' := 85) (i := 2) (lo' := [some (.ref (ea E 42)), some (.int v1), some (.long (v2 + (la 2 (ix v5)))), none, some (.int s0), some (.int v5)]) hC dX1_readLengths_84 rfl rfl rfl rfl rfl ?_
  refine g_iinc (pc' := 88) (i := 5) (x := v5) (k := (nI 1)) (lo' := [some (.ref (ea E 42)), some (.int v1), some (.long (v2 + (la 2 (ix v5)))), none, some (.int s0), some (.int (v5 + (nI 1)))]) hC dX1_readLengths_85 rfl (by decide) rfl rfl rfl rfl ?_
  refine g_goto (tgt := 21) hC dX1_readLengths_88 (by decide) ?_
  exact hk21 _ _ _ h
set_option maxRecDepth 200000 in
theorem w_X1_readLengths_J72 {κ : GK} {E : GE} {xcz : Nat → Int32} {xtz : Nat → Nat → Int32} {xnz : Nat → Nat → Int64} {xlz : Nat → Nat → Int32} {laz : Nat → Nat → Int64} {sspz : Int32} {strz : Int32} {stpz : Int32} {swdz : Nat → Int32} {v1 : Int32} {v2 : Int64} {v5 : Int32} {k21 : Int64 → Int32 → Int32 → Option ((Nat → Int32) × (Nat → Nat → Int32) × (Nat → Nat → Int64) × (Nat → Nat → Int32) × (Nat → Nat → Int64) × Int32 × Int32 × Int32 × (Nat → Int32))} (hC : gC κ E cX1_readLengths RX1 none rm_X1_readLengths 6)  (hk21 : ∀ (v2 : Int64) (v4 : Int32) (v5 : Int32), k21 v2 v4 v5 = some (xcz, xtz, xnz, xlz, laz, sspz, strz, stpz, swdz) → GG κ E (xws E xk xo xcz xtz xnz xlz rc rv rb laz wch wcc wpl wun srow sspz sen strz stpz swdz rwp rdr rpd rpv rpc rzp, none) (xws E xk xo xc xt xn xl rc rv rb la wch wcc wpl wun srow ssp sen str stp swd rwp rdr rpd rpv rpc rzp) 21 [some (.ref (ea E 42)), some (.int v1), some (.long v2), none, some (.int v4), some (.int v5)] []) (h : p_X1_readLengths_J72 v2 v5 la k21 = some (xcz, xtz, xnz, xlz, laz, sspz, strz, stpz, swdz)) : GG κ E (xws E xk xo xcz xtz xnz xlz rc rv rb laz wch wcc wpl wun srow sspz sen strz stpz swdz rwp rdr rpd rpv rpc rzp, none) (xws E xk xo xc xt xn xl rc rv rb la wch wcc wpl wun srow ssp sen str stp swd rwp rdr rpd rpv rpc rzp) 72 [some (.ref (ea E 42)), some (.int v1), some (.long v2), none, none, some (.int v5)] [] := by
  unfold p_X1_readLengths_J72 at h
  refine g_iconst (pc' := 73) (v := (nI 0)) hC dX1_readLengths_72 (by decide) rfl ?_
  exact w_X1_readLengths_J73 hC  hk21 h
set_option maxRecDepth 200000 in
theorem w_X1_readLengths_L21 {κ : GK} {E : GE} {xcz : Nat → Int32} {xtz : Nat → Nat → Int32} {xnz : Nat → Nat → Int64} {xlz : Nat → Nat → Int32} {laz : Nat → Nat → Int64} {sspz : Int32} {strz : Int32} {stpz : Int32} {swdz : Nat → Int32} {v1 : Int32} {k91 : Int64 → Int32 → Option ((Nat → Int32) × (Nat → Nat → Int32) × (Nat → Nat → Int64) × (Nat → Nat → Int32) × (Nat → Nat → Int64) × Int32 × Int32 × Int32 × (Nat → Int32))} (hC : gC κ E cX1_readLengths RX1 none rm_X1_readLengths 6)  (hk91 : ∀ (v2 : Int64) (v4 : Int32), k91 v2 v4 = some (xcz, xtz, xnz, xlz, laz, sspz, strz, stpz, swdz) → GG κ E (xws E xk xo xcz xtz xnz xlz rc rv rb laz wch wcc wpl wun srow sspz sen strz stpz swdz rwp rdr rpd rpv rpc rzp, none) (xws E xk xo xc xt xn xl rc rv rb la wch wcc wpl wun srow ssp sen str stp swd rwp rdr rpd rpv rpc rzp) 91 [some (.ref (ea E 42)), some (.int v1), some (.long v2), none, some (.int v4), none] []) : ∀ (n : Nat) (v2 : Int64) (v4 : Int32) (v5 : Int32), itr3 (p_X1_readLengths_L21 v1 la k91) n v2 v4 v5 = some (xcz, xtz, xnz, xlz, laz, sspz, strz, stpz, swdz) → GG κ E (xws E xk xo xcz xtz xnz xlz rc rv rb laz wch wcc wpl wun srow sspz sen strz stpz swdz rwp rdr rpd rpv rpc rzp, none) (xws E xk xo xc xt xn xl rc rv rb la wch wcc wpl wun srow ssp sen str stp swd rwp rdr rpd rpv rpc rzp) 21 [some (.ref (ea E 42)), some (.int v1), some (.long v2), none, some (.int v4), some (.int v5)] [] :=
  itr3_ind (fun k21 hk21 v2 v4 v5 h => by
    unfold p_X1_readLengths_L21 at h
    refine g_iload (pc' := 23) (i := 5) hC dX1_readLengths_21 rfl rfl ?_
    refine g_iload_n (pc' := 24) (i := 1) hC dX1_readLengths_23 rfl rfl rfl ?_
    refine g_icmp_ge (pc' := 27) (tgt := 91) hC dX1_readLengths_24 (by decide) rfl h (fun h => ?_) (fun h => ?_)
    · refine g_iload (pc' := 29) (i := 5) hC dX1_readLengths_27 rfl rfl ?_
      refine g_aload_n (pc' := 30) (i := 0) hC dX1_readLengths_29 rfl rfl rfl ?_
      refine gf_X1_32 (pc' := 33) hC dX1_readLengths_30 rfl ?_
      refine al_la (pc' := 34) hC (by decide) dX1_readLengths_33 rfl ?_
      refine g_icmp_ge (pc' := 37) (tgt := 91) hC dX1_readLengths_34 (by decide) rfl h (fun h => ?_) (fun h => ?_)
      · refine g_iload (pc' := 39) (i := 4) hC dX1_readLengths_37 rfl rfl ?_
        refine g_if_eq (pc' := 42) (tgt := 72) hC dX1_readLengths_39 (by decide) rfl h (fun h => ?_) (fun h => ?_)
        · refine g_weak (lo' := [some (.ref (ea E 42)), some (.int v1), some (.long v2), none, none, some (.int v5)]) rfl ?_
          exact w_X1_readLengths_J72 hC  hk21 h
        · refine g_aload_n (pc' := 43) (i := 0) hC dX1_readLengths_42 rfl rfl rfl ?_
          refine gf_X1_32 (pc' := 46) hC dX1_readLengths_43 rfl ?_
          refine g_iload (pc' := 48) (i := 5) hC dX1_readLengths_46 rfl rfl ?_
          obtain ⟨g_8, h⟩ := gd_some h
          refine ld_la (pc' := 49) hC (by decide) g_8 dX1_readLengths_48 rfl ?_
          refine g_lconst (pc' := 50) (v := (lN 0)) hC dX1_readLengths_49 (by decide) rfl ?_
          refine g_lcmp_lt (pc' := 54) (tgt := 72) hC dX1_readLengths_50 dX1_readLengths_51 rfl (by decide) rfl h (fun h => ?_) (fun h => ?_)
          · refine g_weak (lo' := [some (.ref (ea E 42)), some (.int v1), some (.long v2), none, none, some (.int v5)]) rfl ?_
            exact w_X1_readLengths_J72 hC  hk21 h
          · refine g_aload_n (pc' := 55) (i := 0) hC dX1_readLengths_54 rfl rfl rfl ?_
            refine gf_X1_32 (pc' := 58) hC dX1_readLengths_55 rfl ?_
            refine g_iload (pc' := 60) (i := 5) hC dX1_readLengths_58 rfl rfl ?_
            obtain ⟨g_9, h⟩ := gd_some h
            refine ld_la (pc' := 61) hC (by decide) g_9 dX1_readLengths_60 rfl ?_
            refine g_ldc2_w (pc' := 64) (v := (lN 40)) hC u_2 dX1_readLengths_61 rfl ?_
            refine g_lcmp_gt (pc' := 68) (tgt := 72) hC dX1_readLengths_64 dX1_readLengths_65 rfl (by decide) rfl h (fun h => ?_) (fun h => ?_)
            · refine g_weak (lo' := [some (.ref (ea E 42)), some (.int v1), some (.long v2), none, none, some (.int v5)]) rfl ?_
              exact w_X1_readLengths_J72 hC  hk21 h
            · refine g_iconst (pc' := 69) (v := (nI 1)) hC dX1_readLengths_68 (by decide) rfl ?_
              refine g_goto (tgt := 73) hC dX1_readLengths_69 (by decide) ?_
              refine g_weak (lo' := [some (.ref (ea E 42)), some (.int v1), some (.long v2), none, none, some (.int v5)]) rfl ?_
              exact w_X1_readLengths_J73 hC  hk21 h
      · refine g_weak (lo' := [some (.ref (ea E 42)), some (.int v1), some (.long v2), none, some (.int v4), none]) rfl ?_
        exact hk91 _ _ h
    · refine g_weak (lo' := [some (.ref (ea E 42)), some (.int v1), some (.long v2), none, some (.int v4), none]) rfl ?_
      exact hk91 _ _ h)
set_option maxRecDepth 200000 in
theorem w_X1_readLengths_L133 {κ : GK} {E : GE} {xcz : Nat → Int32} {xtz : Nat → Nat → Int32} {xnz : Nat → Nat → Int64} {xlz : Nat → Nat → Int32} {laz : Nat → Nat → Int64} {sspz : Int32} {strz : Int32} {stpz : Int32} {swdz : Nat → Int32} {v1 : Int32}  (hC : gC κ E cX1_readLengths RX1 none rm_X1_readLengths 6)   : ∀ (n : Nat) (v5 : Int32) (xc : Nat → Int32) (xt : Nat → Nat → Int32) (xn : Nat → Nat → Int64) (xl : Nat → Nat → Int32) (ssp : Int32), itr6 (p_X1_readLengths_L133 v1 rc rb la srow sen str stp swd) n v5 xc xt xn xl ssp = some (xcz, xtz, xnz, xlz, laz, sspz, strz, stpz, swdz) → GG κ E (xws E xk xo xcz xtz xnz xlz rc rv rb laz wch wcc wpl wun srow sspz sen strz stpz swdz rwp rdr rpd rpv rpc rzp, none) (xws E xk xo xc xt xn xl rc rv rb la wch wcc wpl wun srow ssp sen str stp swd rwp rdr rpd rpv rpc rzp) 133 [some (.ref (ea E 42)), some (.int v1), none, none, none, some (.int v5)] [] :=
  itr6_ind (fun k133 hk133 v5 xc xt xn xl ssp h => by
    unfold p_X1_readLengths_L133 at h
    refine g_iload (pc' := 135) (i := 5) hC dX1_readLengths_133 rfl rfl ?_
    refine g_iload_n (pc' := 136) (i := 1) hC dX1_readLengths_135 rfl rfl rfl ?_
    refine g_icmp_ge (pc' := 139) (tgt := 184) hC dX1_readLengths_136 (by decide) rfl h (fun h => ?_) (fun h => ?_)
    · refine g_iload (pc' := 141) (i := 5) hC dX1_readLengths_139 rfl rfl ?_
      refine g_aload_n (pc' := 142) (i := 0) hC dX1_readLengths_141 rfl rfl rfl ?_
      refine gf_X1_32 (pc' := 145) hC dX1_readLengths_142 rfl ?_
      refine al_la (pc' := 146) hC (by decide) dX1_readLengths_145 rfl ?_
      refine g_icmp_ge (pc' := 149) (tgt := 184) hC dX1_readLengths_146 (by decide) rfl h (fun h => ?_) (fun h => ?_)
      · refine g_aload_n (pc' := 150) (i := 0) hC dX1_readLengths_149 rfl rfl rfl ?_
        refine gf_X1_12 (pc' := 153) hC dX1_readLengths_150 rfl ?_
        obtain ⟨a_15, hc_16, h⟩ := bd1_some h
        refine g_callV (pc' := 156) hC (c_X4_isSound _ hc_16) ml_X1_50 (rc_Src) (by decide) rfl rfl rfl rfl dX1_readLengths_153 rfl ?_
        refine g_if_eq (pc' := 159) (tgt := 184) hC dX1_readLengths_156 (by decide) rfl h (fun h => ?_) (fun h => ?_)
        · obtain ⟨rfl, rfl, rfl, rfl, rfl, rfl, rfl, rfl, rfl⟩ := inj9 h; exact g_vret hC dX1_readLengths_184
        · refine g_aload_n (pc' := 160) (i := 0) hC dX1_readLengths_159 rfl rfl rfl ?_
          refine gf_X1_12 (pc' := 163) hC dX1_readLengths_160 rfl ?_
          refine g_aload_n (pc' := 164) (i := 0) hC dX1_readLengths_163 rfl rfl rfl ?_
          refine gf_X1_21 (pc' := 167) hC dX1_readLengths_164 rfl ?_
          refine g_aload_n (pc' := 168) (i := 0) hC dX1_readLengths_167 rfl rfl rfl ?_
          refine gf_X1_32 (pc' := 171) hC dX1_readLengths_168 rfl ?_
          refine g_iload (pc' := 173) (i := 5) hC dX1_readLengths_171 rfl rfl ?_
          obtain ⟨g_17, h⟩ := gd_some h
          refine ld_la (pc' := 174) hC (by decide) g_17 dX1_readLengths_173 rfl ?_
          refine g_l2i (pc' := 175) hC dX1_readLengths_174 rfl ?_
          obtain ⟨xc_18, xt_19, xn_20, xl_21, ssp_22, hc_23, h⟩ := bd5_some h
          refine g_callV (pc' := 178) hC (c_X4_nextText _ (by decide) hc_23) ml_X1_181 (rc_Src) (by decide) rfl rfl rfl rfl dX1_readLengths_175 rfl ?_
          refine g_iinc (pc' := 181) (i := 5) (x := v5) (k := (nI 1)) (lo' := [some (.ref (ea E 42)), some (.int v1), none, none, none, some (.int (v5 + (nI 1)))]) hC dX1_readLengths_178 rfl (by decide) rfl rfl rfl rfl ?_
          refine g_goto (tgt := 133) hC dX1_readLengths_181 (by decide) ?_
          exact hk133 _ _ _ _ _ _ h
      · obtain ⟨rfl, rfl, rfl, rfl, rfl, rfl, rfl, rfl, rfl⟩ := inj9 h; exact g_vret hC dX1_readLengths_184
    · obtain ⟨rfl, rfl, rfl, rfl, rfl, rfl, rfl, rfl, rfl⟩ := inj9 h; exact g_vret hC dX1_readLengths_184)
set_option maxRecDepth 200000 in
theorem w_X1_readLengths_J91 {κ : GK} {E : GE} {xcz : Nat → Int32} {xtz : Nat → Nat → Int32} {xnz : Nat → Nat → Int64} {xlz : Nat → Nat → Int32} {laz : Nat → Nat → Int64} {sspz : Int32} {strz : Int32} {stpz : Int32} {swdz : Nat → Int32} {v1 : Int32} {v2 : Int64} {v4 : Int32}  (hC : gC κ E cX1_readLengths RX1 none rm_X1_readLengths 6)   (h : p_X1_readLengths_J91 v1 v2 v4 xc xt xn xl rc rb la srow ssp sen str stp swd = some (xcz, xtz, xnz, xlz, laz, sspz, strz, stpz, swdz)) : GG κ E (xws E xk xo xcz xtz xnz xlz rc rv rb laz wch wcc wpl wun srow sspz sen strz stpz swdz rwp rdr rpd rpv rpc rzp, none) (xws E xk xo xc xt xn xl rc rv rb la wch wcc wpl wun srow ssp sen str stp swd rwp rdr rpd rpv rpc rzp) 91 [some (.ref (ea E 42)), some (.int v1), some (.long v2), none, some (.int v4), none] [] := by
  unfold p_X1_readLengths_J91 at h
  refine g_aload_n (pc' := 92) (i := 0) hC dX1_readLengths_91 rfl rfl rfl ?_
  refine gf_X1_12 (pc' := 95) hC dX1_readLengths_92 rfl ?_
  refine g_iload (pc' := 97) (i := 4) hC dX1_readLengths_95 rfl rfl ?_
  refine g_if_eq (pc' := 100) (tgt := 117) hC dX1_readLengths_97 (by decide) rfl h (fun h => ?_) (fun h => ?_)
  · refine g_iconst (pc' := 118) (v := (nI 0)) hC dX1_readLengths_117 (by decide) rfl ?_
    refine g_bipush (pc' := 120) (v := (nI 10)) hC dX1_readLengths_118 (by decide) rfl ?_
    refine g_aload_n (pc' := 121) (i := 0) hC dX1_readLengths_120 rfl rfl rfl ?_
    refine gf_X1_12 (pc' := 124) hC dX1_readLengths_121 rfl ?_
    refine gf_X1_81 (pc' := 127) hC dX1_readLengths_124 rfl ?_
    obtain ⟨str_12, stp_13, hc_14, h⟩ := bd2_some h
    refine g_callV (pc' := 130) hC (c_X4_demand _ hc_14) ml_X1_96 (rc_Src) (by decide) rfl rfl rfl rfl dX1_readLengths_127 rfl ?_
    refine g_iconst (pc' := 131) (v := (nI 0)) hC dX1_readLengths_130 (by decide) rfl ?_
    refine g_istore (pc' := 133) (i := 5) (lo' := [some (.ref (ea E 42)), some (.int v1), some (.long v2), none, some (.int v4), some (.int (nI 0))]) hC dX1_readLengths_131 rfl rfl rfl rfl ?_
    refine g_weak (lo' := [some (.ref (ea E 42)), some (.int v1), none, none, none, some (.int (nI 0))]) rfl ?_
    refine w_X1_readLengths_L133 hC   _ _ _ _ _ _ _ h
  · refine g_lload_n (pc' := 101) (i := 2) hC dX1_readLengths_100 rfl rfl rfl ?_
    refine g_aload_n (pc' := 102) (i := 0) hC dX1_readLengths_101 rfl rfl rfl ?_
    refine gf_X1_12 (pc' := 105) hC dX1_readLengths_102 rfl ?_
    obtain ⟨a_24, hc_25, h⟩ := bd1_some h
    refine g_callV (pc' := 108) hC (c_X4_left _ hc_25) ml_X1_54 (rc_Src) (by decide) rfl rfl rfl rfl dX1_readLengths_105 rfl ?_
    refine g_i2l (pc' := 109) hC dX1_readLengths_108 rfl ?_
    refine g_lcmp_gt (pc' := 113) (tgt := 117) hC dX1_readLengths_109 dX1_readLengths_110 rfl (by decide) rfl h (fun h => ?_) (fun h => ?_)
    · refine g_iconst (pc' := 118) (v := (nI 0)) hC dX1_readLengths_117 (by decide) rfl ?_
      refine g_bipush (pc' := 120) (v := (nI 10)) hC dX1_readLengths_118 (by decide) rfl ?_
      refine g_aload_n (pc' := 121) (i := 0) hC dX1_readLengths_120 rfl rfl rfl ?_
      refine gf_X1_12 (pc' := 124) hC dX1_readLengths_121 rfl ?_
      refine gf_X1_81 (pc' := 127) hC dX1_readLengths_124 rfl ?_
      obtain ⟨str_26, stp_27, hc_28, h⟩ := bd2_some h
      refine g_callV (pc' := 130) hC (c_X4_demand _ hc_28) ml_X1_96 (rc_Src) (by decide) rfl rfl rfl rfl dX1_readLengths_127 rfl ?_
      refine g_iconst (pc' := 131) (v := (nI 0)) hC dX1_readLengths_130 (by decide) rfl ?_
      refine g_istore (pc' := 133) (i := 5) (lo' := [some (.ref (ea E 42)), some (.int v1), some (.long v2), none, some (.int v4), some (.int (nI 0))]) hC dX1_readLengths_131 rfl rfl rfl rfl ?_
      refine g_weak (lo' := [some (.ref (ea E 42)), some (.int v1), none, none, none, some (.int (nI 0))]) rfl ?_
      refine w_X1_readLengths_L133 hC   _ _ _ _ _ _ _ h
    · refine g_iconst (pc' := 114) (v := (nI 1)) hC dX1_readLengths_113 (by decide) rfl ?_
      refine g_goto (tgt := 118) hC dX1_readLengths_114 (by decide) ?_
      refine g_bipush (pc' := 120) (v := (nI 10)) hC dX1_readLengths_118 (by decide) rfl ?_
      refine g_aload_n (pc' := 121) (i := 0) hC dX1_readLengths_120 rfl rfl rfl ?_
      refine gf_X1_12 (pc' := 124) hC dX1_readLengths_121 rfl ?_
      refine gf_X1_81 (pc' := 127) hC dX1_readLengths_124 rfl ?_
      obtain ⟨str_29, stp_30, hc_31, h⟩ := bd2_some h
      refine g_callV (pc' := 130) hC (c_X4_demand _ hc_31) ml_X1_96 (rc_Src) (by decide) rfl rfl rfl rfl dX1_readLengths_127 rfl ?_
      refine g_iconst (pc' := 131) (v := (nI 0)) hC dX1_readLengths_130 (by decide) rfl ?_
      refine g_istore (pc' := 133) (i := 5) (lo' := [some (.ref (ea E 42)), some (.int v1), some (.long v2), none, some (.int v4), some (.int (nI 0))]) hC dX1_readLengths_131 rfl rfl rfl rfl ?_
      refine g_weak (lo' := [some (.ref (ea E 42)), some (.int v1), none, none, none, some (.int (nI 0))]) rfl ?_
      refine w_X1_readLengths_L133 hC   _ _ _ _ _ _ _ h
set_option maxRecDepth 200000 in
theorem c_X1_readLengths (l : Launch) {E : GE} {xcz : Nat → Int32} {xtz : Nat → Nat → Int32} {xnz : Nat → Nat → Int64} {xlz : Nat → Nat → Int32} {laz : Nat → Nat → Int64} {sspz : Int32} {strz : Int32} {stpz : Int32} {swdz : Nat → Int32} {v1 : Int32}  (h : p_X1_readLengths v1 xc xt xn xl rc rb la srow ssp sen str stp swd = some (xcz, xtz, xnz, xlz, laz, sspz, strz, stpz, swdz)) : Met l yX1_readLengths (.code yX1_readLengths cX1_readLengths 6 none :: gU) rm_X1_readLengths (gP E (xws E xk xo xc xt xn xl rc rv rb la wch wcc wpl wun srow ssp sen str stp swd rwp rdr rpd rpv rpc rzp) [.ref (ea E 42), .int v1]) (gQ E (xws E xk xo xcz xtz xnz xlz rc rv rb laz wch wcc wpl wun srow sspz sen strz stpz swdz rwp rdr rpd rpv rpc rzp) none) 0 0 E.2.2.1 := by
  refine met_of (y := yX1_readLengths) (own := RX1) (lo := [some (.ref (ea E 42)), some (.int v1), none, none, none, none]) (by decide) rfl rfl rfl (fun κ hl hC => ?_)
  subst hl
  unfold p_X1_readLengths at h
  refine g_aload_n (pc' := 1) (i := 0) hC dX1_readLengths_0 rfl rfl rfl ?_
  refine gf_X1_12 (pc' := 4) hC dX1_readLengths_1 rfl ?_
  refine g_aload_n (pc' := 5) (i := 0) hC dX1_readLengths_4 rfl rfl rfl ?_
  refine gf_X1_32 (pc' := 8) hC dX1_readLengths_5 rfl ?_
  refine g_iload_n (pc' := 9) (i := 1) hC dX1_readLengths_8 rfl rfl rfl ?_
  refine g_iconst (pc' := 10) (v := (nI 1)) hC dX1_readLengths_9 (by decide) rfl ?_
  obtain ⟨la_1, ssp_2, str_3, stp_4, swd_5, hc_6, h⟩ := bd5_some h
  refine g_callV (pc' := 13) hC (c_X4_nextDifferences _ (by decide) hc_6) ml_X1_145 (rc_Src) (by decide) rfl rfl rfl rfl dX1_readLengths_10 rfl ?_
  refine g_lconst (pc' := 14) (v := (lN 0)) hC dX1_readLengths_13 (by decide) rfl ?_
  refine g_lstore_n (pc' := 15) (i := 2) (lo' := [some (.ref (ea E 42)), some (.int v1), some (.long (lN 0)), none, none, none]) hC dX1_readLengths_14 rfl rfl rfl rfl rfl ?_
  refine g_iconst (pc' := 16) (v := (nI 1)) hC dX1_readLengths_15 (by decide) rfl ?_
  refine g_istore (pc' := 18) (i := 4) (lo' := [some (.ref (ea E 42)), some (.int v1), some (.long (lN 0)), none, some (.int (nI 1)), none]) hC dX1_readLengths_16 rfl rfl rfl rfl ?_
  refine g_iconst (pc' := 19) (v := (nI 0)) hC dX1_readLengths_18 (by decide) rfl ?_
  refine g_istore (pc' := 21) (i := 5) (lo' := [some (.ref (ea E 42)), some (.int v1), some (.long (lN 0)), none, some (.int (nI 1)), some (.int (nI 0))]) hC dX1_readLengths_19 rfl rfl rfl rfl ?_
  refine w_X1_readLengths_L21 hC  ?_ _ _ _ _ h
  · intro v2_10 v4_11 h
    exact w_X1_readLengths_J91 hC   h
set_option maxRecDepth 200000 in
theorem c_X4_demandNothingLeft (l : Launch) {E : GE} {strz : Int32} {stpz : Int32}   (h : p_X4_demandNothingLeft ssp sen str stp = some (strz, stpz)) : Met l yX4_demandNothingLeft (.code yX4_demandNothingLeft cX4_demandNothingLeft 1 none :: gU) rm_X4_demandNothingLeft (gP E (xws E xk xo xc xt xn xl rc rv rb la wch wcc wpl wun srow ssp sen str stp swd rwp rdr rpd rpv rpc rzp) [.ref (ea E 40)]) (gQ E (xws E xk xo xc xt xn xl rc rv rb la wch wcc wpl wun srow ssp sen strz stpz swd rwp rdr rpd rpv rpc rzp) none) 0 0 E.2.2.1 := by
  refine met_of (y := yX4_demandNothingLeft) (own := RX4) (lo := [some (.ref (ea E 40))]) (by decide) rfl rfl rfl (fun κ hl hC => ?_)
  subst hl
  unfold p_X4_demandNothingLeft at h
  refine g_aload_n (pc' := 1) (i := 0) hC dX4_demandNothingLeft_0 rfl rfl rfl ?_
  refine g_aload_n (pc' := 2) (i := 0) hC dX4_demandNothingLeft_1 rfl rfl rfl ?_
  refine gf_X4_19 (pc' := 5) hC dX4_demandNothingLeft_2 rfl ?_
  refine g_aload_n (pc' := 6) (i := 0) hC dX4_demandNothingLeft_5 rfl rfl rfl ?_
  refine gf_X4_28 (pc' := 9) hC dX4_demandNothingLeft_6 rfl ?_
  refine g_icmp_lt (pc' := 12) (tgt := 16) hC dX4_demandNothingLeft_9 (by decide) rfl h (fun h => ?_) (fun h => ?_)
  · refine g_iconst (pc' := 17) (v := (nI 0)) hC dX4_demandNothingLeft_16 (by decide) rfl ?_
    refine g_bipush (pc' := 19) (v := (nI 13)) hC dX4_demandNothingLeft_17 (by decide) rfl ?_
    refine g_aload_n (pc' := 20) (i := 0) hC dX4_demandNothingLeft_19 rfl rfl rfl ?_
    refine gf_X4_19 (pc' := 23) hC dX4_demandNothingLeft_20 rfl ?_
    obtain ⟨str_1, stp_2, hc_3, h⟩ := bd2_some h
    refine g_callV (pc' := 26) hC (c_X4_demand _ hc_3) ml_X4_45 (rc_Src) (by decide) rfl rfl rfl rfl dX4_demandNothingLeft_23 rfl ?_
    obtain ⟨rfl, rfl⟩ := inj2 h; exact g_vret hC dX4_demandNothingLeft_26
  · refine g_iconst (pc' := 13) (v := (nI 1)) hC dX4_demandNothingLeft_12 (by decide) rfl ?_
    refine g_goto (tgt := 17) hC dX4_demandNothingLeft_13 (by decide) ?_
    refine g_bipush (pc' := 19) (v := (nI 13)) hC dX4_demandNothingLeft_17 (by decide) rfl ?_
    refine g_aload_n (pc' := 20) (i := 0) hC dX4_demandNothingLeft_19 rfl rfl rfl ?_
    refine gf_X4_19 (pc' := 23) hC dX4_demandNothingLeft_20 rfl ?_
    obtain ⟨str_4, stp_5, hc_6, h⟩ := bd2_some h
    refine g_callV (pc' := 26) hC (c_X4_demand _ hc_6) ml_X4_45 (rc_Src) (by decide) rfl rfl rfl rfl dX4_demandNothingLeft_23 rfl ?_
    obtain ⟨rfl, rfl⟩ := inj2 h; exact g_vret hC dX4_demandNothingLeft_26
set_option maxRecDepth 200000 in
theorem w_X4_nextLittle_L5 {κ : GK} {E : GE} {rr : Int64} {sspz : Int32} {strz : Int32} {stpz : Int32} {v1 : Int32}  (hC : gC κ E cX4_nextLittle RX4 (some .long) rm_X4_nextLittle 5)   : ∀ (n : Nat) (v2 : Int64) (v4 : Int32) (ssp : Int32) (str : Int32) (stp : Int32), itr5 (p_X4_nextLittle_L5 v1 rb srow sen) n v2 v4 ssp str stp = some (rr, sspz, strz, stpz) → GG κ E (xws E xk xo xc xt xn xl rc rv rb la wch wcc wpl wun srow sspz sen strz stpz swd rwp rdr rpd rpv rpc rzp, some (.long rr)) (xws E xk xo xc xt xn xl rc rv rb la wch wcc wpl wun srow ssp sen str stp swd rwp rdr rpd rpv rpc rzp) 5 [some (.ref (ea E 40)), some (.int v1), some (.long v2), none, some (.int v4)] [] :=
  itr5_ind (fun k5 hk5 v2 v4 ssp str stp h => by
    unfold p_X4_nextLittle_L5 at h
    refine g_iload (pc' := 7) (i := 4) hC dX4_nextLittle_5 rfl rfl ?_
    refine g_iload_n (pc' := 8) (i := 1) hC dX4_nextLittle_7 rfl rfl rfl ?_
    refine g_icmp_ge (pc' := 11) (tgt := 31) hC dX4_nextLittle_8 (by decide) rfl h (fun h => ?_) (fun h => ?_)
    · refine g_lload_n (pc' := 12) (i := 2) hC dX4_nextLittle_11 rfl rfl rfl ?_
      refine g_aload_n (pc' := 13) (i := 0) hC dX4_nextLittle_12 rfl rfl rfl ?_
      obtain ⟨a_1, ssp_2, str_3, stp_4, hc_5, h⟩ := bd4_some h
      refine g_callV (pc' := 16) hC (c_X4_next _ hc_5) ml_X4_41 (rc_Src) (by decide) rfl rfl rfl rfl dX4_nextLittle_13 rfl ?_
      refine g_i2l (pc' := 17) hC dX4_nextLittle_16 rfl ?_
      refine g_bipush (pc' := 19) (v := (nI 8)) hC dX4_nextLittle_17 (by decide) rfl ?_
      refine g_iload (pc' := 21) (i := 4) hC dX4_nextLittle_19 rfl rfl ?_
      refine g_imul (pc' := 22) hC dX4_nextLittle_21 rfl ?_
      refine g_lshl (pc' := 23) hC dX4_nextLittle_22 rfl ?_
      refine g_lor (pc' := 24) hC dX4_nextLittle_23 rfl ?_
      refine g_lstore_n (pc' := 25) (i := 2) (lo' := [some (.ref (ea E 40)), some (.int v1), some (.long (v2 ||| (lshl (i2l a_1) ((nI 8) * v4)))), none, some (.int v4)]) hC dX4_nextLittle_24 rfl rfl rfl rfl rfl ?_
      refine g_iinc (pc' := 28) (i := 4) (x := v4) (k := (nI 1)) (lo' := [some (.ref (ea E 40)), some (.int v1), some (.long (v2 ||| (lshl (i2l a_1) ((nI 8) * v4)))), none, some (.int (v4 + (nI 1)))]) hC dX4_nextLittle_25 rfl (by decide) rfl rfl rfl rfl ?_
      refine g_goto (tgt := 5) hC dX4_nextLittle_28 (by decide) ?_
      exact hk5 _ _ _ _ _ h
    · refine g_lload_n (pc' := 32) (i := 2) hC dX4_nextLittle_31 rfl rfl rfl ?_
      obtain ⟨rfl, rfl, rfl, rfl⟩ := inj4 h; exact g_lret hC dX4_nextLittle_32)
set_option maxRecDepth 200000 in
theorem c_X4_nextLittle (l : Launch) {E : GE} {rr : Int64} {sspz : Int32} {strz : Int32} {stpz : Int32} {v1 : Int32}  (h : p_X4_nextLittle v1 rb srow ssp sen str stp = some (rr, sspz, strz, stpz)) : Met l yX4_nextLittle (.code yX4_nextLittle cX4_nextLittle 5 (some .long) :: gU) rm_X4_nextLittle (gP E (xws E xk xo xc xt xn xl rc rv rb la wch wcc wpl wun srow ssp sen str stp swd rwp rdr rpd rpv rpc rzp) [.ref (ea E 40), .int v1]) (gQ E (xws E xk xo xc xt xn xl rc rv rb la wch wcc wpl wun srow sspz sen strz stpz swd rwp rdr rpd rpv rpc rzp) (some (.long rr))) 0 0 E.2.2.1 := by
  refine met_of (y := yX4_nextLittle) (own := RX4) (lo := [some (.ref (ea E 40)), some (.int v1), none, none, none]) (by decide) rfl rfl rfl (fun κ hl hC => ?_)
  subst hl
  unfold p_X4_nextLittle at h
  refine g_lconst (pc' := 1) (v := (lN 0)) hC dX4_nextLittle_0 (by decide) rfl ?_
  refine g_lstore_n (pc' := 2) (i := 2) (lo' := [some (.ref (ea E 40)), some (.int v1), some (.long (lN 0)), none, none]) hC dX4_nextLittle_1 rfl rfl rfl rfl rfl ?_
  refine g_iconst (pc' := 3) (v := (nI 0)) hC dX4_nextLittle_2 (by decide) rfl ?_
  refine g_istore (pc' := 5) (i := 4) (lo' := [some (.ref (ea E 40)), some (.int v1), some (.long (lN 0)), none, some (.int (nI 0))]) hC dX4_nextLittle_3 rfl rfl rfl rfl ?_
  refine w_X4_nextLittle_L5 hC   _ _ _ _ _ _ h
set_option maxRecDepth 200000 in
theorem w_X4_fill_L7 {κ : GK} {E : GE} {laz : Nat → Nat → Int64} {v0 : Nat} {v2 : Int32} {v3 : Int64}  (hC : gC κ E cX4_fill RX4 none rm_X4_fill 6) (hv0 : v0 < 3)  : ∀ (n : Nat) (v5 : Int32) (la : Nat → Nat → Int64), itr2 (p_X4_fill_L7 v0 v2 v3) n v5 la = some laz → GG κ E (xws E xk xo xc xt xn xl rc rv rb laz wch wcc wpl wun srow ssp sen str stp swd rwp rdr rpd rpv rpc rzp, none) (xws E xk xo xc xt xn xl rc rv rb la wch wcc wpl wun srow ssp sen str stp swd rwp rdr rpd rpv rpc rzp) 7 [some (.ref (ea E (32 + v0))), none, some (.int v2), some (.long v3), none, some (.int v5)] [] :=
  itr2_ind (fun k7 hk7 v5 la h => by
    unfold p_X4_fill_L7 at h
    refine g_iload (pc' := 9) (i := 5) hC dX4_fill_7 rfl rfl ?_
    refine g_iload_n (pc' := 10) (i := 2) hC dX4_fill_9 rfl rfl rfl ?_
    refine g_icmp_ge (pc' := 13) (tgt := 31) hC dX4_fill_10 (by decide) rfl h (fun h => ?_) (fun h => ?_)
    · refine g_iload (pc' := 15) (i := 5) hC dX4_fill_13 rfl rfl ?_
      refine g_aload_n (pc' := 16) (i := 0) hC dX4_fill_15 rfl rfl rfl ?_
      refine al_la (pc' := 17) hC hv0 dX4_fill_16 rfl ?_
      refine g_icmp_ge (pc' := 20) (tgt := 31) hC dX4_fill_17 (by decide) rfl h (fun h => ?_) (fun h => ?_)
      · refine g_aload_n (pc' := 21) (i := 0) hC dX4_fill_20 rfl rfl rfl ?_
        refine g_iload (pc' := 23) (i := 5) hC dX4_fill_21 rfl rfl ?_
        refine g_lload_n (pc' := 24) (i := 3) hC dX4_fill_23 rfl rfl rfl ?_
        obtain ⟨g_1, h⟩ := gd_some h
        refine st_la (pc' := 25) hC hv0 g_1 dX4_fill_24 rfl ?_
        refine g_iinc (pc' := 28) (i := 5) (x := v5) (k := (nI 1)) (lo' := [some (.ref (ea E (32 + v0))), none, some (.int v2), some (.long v3), none, some (.int (v5 + (nI 1)))]) hC dX4_fill_25 rfl (by decide) rfl rfl rfl rfl ?_
        refine g_goto (tgt := 7) hC dX4_fill_28 (by decide) ?_
        exact hk7 _ _ h
      · obtain rfl := inj1 h; exact g_vret hC dX4_fill_31
    · obtain rfl := inj1 h; exact g_vret hC dX4_fill_31)
set_option maxRecDepth 200000 in
theorem c_X4_fill (l : Launch) {E : GE} {laz : Nat → Nat → Int64} {v0 : Nat} {v1 : Int32} {v2 : Int32} {v3 : Int64} (hv0 : v0 < 3) (h : p_X4_fill v0 v1 v2 v3 la = some laz) : Met l yX4_fill (.code yX4_fill cX4_fill 6 none :: gU) rm_X4_fill (gP E (xws E xk xo xc xt xn xl rc rv rb la wch wcc wpl wun srow ssp sen str stp swd rwp rdr rpd rpv rpc rzp) [.ref (ea E (32 + v0)), .int v1, .int v2, .long v3]) (gQ E (xws E xk xo xc xt xn xl rc rv rb laz wch wcc wpl wun srow ssp sen str stp swd rwp rdr rpd rpv rpc rzp) none) 0 0 E.2.2.1 := by
  refine met_of (y := yX4_fill) (own := RX4) (lo := [some (.ref (ea E (32 + v0))), some (.int v1), some (.int v2), some (.long v3), none, none]) (by decide) rfl rfl rfl (fun κ hl hC => ?_)
  subst hl
  unfold p_X4_fill at h
  refine g_iload_n (pc' := 1) (i := 1) hC dX4_fill_0 rfl rfl rfl ?_
  refine g_iconst (pc' := 2) (v := (nI 0)) hC dX4_fill_1 (by decide) rfl ?_
  refine g_imax (pc' := 5) hC math_X4_82 (by decide) dX4_fill_2 rfl rfl ?_
  refine g_istore (pc' := 7) (i := 5) (lo' := [some (.ref (ea E (32 + v0))), some (.int v1), some (.int v2), some (.long v3), none, some (.int (imax v1 (nI 0)))]) hC dX4_fill_5 rfl rfl rfl rfl ?_
  refine g_weak (lo' := [some (.ref (ea E (32 + v0))), none, some (.int v2), some (.long v3), none, some (.int (imax v1 (nI 0)))]) rfl ?_
  refine w_X4_fill_L7 hC hv0  _ _ _ h
set_option maxRecDepth 200000 in
theorem w_X5_bitsOf_L2 {κ : GK} {E : GE} {rr : Int32} {v0 : Int64}  (hC : gC κ E cX5_bitsOf RX5 (some .int) rm_X5_bitsOf 3)   : ∀ (n : Nat) (v2 : Int32), itr1 (p_X5_bitsOf_L2 v0) n v2 = some rr → GG κ E (xws E xk xo xc xt xn xl rc rv rb la wch wcc wpl wun srow ssp sen str stp swd rwp rdr rpd rpv rpc rzp, some (.int rr)) (xws E xk xo xc xt xn xl rc rv rb la wch wcc wpl wun srow ssp sen str stp swd rwp rdr rpd rpv rpc rzp) 2 [some (.long v0), none, some (.int v2)] [] :=
  itr1_ind (fun k2 hk2 v2 h => by
    unfold p_X5_bitsOf_L2 at h
    refine g_iload_n (pc' := 3) (i := 2) hC dX5_bitsOf_2 rfl rfl rfl ?_
    refine g_bipush (pc' := 5) (v := (nI 64)) hC dX5_bitsOf_3 (by decide) rfl ?_
    refine g_icmp_ge (pc' := 8) (tgt := 22) hC dX5_bitsOf_5 (by decide) rfl h (fun h => ?_) (fun h => ?_)
    · refine g_lload_n (pc' := 9) (i := 0) hC dX5_bitsOf_8 rfl rfl rfl ?_
      refine g_iload_n (pc' := 10) (i := 2) hC dX5_bitsOf_9 rfl rfl rfl ?_
      refine g_lushr (pc' := 11) hC dX5_bitsOf_10 rfl ?_
      refine g_lconst (pc' := 12) (v := (lN 0)) hC dX5_bitsOf_11 (by decide) rfl ?_
      refine g_lcmp_eq (pc' := 16) (tgt := 22) hC dX5_bitsOf_12 dX5_bitsOf_13 rfl (by decide) rfl h (fun h => ?_) (fun h => ?_)
      · refine g_iload_n (pc' := 23) (i := 2) hC dX5_bitsOf_22 rfl rfl rfl ?_
        obtain rfl := inj1 h; exact g_iret hC dX5_bitsOf_23
      · refine g_iinc (pc' := 19) (i := 2) (x := v2) (k := (nI 1)) (lo' := [some (.long v0), none, some (.int (v2 + (nI 1)))]) hC dX5_bitsOf_16 rfl (by decide) rfl rfl rfl rfl ?_
        refine g_goto (tgt := 2) hC dX5_bitsOf_19 (by decide) ?_
        exact hk2 _ h
    · refine g_iload_n (pc' := 23) (i := 2) hC dX5_bitsOf_22 rfl rfl rfl ?_
      obtain rfl := inj1 h; exact g_iret hC dX5_bitsOf_23)
set_option maxRecDepth 200000 in
theorem c_X5_bitsOf (l : Launch) {E : GE} {rr : Int32} {v0 : Int64}  (h : p_X5_bitsOf v0 = some rr) : Met l yX5_bitsOf (.code yX5_bitsOf cX5_bitsOf 3 (some .int) :: gU) rm_X5_bitsOf (gP E (xws E xk xo xc xt xn xl rc rv rb la wch wcc wpl wun srow ssp sen str stp swd rwp rdr rpd rpv rpc rzp) [.long v0]) (gQ E (xws E xk xo xc xt xn xl rc rv rb la wch wcc wpl wun srow ssp sen str stp swd rwp rdr rpd rpv rpc rzp) (some (.int rr))) 0 0 E.2.2.1 := by
  refine met_of (y := yX5_bitsOf) (own := RX5) (lo := [some (.long v0), none, none]) (by decide) rfl rfl rfl (fun κ hl hC => ?_)
  subst hl
  unfold p_X5_bitsOf at h
  refine g_iconst (pc' := 1) (v := (nI 0)) hC dX5_bitsOf_0 (by decide) rfl ?_
  refine g_istore_n (pc' := 2) (i := 2) (lo' := [some (.long v0), none, some (.int (nI 0))]) hC dX5_bitsOf_1 rfl rfl rfl rfl rfl ?_
  refine w_X5_bitsOf_L2 hC   _ _ h
set_option maxRecDepth 200000 in
theorem c_X5_wholeGroups (l : Launch) {E : GE} {rr : Int32} {v0 : Int32}  (h : p_X5_wholeGroups v0 = some rr) : Met l yX5_wholeGroups (.code yX5_wholeGroups cX5_wholeGroups 1 (some .int) :: gU) rm_X5_wholeGroups (gP E (xws E xk xo xc xt xn xl rc rv rb la wch wcc wpl wun srow ssp sen str stp swd rwp rdr rpd rpv rpc rzp) [.int v0]) (gQ E (xws E xk xo xc xt xn xl rc rv rb la wch wcc wpl wun srow ssp sen str stp swd rwp rdr rpd rpv rpc rzp) (some (.int rr))) 0 0 E.2.2.1 := by
  refine met_of (y := yX5_wholeGroups) (own := RX5) (lo := [some (.int v0)]) (by decide) rfl rfl rfl (fun κ hl hC => ?_)
  subst hl
  unfold p_X5_wholeGroups at h
  refine g_iload_n (pc' := 1) (i := 0) hC dX5_wholeGroups_0 rfl rfl rfl ?_
  refine g_bipush (pc' := 3) (v := (nI 8)) hC dX5_wholeGroups_1 (by decide) rfl ?_
  refine g_iadd (pc' := 4) hC dX5_wholeGroups_3 rfl ?_
  refine g_iconst (pc' := 5) (v := (nI 1)) hC dX5_wholeGroups_4 (by decide) rfl ?_
  refine g_isub (pc' := 6) hC dX5_wholeGroups_5 rfl ?_
  refine g_bipush (pc' := 8) (v := (nI 8)) hC dX5_wholeGroups_6 (by decide) rfl ?_
  refine g_idiv (pc' := 9) hC dX5_wholeGroups_8 (by decide) rfl ?_
  obtain rfl := inj1 h; exact g_iret hC dX5_wholeGroups_9
set_option maxRecDepth 200000 in
theorem w_X4_nextRuns_J185 {κ : GK} {E : GE} {laz : Nat → Nat → Int64} {sspz : Int32} {strz : Int32} {stpz : Int32} {v1 : Nat} {v2 : Int32} {v3 : Int32} {v4 : Int32} {v5 : Int32} {v6 : Int32} {v10 : Int64} {v14 : Int64} {s1 : Int32} {k6 : Int32 → Int32 → (Nat → Nat → Int64) → Int32 → Int32 → Int32 → Option ((Nat → Nat → Int64) × Int32 × Int32 × Int32)} (hC : gC κ E cX4_nextRuns RX4 none rm_X4_nextRuns 16) (hv1 : v1 < 3) (hk6 : ∀ (v4 : Int32) (v5 : Int32) (la : Nat → Nat → Int64) (ssp : Int32) (str : Int32) (stp : Int32), k6 v4 v5 la ssp str stp = some (laz, sspz, strz, stpz) → GG κ E (xws E xk xo xc xt xn xl rc rv rb laz wch wcc wpl wun srow sspz sen strz stpz swd rwp rdr rpd rpv rpc rzp, none) (xws E xk xo xc xt xn xl rc rv rb la wch wcc wpl wun srow ssp sen str stp swd rwp rdr rpd rpv rpc rzp) 6 [some (.ref (ea E 40)), some (.ref (ea E (32 + v1))), some (.int v2), some (.int v3), some (.int v4), some (.int v5), none, none, none, none, none, none, none, none, none, none] []) (h : p_X4_nextRuns_J185 v1 v4 v5 v6 v10 v14 s1 la ssp str stp k6 = some (laz, sspz, strz, stpz)) : GG κ E (xws E xk xo xc xt xn xl rc rv rb laz wch wcc wpl wun srow sspz sen strz stpz swd rwp rdr rpd rpv rpc rzp, none) (xws E xk xo xc xt xn xl rc rv rb la wch wcc wpl wun srow ssp sen str stp swd rwp rdr rpd rpv rpc rzp) 185 [some (.ref (ea E 40)), some (.ref (ea E (32 + v1))), some (.int v2), some (.int v3), some (.int v4), some (.int v5), some (.int v6), none, none, none, some (.long v10), none, none, none, some (.long v14), none] [.int s1, .ref (ea E 40)] := by
  unfold p_X4_nextRuns_J185 at h
  refine g_iconst (pc' := 186) (v := (nI 4)) hC dX4_nextRuns_185 (by decide) rfl ?_
  refine g_iload (pc' := 188) (i := 6) hC dX4_nextRuns_186 rfl rfl ?_
  obtain ⟨str_16, stp_17, hc_18, h⟩ := bd2_some h
  refine g_callV (pc' := 191) hC (c_X4_demand _ hc_18) ml_X4_45 (rc_Src) (by decide) rfl rfl rfl rfl dX4_nextRuns_188 rfl ?_
  refine g_aload_n (pc' := 192) (i := 1) hC dX4_nextRuns_191 rfl rfl rfl ?_
  refine g_iload (pc' := 194) (i := 4) hC dX4_nextRuns_192 rfl rfl ?_
  refine g_iload (pc' := 196) (i := 4) hC dX4_nextRuns_194 rfl rfl ?_
  refine g_lload (pc' := 198) (i := 10) hC dX4_nextRuns_196 rfl rfl ?_
  refine g_l2i (pc' := 199) hC dX4_nextRuns_198 rfl ?_
  refine g_iadd (pc' := 200) hC dX4_nextRuns_199 rfl ?_
  refine g_lload (pc' := 202) (i := 14) hC dX4_nextRuns_200 rfl rfl ?_
  obtain ⟨la_19, hc_20, h⟩ := bd1_some h
  refine g_callS (pc' := 205) hC (c_X4_fill _ hv1 hc_20) ml_X4_78  (by decide) rfl rfl rfl dX4_nextRuns_202 rfl ?_
  refine g_iload (pc' := 207) (i := 4) hC dX4_nextRuns_205 rfl rfl ?_
  refine g_lload (pc' := 209) (i := 10) hC dX4_nextRuns_207 rfl rfl ?_
  refine g_l2i (pc' := 210) hC dX4_nextRuns_209 rfl ?_
  refine g_iadd (pc' := 211) hC dX4_nextRuns_210 rfl ?_
  refine g_istore (pc' := 213) (i := 4) (lo' := [some (.ref (ea E 40)), some (.ref (ea E (32 + v1))), some (.int v2), some (.int v3), some (.int (v4 + (l2i v10))), some (.int v5), some (.int v6), none, none, none, some (.long v10), none, none, none, some (.long v14), none]) hC dX4_nextRuns_211 rfl rfl rfl rfl ?_
  refine g_iinc (pc' := 216) (i := 5) (x := v5) (k := (nI 1)) (lo' := [some (.ref (ea E 40)), some (.ref (ea E (32 + v1))), some (.int v2), some (.int v3), some (.int (v4 + (l2i v10))), some (.int (v5 + (nI 1))), some (.int v6), none, none, none, some (.long v10), none, none, none, some (.long v14), none]) hC dX4_nextRuns_213 rfl (by decide) rfl rfl rfl rfl ?_
  refine g_goto (tgt := 6) hC dX4_nextRuns_216 (by decide) ?_
  refine g_weak (lo' := [some (.ref (ea E 40)), some (.ref (ea E (32 + v1))), some (.int v2), some (.int v3), some (.int (v4 + (l2i v10))), some (.int (v5 + (nI 1))), none, none, none, none, none, none, none, none, none, none]) rfl ?_
  exact hk6 _ _ _ _ _ _ h
set_option maxRecDepth 200000 in
theorem w_X4_nextRuns_J103 {κ : GK} {E : GE} {laz : Nat → Nat → Int64} {sspz : Int32} {strz : Int32} {stpz : Int32} {v1 : Nat} {v2 : Int32} {v3 : Int32} {v4 : Int32} {v5 : Int32} {v6 : Int32} {v9 : Int32} {v10 : Int64} {s1 : Int32} {k6 : Int32 → Int32 → (Nat → Nat → Int64) → Int32 → Int32 → Int32 → Option ((Nat → Nat → Int64) × Int32 × Int32 × Int32)} (hC : gC κ E cX4_nextRuns RX4 none rm_X4_nextRuns 16) (hv1 : v1 < 3) (hk6 : ∀ (v4 : Int32) (v5 : Int32) (la : Nat → Nat → Int64) (ssp : Int32) (str : Int32) (stp : Int32), k6 v4 v5 la ssp str stp = some (laz, sspz, strz, stpz) → GG κ E (xws E xk xo xc xt xn xl rc rv rb laz wch wcc wpl wun srow sspz sen strz stpz swd rwp rdr rpd rpv rpc rzp, none) (xws E xk xo xc xt xn xl rc rv rb la wch wcc wpl wun srow ssp sen str stp swd rwp rdr rpd rpv rpc rzp) 6 [some (.ref (ea E 40)), some (.ref (ea E (32 + v1))), some (.int v2), some (.int v3), some (.int v4), some (.int v5), none, none, none, none, none, none, none, none, none, none] []) (h : p_X4_nextRuns_J103 v1 v2 v3 v4 v5 v6 v9 v10 s1 rb la srow ssp sen str stp k6 = some (laz, sspz, strz, stpz)) : GG κ E (xws E xk xo xc xt xn xl rc rv rb laz wch wcc wpl wun srow sspz sen strz stpz swd rwp rdr rpd rpv rpc rzp, none) (xws E xk xo xc xt xn xl rc rv rb la wch wcc wpl wun srow ssp sen str stp swd rwp rdr rpd rpv rpc rzp) 103 [some (.ref (ea E 40)), some (.ref (ea E (32 + v1))), some (.int v2), some (.int v3), some (.int v4), some (.int v5), some (.int v6), none, none, some (.int v9), some (.long v10), none, none, none, none, none] [.int s1, .ref (ea E 40)] := by
  unfold p_X4_nextRuns_J103 at h
  refine g_iconst (pc' := 104) (v := (nI 3)) hC dX4_nextRuns_103 (by decide) rfl ?_
  refine g_iload (pc' := 106) (i := 6) hC dX4_nextRuns_104 rfl rfl ?_
  obtain ⟨str_6, stp_7, hc_8, h⟩ := bd2_some h
  refine g_callV (pc' := 109) hC (c_X4_demand _ hc_8) ml_X4_45 (rc_Src) (by decide) rfl rfl rfl rfl dX4_nextRuns_106 rfl ?_
  refine g_aload_n (pc' := 110) (i := 0) hC dX4_nextRuns_109 rfl rfl rfl ?_
  refine gf_X4_31 (pc' := 113) hC dX4_nextRuns_110 rfl ?_
  refine g_if_eq (pc' := 116) (tgt := 117) hC dX4_nextRuns_113 (by decide) rfl h (fun h => ?_) (fun h => ?_)
  · refine g_iload (pc' := 119) (i := 9) hC dX4_nextRuns_117 rfl rfl ?_
    refine g_if_eq (pc' := 122) (tgt := 151) hC dX4_nextRuns_119 (by decide) rfl h (fun h => ?_) (fun h => ?_)
    · refine g_aload_n (pc' := 152) (i := 0) hC dX4_nextRuns_151 rfl rfl rfl ?_
      refine gf_X4_19 (pc' := 155) hC dX4_nextRuns_152 rfl ?_
      refine g_istore (pc' := 157) (i := 6) (lo' := [some (.ref (ea E 40)), some (.ref (ea E (32 + v1))), some (.int v2), some (.int v3), some (.int v4), some (.int v5), some (.int ssp), none, none, some (.int v9), some (.long v10), none, none, none, none, none]) hC dX4_nextRuns_155 rfl rfl rfl rfl ?_
      refine g_aload_n (pc' := 158) (i := 0) hC dX4_nextRuns_157 rfl rfl rfl ?_
      refine g_iload_n (pc' := 159) (i := 3) hC dX4_nextRuns_158 rfl rfl rfl ?_
      refine g_bipush (pc' := 161) (v := (nI 7)) hC dX4_nextRuns_159 (by decide) rfl ?_
      refine g_iadd (pc' := 162) hC dX4_nextRuns_161 rfl ?_
      refine g_bipush (pc' := 164) (v := (nI 8)) hC dX4_nextRuns_162 (by decide) rfl ?_
      refine g_idiv (pc' := 165) hC dX4_nextRuns_164 (by decide) rfl ?_
      obtain ⟨a_9, ssp_10, str_11, stp_12, hc_13, h⟩ := bd4_some h
      refine g_callV (pc' := 168) hC (c_X4_nextLittle _ hc_13) ml_X4_70 (rc_Src) (by decide) rfl rfl rfl rfl dX4_nextRuns_165 rfl ?_
      refine g_lstore (pc' := 170) (i := 14) (lo' := [some (.ref (ea E 40)), some (.ref (ea E (32 + v1))), some (.int v2), some (.int v3), some (.int v4), some (.int v5), some (.int ssp), none, none, some (.int v9), some (.long v10), none, none, none, some (.long a_9), none]) hC dX4_nextRuns_168 rfl rfl rfl rfl ?_
      refine g_aload_n (pc' := 171) (i := 0) hC dX4_nextRuns_170 rfl rfl rfl ?_
      refine g_lload (pc' := 173) (i := 14) hC dX4_nextRuns_171 rfl rfl ?_
      obtain ⟨a_14, hc_15, h⟩ := bd1_some h
      refine g_callN (pc' := 176) hC (c_X5_bitsOf _ hc_15) ml_X4_74  (by decide) rfl rfl rfl dX4_nextRuns_173 rfl ?_
      refine g_iload_n (pc' := 177) (i := 3) hC dX4_nextRuns_176 rfl rfl rfl ?_
      refine g_icmp_gt (pc' := 180) (tgt := 184) hC dX4_nextRuns_177 (by decide) rfl h (fun h => ?_) (fun h => ?_)
      · refine g_iconst (pc' := 185) (v := (nI 0)) hC dX4_nextRuns_184 (by decide) rfl ?_
        refine g_weak (lo' := [some (.ref (ea E 40)), some (.ref (ea E (32 + v1))), some (.int v2), some (.int v3), some (.int v4), some (.int v5), some (.int ssp), none, none, none, some (.long v10), none, none, none, some (.long a_9), none]) rfl ?_
        exact w_X4_nextRuns_J185 hC hv1 hk6 h
      · refine g_iconst (pc' := 181) (v := (nI 1)) hC dX4_nextRuns_180 (by decide) rfl ?_
        refine g_goto (tgt := 185) hC dX4_nextRuns_181 (by decide) ?_
        refine g_weak (lo' := [some (.ref (ea E 40)), some (.ref (ea E (32 + v1))), some (.int v2), some (.int v3), some (.int v4), some (.int v5), some (.int ssp), none, none, none, some (.long v10), none, none, none, some (.long a_9), none]) rfl ?_
        exact w_X4_nextRuns_J185 hC hv1 hk6 h
    · refine g_aload_n (pc' := 123) (i := 0) hC dX4_nextRuns_122 rfl rfl rfl ?_
      refine g_aload_n (pc' := 124) (i := 1) hC dX4_nextRuns_123 rfl rfl rfl ?_
      refine g_iload (pc' := 126) (i := 4) hC dX4_nextRuns_124 rfl rfl ?_
      refine g_iload_n (pc' := 127) (i := 2) hC dX4_nextRuns_126 rfl rfl rfl ?_
      refine g_lload (pc' := 129) (i := 10) hC dX4_nextRuns_127 rfl rfl ?_
      refine g_l2i (pc' := 130) hC dX4_nextRuns_129 rfl ?_
      refine g_bipush (pc' := 132) (v := (nI 8)) hC dX4_nextRuns_130 (by decide) rfl ?_
      refine g_imul (pc' := 133) hC dX4_nextRuns_132 rfl ?_
      refine g_iload_n (pc' := 134) (i := 3) hC dX4_nextRuns_133 rfl rfl rfl ?_
      obtain ⟨la_21, ssp_22, str_23, stp_24, hc_25, h⟩ := bd4_some h
      refine g_callV (pc' := 137) hC (c_X4_nextPacked _ hv1 hc_25) ml_X4_66 (rc_Src) (by decide) rfl rfl rfl rfl dX4_nextRuns_134 rfl ?_
      refine g_iload (pc' := 139) (i := 4) hC dX4_nextRuns_137 rfl rfl ?_
      refine g_lload (pc' := 141) (i := 10) hC dX4_nextRuns_139 rfl rfl ?_
      refine g_l2i (pc' := 142) hC dX4_nextRuns_141 rfl ?_
      refine g_bipush (pc' := 144) (v := (nI 8)) hC dX4_nextRuns_142 (by decide) rfl ?_
      refine g_imul (pc' := 145) hC dX4_nextRuns_144 rfl ?_
      refine g_iadd (pc' := 146) hC dX4_nextRuns_145 rfl ?_
      refine g_istore (pc' := 148) (i := 4) (lo' := [some (.ref (ea E 40)), some (.ref (ea E (32 + v1))), some (.int v2), some (.int v3), some (.int (v4 + ((l2i v10) * (nI 8)))), some (.int v5), some (.int v6), none, none, some (.int v9), some (.long v10), none, none, none, none, none]) hC dX4_nextRuns_146 rfl rfl rfl rfl ?_
      refine g_goto (tgt := 213) hC dX4_nextRuns_148 (by decide) ?_
      refine g_iinc (pc' := 216) (i := 5) (x := v5) (k := (nI 1)) (lo' := [some (.ref (ea E 40)), some (.ref (ea E (32 + v1))), some (.int v2), some (.int v3), some (.int (v4 + ((l2i v10) * (nI 8)))), some (.int (v5 + (nI 1))), some (.int v6), none, none, some (.int v9), some (.long v10), none, none, none, none, none]) hC dX4_nextRuns_213 rfl (by decide) rfl rfl rfl rfl ?_
      refine g_goto (tgt := 6) hC dX4_nextRuns_216 (by decide) ?_
      refine g_weak (lo' := [some (.ref (ea E 40)), some (.ref (ea E (32 + v1))), some (.int v2), some (.int v3), some (.int (v4 + ((l2i v10) * (nI 8)))), some (.int (v5 + (nI 1))), none, none, none, none, none, none, none, none, none, none]) rfl ?_
      exact hk6 _ _ _ _ _ _ h
  · obtain ⟨rfl, rfl, rfl, rfl⟩ := inj4 h; exact g_vret hC dX4_nextRuns_116
set_option maxRecDepth 200000 in
theorem w_X4_nextRuns_J102 {κ : GK} {E : GE} {laz : Nat → Nat → Int64} {sspz : Int32} {strz : Int32} {stpz : Int32} {v1 : Nat} {v2 : Int32} {v3 : Int32} {v4 : Int32} {v5 : Int32} {v6 : Int32} {v9 : Int32} {v10 : Int64} {k6 : Int32 → Int32 → (Nat → Nat → Int64) → Int32 → Int32 → Int32 → Option ((Nat → Nat → Int64) × Int32 × Int32 × Int32)} (hC : gC κ E cX4_nextRuns RX4 none rm_X4_nextRuns 16) (hv1 : v1 < 3) (hk6 : ∀ (v4 : Int32) (v5 : Int32) (la : Nat → Nat → Int64) (ssp : Int32) (str : Int32) (stp : Int32), k6 v4 v5 la ssp str stp = some (laz, sspz, strz, stpz) → GG κ E (xws E xk xo xc xt xn xl rc rv rb laz wch wcc wpl wun srow sspz sen strz stpz swd rwp rdr rpd rpv rpc rzp, none) (xws E xk xo xc xt xn xl rc rv rb la wch wcc wpl wun srow ssp sen str stp swd rwp rdr rpd rpv rpc rzp) 6 [some (.ref (ea E 40)), some (.ref (ea E (32 + v1))), some (.int v2), some (.int v3), some (.int v4), some (.int v5), none, none, none, none, none, none, none, none, none, none] []) (h : p_X4_nextRuns_J102 v1 v2 v3 v4 v5 v6 v9 v10 rb la srow ssp sen str stp k6 = some (laz, sspz, strz, stpz)) : GG κ E (xws E xk xo xc xt xn xl rc rv rb laz wch wcc wpl wun srow sspz sen strz stpz swd rwp rdr rpd rpv rpc rzp, none) (xws E xk xo xc xt xn xl rc rv rb la wch wcc wpl wun srow ssp sen str stp swd rwp rdr rpd rpv rpc rzp) 102 [some (.ref (ea E 40)), some (.ref (ea E (32 + v1))), some (.int v2), some (.int v3), some (.int v4), some (.int v5), some (.int v6), none, none, some (.int v9), some (.long v10), none, none, none, none, none] [.ref (ea E 40)] := by
  unfold p_X4_nextRuns_J102 at h
  refine g_iconst (pc' := 103) (v := (nI 0)) hC dX4_nextRuns_102 (by decide) rfl ?_
  exact w_X4_nextRuns_J103 hC hv1 hk6 h
set_option maxRecDepth 200000 in
theorem w_X4_nextRuns_J80 {κ : GK} {E : GE} {laz : Nat → Nat → Int64} {sspz : Int32} {strz : Int32} {stpz : Int32} {v1 : Nat} {v2 : Int32} {v3 : Int32} {v4 : Int32} {v5 : Int32} {v6 : Int32} {v9 : Int32} {v10 : Int64} {s0 : Int64} {k6 : Int32 → Int32 → (Nat → Nat → Int64) → Int32 → Int32 → Int32 → Option ((Nat → Nat → Int64) × Int32 × Int32 × Int32)} (hC : gC κ E cX4_nextRuns RX4 none rm_X4_nextRuns 16) (hv1 : v1 < 3) (hk6 : ∀ (v4 : Int32) (v5 : Int32) (la : Nat → Nat → Int64) (ssp : Int32) (str : Int32) (stp : Int32), k6 v4 v5 la ssp str stp = some (laz, sspz, strz, stpz) → GG κ E (xws E xk xo xc xt xn xl rc rv rb laz wch wcc wpl wun srow sspz sen strz stpz swd rwp rdr rpd rpv rpc rzp, none) (xws E xk xo xc xt xn xl rc rv rb la wch wcc wpl wun srow ssp sen str stp swd rwp rdr rpd rpv rpc rzp) 6 [some (.ref (ea E 40)), some (.ref (ea E (32 + v1))), some (.int v2), some (.int v3), some (.int v4), some (.int v5), none, none, none, none, none, none, none, none, none, none] []) (h : p_X4_nextRuns_J80 v1 v2 v3 v4 v5 v6 v9 v10 s0 rb la srow ssp sen str stp k6 = some (laz, sspz, strz, stpz)) : GG κ E (xws E xk xo xc xt xn xl rc rv rb laz wch wcc wpl wun srow sspz sen strz stpz swd rwp rdr rpd rpv rpc rzp, none) (xws E xk xo xc xt xn xl rc rv rb la wch wcc wpl wun srow ssp sen str stp swd rwp rdr rpd rpv rpc rzp) 80 [some (.ref (ea E 40)), some (.ref (ea E (32 + v1))), some (.int v2), some (.int v3), some (.int v4), some (.int v5), some (.int v6), none, none, some (.int v9), some (.long v10), none, none, none, none, none] [.long s0] := by
  unfold p_X4_nextRuns_J80 at h
  refine g_lstore (pc' := 82) (i := 12) (lo' := [some (.ref (ea E 40)), some (.ref (ea E (32 + v1))), some (.int v2), some (.int v3), some (.int v4), some (.int v5), some (.int v6), none, none, some (.int v9), some (.long v10), none, some (.long s0), none, none, none]) hC dX4_nextRuns_80 rfl rfl rfl rfl ?_
  refine g_aload_n (pc' := 83) (i := 0) hC dX4_nextRuns_82 rfl rfl rfl ?_
  refine g_lload (pc' := 85) (i := 10) hC dX4_nextRuns_83 rfl rfl ?_
  refine g_lconst (pc' := 86) (v := (lN 1)) hC dX4_nextRuns_85 (by decide) rfl ?_
  refine g_lcmp_lt (pc' := 90) (tgt := 102) hC dX4_nextRuns_86 dX4_nextRuns_87 rfl (by decide) rfl h (fun h => ?_) (fun h => ?_)
  · refine g_weak (lo' := [some (.ref (ea E 40)), some (.ref (ea E (32 + v1))), some (.int v2), some (.int v3), some (.int v4), some (.int v5), some (.int v6), none, none, some (.int v9), some (.long v10), none, none, none, none, none]) rfl ?_
    exact w_X4_nextRuns_J102 hC hv1 hk6 h
  · refine g_lload (pc' := 92) (i := 10) hC dX4_nextRuns_90 rfl rfl ?_
    refine g_lload (pc' := 94) (i := 12) hC dX4_nextRuns_92 rfl rfl ?_
    refine g_lcmp_gt (pc' := 98) (tgt := 102) hC dX4_nextRuns_94 dX4_nextRuns_95 rfl (by decide) rfl h (fun h => ?_) (fun h => ?_)
    · refine g_weak (lo' := [some (.ref (ea E 40)), some (.ref (ea E (32 + v1))), some (.int v2), some (.int v3), some (.int v4), some (.int v5), some (.int v6), none, none, some (.int v9), some (.long v10), none, none, none, none, none]) rfl ?_
      exact w_X4_nextRuns_J102 hC hv1 hk6 h
    · refine g_iconst (pc' := 99) (v := (nI 1)) hC dX4_nextRuns_98 (by decide) rfl ?_
      refine g_goto (tgt := 103) hC dX4_nextRuns_99 (by decide) ?_
      refine g_weak (lo' := [some (.ref (ea E 40)), some (.ref (ea E (32 + v1))), some (.int v2), some (.int v3), some (.int v4), some (.int v5), some (.int v6), none, none, some (.int v9), some (.long v10), none, none, none, none, none]) rfl ?_
      exact w_X4_nextRuns_J103 hC hv1 hk6 h
set_option maxRecDepth 200000 in
theorem w_X4_nextRuns_J51 {κ : GK} {E : GE} {laz : Nat → Nat → Int64} {sspz : Int32} {strz : Int32} {stpz : Int32} {v1 : Nat} {v2 : Int32} {v3 : Int32} {v4 : Int32} {v5 : Int32} {v6 : Int32} {v7 : Int64} {s0 : Int32} {k6 : Int32 → Int32 → (Nat → Nat → Int64) → Int32 → Int32 → Int32 → Option ((Nat → Nat → Int64) × Int32 × Int32 × Int32)} (hC : gC κ E cX4_nextRuns RX4 none rm_X4_nextRuns 16) (hv1 : v1 < 3) (hk6 : ∀ (v4 : Int32) (v5 : Int32) (la : Nat → Nat → Int64) (ssp : Int32) (str : Int32) (stp : Int32), k6 v4 v5 la ssp str stp = some (laz, sspz, strz, stpz) → GG κ E (xws E xk xo xc xt xn xl rc rv rb laz wch wcc wpl wun srow sspz sen strz stpz swd rwp rdr rpd rpv rpc rzp, none) (xws E xk xo xc xt xn xl rc rv rb la wch wcc wpl wun srow ssp sen str stp swd rwp rdr rpd rpv rpc rzp) 6 [some (.ref (ea E 40)), some (.ref (ea E (32 + v1))), some (.int v2), some (.int v3), some (.int v4), some (.int v5), none, none, none, none, none, none, none, none, none, none] []) (h : p_X4_nextRuns_J51 v1 v2 v3 v4 v5 v6 v7 s0 rb la srow ssp sen str stp k6 = some (laz, sspz, strz, stpz)) : GG κ E (xws E xk xo xc xt xn xl rc rv rb laz wch wcc wpl wun srow sspz sen strz stpz swd rwp rdr rpd rpv rpc rzp, none) (xws E xk xo xc xt xn xl rc rv rb la wch wcc wpl wun srow ssp sen str stp swd rwp rdr rpd rpv rpc rzp) 51 [some (.ref (ea E 40)), some (.ref (ea E (32 + v1))), some (.int v2), some (.int v3), some (.int v4), some (.int v5), some (.int v6), some (.long v7), none, none, none, none, none, none, none, none] [.int s0] := by
  unfold p_X4_nextRuns_J51 at h
  refine g_istore (pc' := 53) (i := 9) (lo' := [some (.ref (ea E 40)), some (.ref (ea E (32 + v1))), some (.int v2), some (.int v3), some (.int v4), some (.int v5), some (.int v6), some (.long v7), none, some (.int s0), none, none, none, none, none, none]) hC dX4_nextRuns_51 rfl rfl rfl rfl ?_
  refine g_lload (pc' := 55) (i := 7) hC dX4_nextRuns_53 rfl rfl ?_
  refine g_iconst (pc' := 56) (v := (nI 1)) hC dX4_nextRuns_55 (by decide) rfl ?_
  refine g_lushr (pc' := 57) hC dX4_nextRuns_56 rfl ?_
  refine g_lstore (pc' := 59) (i := 10) (lo' := [some (.ref (ea E 40)), some (.ref (ea E (32 + v1))), some (.int v2), some (.int v3), some (.int v4), some (.int v5), some (.int v6), some (.long v7), none, some (.int s0), some (.long (lushr v7 (nI 1))), none, none, none, none, none]) hC dX4_nextRuns_57 rfl rfl rfl rfl ?_
  refine g_iload (pc' := 61) (i := 9) hC dX4_nextRuns_59 rfl rfl ?_
  refine g_if_eq (pc' := 64) (tgt := 75) hC dX4_nextRuns_61 (by decide) rfl h (fun h => ?_) (fun h => ?_)
  · refine g_iload_n (pc' := 76) (i := 2) hC dX4_nextRuns_75 rfl rfl rfl ?_
    refine g_iload (pc' := 78) (i := 4) hC dX4_nextRuns_76 rfl rfl ?_
    refine g_isub (pc' := 79) hC dX4_nextRuns_78 rfl ?_
    refine g_i2l (pc' := 80) hC dX4_nextRuns_79 rfl ?_
    refine g_weak (lo' := [some (.ref (ea E 40)), some (.ref (ea E (32 + v1))), some (.int v2), some (.int v3), some (.int v4), some (.int v5), some (.int v6), none, none, some (.int s0), some (.long (lushr v7 (nI 1))), none, none, none, none, none]) rfl ?_
    exact w_X4_nextRuns_J80 hC hv1 hk6 h
  · refine g_iload_n (pc' := 65) (i := 2) hC dX4_nextRuns_64 rfl rfl rfl ?_
    refine g_iload (pc' := 67) (i := 4) hC dX4_nextRuns_65 rfl rfl ?_
    refine g_isub (pc' := 68) hC dX4_nextRuns_67 rfl ?_
    obtain ⟨a_26, hc_27, h⟩ := bd1_some h
    refine g_callN (pc' := 71) hC (c_X5_wholeGroups _ hc_27) ml_X4_62  (by decide) rfl rfl rfl dX4_nextRuns_68 rfl ?_
    refine g_i2l (pc' := 72) hC dX4_nextRuns_71 rfl ?_
    refine g_goto (tgt := 80) hC dX4_nextRuns_72 (by decide) ?_
    refine g_weak (lo' := [some (.ref (ea E 40)), some (.ref (ea E (32 + v1))), some (.int v2), some (.int v3), some (.int v4), some (.int v5), some (.int v6), none, none, some (.int s0), some (.long (lushr v7 (nI 1))), none, none, none, none, none]) rfl ?_
    exact w_X4_nextRuns_J80 hC hv1 hk6 h
set_option maxRecDepth 200000 in
theorem w_X4_nextRuns_L6 {κ : GK} {E : GE} {laz : Nat → Nat → Int64} {sspz : Int32} {strz : Int32} {stpz : Int32} {v1 : Nat} {v2 : Int32} {v3 : Int32}  (hC : gC κ E cX4_nextRuns RX4 none rm_X4_nextRuns 16) (hv1 : v1 < 3)  : ∀ (n : Nat) (v4 : Int32) (v5 : Int32) (la : Nat → Nat → Int64) (ssp : Int32) (str : Int32) (stp : Int32), itr6 (p_X4_nextRuns_L6 v1 v2 v3 rb srow sen) n v4 v5 la ssp str stp = some (laz, sspz, strz, stpz) → GG κ E (xws E xk xo xc xt xn xl rc rv rb laz wch wcc wpl wun srow sspz sen strz stpz swd rwp rdr rpd rpv rpc rzp, none) (xws E xk xo xc xt xn xl rc rv rb la wch wcc wpl wun srow ssp sen str stp swd rwp rdr rpd rpv rpc rzp) 6 [some (.ref (ea E 40)), some (.ref (ea E (32 + v1))), some (.int v2), some (.int v3), some (.int v4), some (.int v5), none, none, none, none, none, none, none, none, none, none] [] :=
  itr6_ind (fun k6 hk6 v4 v5 la ssp str stp h => by
    unfold p_X4_nextRuns_L6 at h
    refine g_iload (pc' := 8) (i := 5) hC dX4_nextRuns_6 rfl rfl ?_
    refine g_iload_n (pc' := 9) (i := 2) hC dX4_nextRuns_8 rfl rfl rfl ?_
    refine g_icmp_ge (pc' := 12) (tgt := 219) hC dX4_nextRuns_9 (by decide) rfl h (fun h => ?_) (fun h => ?_)
    · refine g_iload (pc' := 14) (i := 4) hC dX4_nextRuns_12 rfl rfl ?_
      refine g_iload_n (pc' := 15) (i := 2) hC dX4_nextRuns_14 rfl rfl rfl ?_
      refine g_icmp_ge (pc' := 18) (tgt := 219) hC dX4_nextRuns_15 (by decide) rfl h (fun h => ?_) (fun h => ?_)
      · refine g_aload_n (pc' := 19) (i := 0) hC dX4_nextRuns_18 rfl rfl rfl ?_
        refine gf_X4_31 (pc' := 22) hC dX4_nextRuns_19 rfl ?_
        refine g_if_ne (pc' := 25) (tgt := 219) hC dX4_nextRuns_22 (by decide) rfl h (fun h => ?_) (fun h => ?_)
        · refine g_aload_n (pc' := 26) (i := 0) hC dX4_nextRuns_25 rfl rfl rfl ?_
          refine gf_X4_19 (pc' := 29) hC dX4_nextRuns_26 rfl ?_
          refine g_istore (pc' := 31) (i := 6) (lo' := [some (.ref (ea E 40)), some (.ref (ea E (32 + v1))), some (.int v2), some (.int v3), some (.int v4), some (.int v5), some (.int ssp), none, none, none, none, none, none, none, none, none]) hC dX4_nextRuns_29 rfl rfl rfl rfl ?_
          refine g_aload_n (pc' := 32) (i := 0) hC dX4_nextRuns_31 rfl rfl rfl ?_
          obtain ⟨a_1, ssp_2, str_3, stp_4, hc_5, h⟩ := bd4_some h
          refine g_callV (pc' := 35) hC (c_X4_nextVar _ hc_5) ml_X4_58 (rc_Src) (by decide) rfl rfl rfl rfl dX4_nextRuns_32 rfl ?_
          refine g_lstore (pc' := 37) (i := 7) (lo' := [some (.ref (ea E 40)), some (.ref (ea E (32 + v1))), some (.int v2), some (.int v3), some (.int v4), some (.int v5), some (.int ssp), some (.long a_1), none, none, none, none, none, none, none, none]) hC dX4_nextRuns_35 rfl rfl rfl rfl ?_
          refine g_lload (pc' := 39) (i := 7) hC dX4_nextRuns_37 rfl rfl ?_
          refine g_lconst (pc' := 40) (v := (lN 1)) hC dX4_nextRuns_39 (by decide) rfl ?_
          refine g_land (pc' := 41) hC dX4_nextRuns_40 rfl ?_
          refine g_lconst (pc' := 42) (v := (lN 0)) hC dX4_nextRuns_41 (by decide) rfl ?_
          refine g_lcmp_eq (pc' := 46) (tgt := 50) hC dX4_nextRuns_42 dX4_nextRuns_43 rfl (by decide) rfl h (fun h => ?_) (fun h => ?_)
          · refine g_iconst (pc' := 51) (v := (nI 0)) hC dX4_nextRuns_50 (by decide) rfl ?_
            exact w_X4_nextRuns_J51 hC hv1 hk6 h
          · refine g_iconst (pc' := 47) (v := (nI 1)) hC dX4_nextRuns_46 (by decide) rfl ?_
            refine g_goto (tgt := 51) hC dX4_nextRuns_47 (by decide) ?_
            exact w_X4_nextRuns_J51 hC hv1 hk6 h
        · obtain ⟨rfl, rfl, rfl, rfl⟩ := inj4 h; exact g_vret hC dX4_nextRuns_219
      · obtain ⟨rfl, rfl, rfl, rfl⟩ := inj4 h; exact g_vret hC dX4_nextRuns_219
    · obtain ⟨rfl, rfl, rfl, rfl⟩ := inj4 h; exact g_vret hC dX4_nextRuns_219)
set_option maxRecDepth 200000 in
theorem c_X4_nextRuns (l : Launch) {E : GE} {laz : Nat → Nat → Int64} {sspz : Int32} {strz : Int32} {stpz : Int32} {v1 : Nat} {v2 : Int32} {v3 : Int32} (hv1 : v1 < 3) (h : p_X4_nextRuns v1 v2 v3 rb la srow ssp sen str stp = some (laz, sspz, strz, stpz)) : Met l yX4_nextRuns (.code yX4_nextRuns cX4_nextRuns 16 none :: gU) rm_X4_nextRuns (gP E (xws E xk xo xc xt xn xl rc rv rb la wch wcc wpl wun srow ssp sen str stp swd rwp rdr rpd rpv rpc rzp) [.ref (ea E 40), .ref (ea E (32 + v1)), .int v2, .int v3]) (gQ E (xws E xk xo xc xt xn xl rc rv rb laz wch wcc wpl wun srow sspz sen strz stpz swd rwp rdr rpd rpv rpc rzp) none) 0 0 E.2.2.1 := by
  refine met_of (y := yX4_nextRuns) (own := RX4) (lo := [some (.ref (ea E 40)), some (.ref (ea E (32 + v1))), some (.int v2), some (.int v3), none, none, none, none, none, none, none, none, none, none, none, none]) (by decide) rfl rfl rfl (fun κ hl hC => ?_)
  subst hl
  unfold p_X4_nextRuns at h
  refine g_iconst (pc' := 1) (v := (nI 0)) hC dX4_nextRuns_0 (by decide) rfl ?_
  refine g_istore (pc' := 3) (i := 4) (lo' := [some (.ref (ea E 40)), some (.ref (ea E (32 + v1))), some (.int v2), some (.int v3), some (.int (nI 0)), none, none, none, none, none, none, none, none, none, none, none]) hC dX4_nextRuns_1 rfl rfl rfl rfl ?_
  refine g_iconst (pc' := 4) (v := (nI 0)) hC dX4_nextRuns_3 (by decide) rfl ?_
  refine g_istore (pc' := 6) (i := 5) (lo' := [some (.ref (ea E 40)), some (.ref (ea E (32 + v1))), some (.int v2), some (.int v3), some (.int (nI 0)), some (.int (nI 0)), none, none, none, none, none, none, none, none, none, none]) hC dX4_nextRuns_4 rfl rfl rfl rfl ?_
  refine w_X4_nextRuns_L6 hC hv1  _ _ _ _ _ _ _ h
end WALK
