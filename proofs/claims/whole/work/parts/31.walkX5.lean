section WALK
variable {xk : Nat → Int32} {xo : Nat → Int32} {xc : Nat → Int32} {xt : Nat → Nat → Int32} {xn : Nat → Nat → Int64} {xl : Nat → Nat → Int32} {rc : Nat → Int32} {rv : Nat → Int32} {rb : Nat → Nat → Int32} {la : Nat → Nat → Int64} {wch : Nat → Int32} {wcc : Int32} {wpl : Nat → Int32} {wun : Int32} {srow : Option Nat} {ssp : Int32} {sen : Int32} {str : Int32} {stp : Int32} {swd : Nat → Int32} {rwp : Int32} {rdr : Int32} {rpd : Int32} {rpv : Int32} {rpc : Int32} {rzp : Int32}
set_option maxRecDepth 200000 in
theorem c_X5_add (l : Launch) {E : GE} {rr : Int32} {xcz : Nat → Int32} {xtz : Nat → Nat → Int32} {xnz : Nat → Nat → Int64} {v1 : Int32} {v2 : Int64}  (h : p_X5_add v1 v2 xk xc xt xn = some (rr, xcz, xtz, xnz)) : Met l yX5_add (.code yX5_add cX5_add 5 (some .int) :: gU) rm_X5_add (gP E (xws E xk xo xc xt xn xl rc rv rb la wch wcc wpl wun srow ssp sen str stp swd rwp rdr rpd rpv rpc rzp) [.ref (ea E 35), .int v1, .long v2]) (gQ E (xws E xk xo xcz xtz xnz xl rc rv rb la wch wcc wpl wun srow ssp sen str stp swd rwp rdr rpd rpv rpc rzp) (some (.int rr))) 0 0 E.2.2.1 := by
  refine met_of (y := yX5_add) (own := RX5) (lo := [some (.ref (ea E 35)), some (.int v1), some (.long v2), none, none]) (by decide) rfl rfl rfl (fun κ hl hC => ?_)
  subst hl
  unfold p_X5_add at h
  refine g_aload_n (pc' := 1) (i := 0) hC dX5_add_0 rfl rfl rfl ?_
  refine g_iload_n (pc' := 2) (i := 1) hC dX5_add_1 rfl rfl rfl ?_
  obtain ⟨a_1, hc_2, h⟩ := bd1_some h
  refine g_callV (pc' := 5) hC (c_X5_columnAt _ hc_2) ml_X5_42 (rc_CP) (by decide) rfl rfl rfl rfl dX5_add_2 rfl ?_
  rcases a_1 with _ | o_3
  · have h := mo_n h
    refine g_astoreN (pc' := 7) (i := 4) (lo' := [some (.ref (ea E 35)), some (.int v1), some (.long v2), none, some (.null)]) hC dX5_add_5 rfl rfl rfl rfl ?_
    refine g_aloadN (pc' := 9) (i := 4) hC dX5_add_7 rfl rfl ?_
    refine g_ifnonnullN (pc' := 12) hC dX5_add_9 rfl ?_
    refine g_iconst (pc' := 13) (v := (-1 : Int32)) hC dX5_add_12 (by decide) rfl ?_
    obtain ⟨rfl, rfl, rfl, rfl⟩ := inj4 h; exact g_iret hC dX5_add_13
  · have h := mo_s h
    obtain ⟨g_4, h⟩ := gd_some h
    refine g_astore (pc' := 7) (i := 4) (lo' := [some (.ref (ea E 35)), some (.int v1), some (.long v2), none, some (.ref (ea E (4 * o_3)))]) hC dX5_add_5 rfl rfl rfl rfl ?_
    refine g_aload (pc' := 9) (i := 4) hC dX5_add_7 rfl rfl ?_
    refine g_ifnonnull (tgt := 14) hC dX5_add_9 (by decide) ?_
    refine g_aload (pc' := 16) (i := 4) hC dX5_add_14 rfl rfl ?_
    refine gf_X5_54 (pc' := 19) hC (of_decide_eq_true g_4) dX5_add_16 rfl ?_
    refine g_iconst (pc' := 20) (v := (nI 2)) hC dX5_add_19 (by decide) rfl ?_
    refine g_icmp_ne (pc' := 23) (tgt := 26) hC dX5_add_20 (by decide) rfl h (fun h => ?_) (fun h => ?_)
    · refine g_bipush (pc' := 25) (v := (-2 : Int32)) hC dX5_add_23 (by decide) rfl ?_
      obtain ⟨rfl, rfl, rfl, rfl⟩ := inj4 h; exact g_iret hC dX5_add_25
    · refine g_aload (pc' := 28) (i := 4) hC dX5_add_26 rfl rfl ?_
      refine gf_X5_46 (pc' := 31) hC (of_decide_eq_true g_4) dX5_add_28 rfl ?_
      refine g_sipush (pc' := 34) (v := (nI 200)) hC dX5_add_31 (by decide) rfl ?_
      refine g_icmp_lt (pc' := 37) (tgt := 40) hC dX5_add_34 (by decide) rfl h (fun h => ?_) (fun h => ?_)
      · refine g_aload (pc' := 42) (i := 4) hC dX5_add_40 rfl rfl ?_
        refine g_lload_n (pc' := 43) (i := 2) hC dX5_add_42 rfl rfl rfl ?_
        obtain ⟨xc_5, xt_6, xn_7, hc_8, h⟩ := bd3_some h
        refine g_callV (pc' := 46) hC (c_X0_pushNumber _ (of_decide_eq_true g_4) hc_8) ml_X5_57 (rc_Col (of_decide_eq_true g_4)) (by decide) rfl rfl rfl rfl dX5_add_43 rfl ?_
        refine g_aload (pc' := 48) (i := 4) hC dX5_add_46 rfl rfl ?_
        refine gf_X5_46 (pc' := 51) hC (of_decide_eq_true g_4) dX5_add_48 rfl ?_
        refine g_iconst (pc' := 52) (v := (nI 1)) hC dX5_add_51 (by decide) rfl ?_
        refine g_isub (pc' := 53) hC dX5_add_52 rfl ?_
        obtain ⟨rfl, rfl, rfl, rfl⟩ := inj4 h; exact g_iret hC dX5_add_53
      · refine g_bipush (pc' := 39) (v := (-3 : Int32)) hC dX5_add_37 (by decide) rfl ?_
        obtain ⟨rfl, rfl, rfl, rfl⟩ := inj4 h; exact g_iret hC dX5_add_39
set_option maxRecDepth 200000 in
theorem w_X5_type_L35 {κ : GK} {E : GE} {rr : Int32} {rcz : Nat → Int32} {rvz : Nat → Int32} {rbz : Nat → Nat → Int32} {v1 : Int64}  (hC : gC κ E cX5_type RX5 (some .int) rm_X5_type 5)   : ∀ (n : Nat) (v4 : Int32) (rc : Nat → Int32) (rv : Nat → Int32) (rb : Nat → Nat → Int32), itr4 (p_X5_type_L35 v1) n v4 rc rv rb = some (rr, rcz, rvz, rbz) → GG κ E (xws E xk xo xc xt xn xl rcz rvz rbz la wch wcc wpl wun srow ssp sen str stp swd rwp rdr rpd rpv rpc rzp, some (.int rr)) (xws E xk xo xc xt xn xl rc rv rb la wch wcc wpl wun srow ssp sen str stp swd rwp rdr rpd rpv rpc rzp) 35 [some (.ref (ea E 35)), some (.long v1), none, none, some (.int v4)] [] :=
  itr4_ind (fun k35 hk35 v4 rc rv rb h => by
    unfold p_X5_type_L35 at h
    refine g_iload (pc' := 37) (i := 4) hC dX5_type_35 rfl rfl ?_
    refine g_if_lt (pc' := 40) (tgt := 61) hC dX5_type_37 (by decide) rfl h (fun h => ?_) (fun h => ?_)
    · refine g_aload_n (pc' := 62) (i := 0) hC dX5_type_61 rfl rfl rfl ?_
      refine gf_X5_21 (pc' := 65) hC dX5_type_62 rfl ?_
      refine gf_X5_61 (pc' := 68) hC (by decide) dX5_type_65 rfl ?_
      obtain ⟨rfl, rfl, rfl, rfl⟩ := inj4 h; exact g_iret hC dX5_type_68
    · refine g_aload_n (pc' := 41) (i := 0) hC dX5_type_40 rfl rfl rfl ?_
      refine gf_X5_21 (pc' := 44) hC dX5_type_41 rfl ?_
      refine g_lload_n (pc' := 45) (i := 1) hC dX5_type_44 rfl rfl rfl ?_
      refine g_bipush (pc' := 47) (v := (nI 8)) hC dX5_type_45 (by decide) rfl ?_
      refine g_iload (pc' := 49) (i := 4) hC dX5_type_47 rfl rfl ?_
      refine g_imul (pc' := 50) hC dX5_type_49 rfl ?_
      refine g_lushr (pc' := 51) hC dX5_type_50 rfl ?_
      refine g_l2i (pc' := 52) hC dX5_type_51 rfl ?_
      obtain ⟨rc_1, rv_2, rb_3, hc_4, h⟩ := bd3_some h
      refine g_callV (pc' := 55) hC (c_X3_push _ (by decide) hc_4) ml_X5_62 (rc_Row (by decide)) (by decide) rfl rfl rfl rfl dX5_type_52 rfl ?_
      refine g_iinc (pc' := 58) (i := 4) (x := v4) (k := (-1 : Int32)) (lo' := [some (.ref (ea E 35)), some (.long v1), none, none, some (.int (v4 + (-1 : Int32)))]) hC dX5_type_55 rfl (by decide) rfl rfl rfl rfl ?_
      refine g_goto (tgt := 35) hC dX5_type_58 (by decide) ?_
      exact hk35 _ _ _ _ h)
set_option maxRecDepth 200000 in
theorem c_X5_type (l : Launch) {E : GE} {rr : Int32} {rcz : Nat → Int32} {rvz : Nat → Int32} {rbz : Nat → Nat → Int32} {v1 : Int64} {v3 : Int32}  (h : p_X5_type v1 v3 rc rv rb = some (rr, rcz, rvz, rbz)) : Met l yX5_type (.code yX5_type cX5_type 5 (some .int) :: gU) rm_X5_type (gP E (xws E xk xo xc xt xn xl rc rv rb la wch wcc wpl wun srow ssp sen str stp swd rwp rdr rpd rpv rpc rzp) [.ref (ea E 35), .long v1, .int v3]) (gQ E (xws E xk xo xc xt xn xl rcz rvz rbz la wch wcc wpl wun srow ssp sen str stp swd rwp rdr rpd rpv rpc rzp) (some (.int rr))) 0 0 E.2.2.1 := by
  refine met_of (y := yX5_type) (own := RX5) (lo := [some (.ref (ea E 35)), some (.long v1), none, some (.int v3), none]) (by decide) rfl rfl rfl (fun κ hl hC => ?_)
  subst hl
  unfold p_X5_type at h
  refine g_iload_n (pc' := 1) (i := 3) hC dX5_type_0 rfl rfl rfl ?_
  refine g_iconst (pc' := 2) (v := (nI 1)) hC dX5_type_1 (by decide) rfl ?_
  refine g_icmp_lt (pc' := 5) (tgt := 11) hC dX5_type_2 (by decide) rfl h (fun h => ?_) (fun h => ?_)
  · refine g_iconst (pc' := 12) (v := (-1 : Int32)) hC dX5_type_11 (by decide) rfl ?_
    obtain ⟨rfl, rfl, rfl, rfl⟩ := inj4 h; exact g_iret hC dX5_type_12
  · refine g_iload_n (pc' := 6) (i := 3) hC dX5_type_5 rfl rfl rfl ?_
    refine g_bipush (pc' := 8) (v := (nI 8)) hC dX5_type_6 (by decide) rfl ?_
    refine g_icmp_le (pc' := 11) (tgt := 13) hC dX5_type_8 (by decide) rfl h (fun h => ?_) (fun h => ?_)
    · refine g_iconst (pc' := 12) (v := (-1 : Int32)) hC dX5_type_11 (by decide) rfl ?_
      obtain ⟨rfl, rfl, rfl, rfl⟩ := inj4 h; exact g_iret hC dX5_type_12
    · refine g_aload_n (pc' := 14) (i := 0) hC dX5_type_13 rfl rfl rfl ?_
      refine gf_X5_21 (pc' := 17) hC dX5_type_14 rfl ?_
      refine gf_X5_61 (pc' := 20) hC (by decide) dX5_type_17 rfl ?_
      refine g_iload_n (pc' := 21) (i := 3) hC dX5_type_20 rfl rfl rfl ?_
      refine g_iadd (pc' := 22) hC dX5_type_21 rfl ?_
      refine g_bipush (pc' := 24) (v := (nI 40)) hC dX5_type_22 (by decide) rfl ?_
      refine g_icmp_le (pc' := 27) (tgt := 30) hC dX5_type_24 (by decide) rfl h (fun h => ?_) (fun h => ?_)
      · refine g_bipush (pc' := 29) (v := (-3 : Int32)) hC dX5_type_27 (by decide) rfl ?_
        obtain ⟨rfl, rfl, rfl, rfl⟩ := inj4 h; exact g_iret hC dX5_type_29
      · refine g_iload_n (pc' := 31) (i := 3) hC dX5_type_30 rfl rfl rfl ?_
        refine g_iconst (pc' := 32) (v := (nI 1)) hC dX5_type_31 (by decide) rfl ?_
        refine g_isub (pc' := 33) hC dX5_type_32 rfl ?_
        refine g_istore (pc' := 35) (i := 4) (lo' := [some (.ref (ea E 35)), some (.long v1), none, some (.int v3), some (.int (v3 - (nI 1)))]) hC dX5_type_33 rfl rfl rfl rfl ?_
        refine g_weak (lo' := [some (.ref (ea E 35)), some (.long v1), none, none, some (.int (v3 - (nI 1)))]) rfl ?_
        refine w_X5_type_L35 hC   _ _ _ _ _ h
set_option maxRecDepth 200000 in
theorem c_X5_addText (l : Launch) {E : GE} {rr : Int32} {xcz : Nat → Int32} {xtz : Nat → Nat → Int32} {xnz : Nat → Nat → Int64} {xlz : Nat → Nat → Int32} {rcz : Nat → Int32} {rvz : Nat → Int32} {v1 : Int32}  (h : p_X5_addText v1 xk xc xt xn xl rc rv rb = some (rr, xcz, xtz, xnz, xlz, rcz, rvz)) : Met l yX5_addText (.code yX5_addText cX5_addText 3 (some .int) :: gU) rm_X5_addText (gP E (xws E xk xo xc xt xn xl rc rv rb la wch wcc wpl wun srow ssp sen str stp swd rwp rdr rpd rpv rpc rzp) [.ref (ea E 35), .int v1]) (gQ E (xws E xk xo xcz xtz xnz xlz rcz rvz rb la wch wcc wpl wun srow ssp sen str stp swd rwp rdr rpd rpv rpc rzp) (some (.int rr))) 0 0 E.2.2.1 := by
  refine met_of (y := yX5_addText) (own := RX5) (lo := [some (.ref (ea E 35)), some (.int v1), none]) (by decide) rfl rfl rfl (fun κ hl hC => ?_)
  subst hl
  unfold p_X5_addText at h
  refine g_aload_n (pc' := 1) (i := 0) hC dX5_addText_0 rfl rfl rfl ?_
  refine g_iload_n (pc' := 2) (i := 1) hC dX5_addText_1 rfl rfl rfl ?_
  obtain ⟨a_1, hc_2, h⟩ := bd1_some h
  refine g_callV (pc' := 5) hC (c_X5_columnAt _ hc_2) ml_X5_42 (rc_CP) (by decide) rfl rfl rfl rfl dX5_addText_2 rfl ?_
  rcases a_1 with _ | o_3
  · have h := mo_n h
    refine g_astore_nN (pc' := 6) (i := 2) (lo' := [some (.ref (ea E 35)), some (.int v1), some (.null)]) hC dX5_addText_5 rfl rfl rfl rfl rfl ?_
    refine g_aload_nN (pc' := 7) (i := 2) hC dX5_addText_6 rfl rfl rfl ?_
    refine g_ifnonnullN (pc' := 10) hC dX5_addText_7 rfl ?_
    refine g_iconst (pc' := 11) (v := (-1 : Int32)) hC dX5_addText_10 (by decide) rfl ?_
    obtain ⟨rfl, rfl, rfl, rfl, rfl, rfl, rfl⟩ := inj7 h; exact g_iret hC dX5_addText_11
  · have h := mo_s h
    obtain ⟨g_4, h⟩ := gd_some h
    refine g_astore_n (pc' := 6) (i := 2) (lo' := [some (.ref (ea E 35)), some (.int v1), some (.ref (ea E (4 * o_3)))]) hC dX5_addText_5 rfl rfl rfl rfl rfl ?_
    refine g_aload_n (pc' := 7) (i := 2) hC dX5_addText_6 rfl rfl rfl ?_
    refine g_ifnonnull (tgt := 12) hC dX5_addText_7 (by decide) ?_
    refine g_aload_n (pc' := 13) (i := 2) hC dX5_addText_12 rfl rfl rfl ?_
    refine gf_X5_54 (pc' := 16) hC (of_decide_eq_true g_4) dX5_addText_13 rfl ?_
    refine g_iconst (pc' := 17) (v := (nI 2)) hC dX5_addText_16 (by decide) rfl ?_
    refine g_icmp_eq (pc' := 20) (tgt := 23) hC dX5_addText_17 (by decide) rfl h (fun h => ?_) (fun h => ?_)
    · refine g_aload_n (pc' := 24) (i := 2) hC dX5_addText_23 rfl rfl rfl ?_
      refine gf_X5_46 (pc' := 27) hC (of_decide_eq_true g_4) dX5_addText_24 rfl ?_
      refine g_sipush (pc' := 30) (v := (nI 200)) hC dX5_addText_27 (by decide) rfl ?_
      refine g_icmp_lt (pc' := 33) (tgt := 36) hC dX5_addText_30 (by decide) rfl h (fun h => ?_) (fun h => ?_)
      · refine g_aload_n (pc' := 37) (i := 2) hC dX5_addText_36 rfl rfl rfl ?_
        refine g_aload_n (pc' := 38) (i := 0) hC dX5_addText_37 rfl rfl rfl ?_
        refine gf_X5_21 (pc' := 41) hC dX5_addText_38 rfl ?_
        refine g_iconst (pc' := 42) (v := (nI 0)) hC dX5_addText_41 (by decide) rfl ?_
        refine g_aload_n (pc' := 43) (i := 0) hC dX5_addText_42 rfl rfl rfl ?_
        refine gf_X5_21 (pc' := 46) hC dX5_addText_43 rfl ?_
        refine gf_X5_61 (pc' := 49) hC (by decide) dX5_addText_46 rfl ?_
        obtain ⟨xc_5, xt_6, xn_7, xl_8, hc_9, h⟩ := bd4_some h
        refine g_callV (pc' := 52) hC (c_X0_pushText _ (of_decide_eq_true g_4) (by decide) hc_9) ml_X5_65 (rc_Col (of_decide_eq_true g_4)) (by decide) rfl rfl rfl rfl dX5_addText_49 rfl ?_
        refine g_aload_n (pc' := 53) (i := 0) hC dX5_addText_52 rfl rfl rfl ?_
        refine gf_X5_21 (pc' := 56) hC dX5_addText_53 rfl ?_
        obtain ⟨rc_10, rv_11, hc_12, h⟩ := bd2_some h
        refine g_callV (pc' := 59) hC (c_X3_clear _ (by decide) hc_12) ml_X5_69 (rc_Row (by decide)) (by decide) rfl rfl rfl rfl dX5_addText_56 rfl ?_
        refine g_aload_n (pc' := 60) (i := 2) hC dX5_addText_59 rfl rfl rfl ?_
        refine gf_X5_46 (pc' := 63) hC (of_decide_eq_true g_4) dX5_addText_60 rfl ?_
        refine g_iconst (pc' := 64) (v := (nI 1)) hC dX5_addText_63 (by decide) rfl ?_
        refine g_isub (pc' := 65) hC dX5_addText_64 rfl ?_
        obtain ⟨rfl, rfl, rfl, rfl, rfl, rfl, rfl⟩ := inj7 h; exact g_iret hC dX5_addText_65
      · refine g_bipush (pc' := 35) (v := (-3 : Int32)) hC dX5_addText_33 (by decide) rfl ?_
        obtain ⟨rfl, rfl, rfl, rfl, rfl, rfl, rfl⟩ := inj7 h; exact g_iret hC dX5_addText_35
    · refine g_bipush (pc' := 22) (v := (-2 : Int32)) hC dX5_addText_20 (by decide) rfl ?_
      obtain ⟨rfl, rfl, rfl, rfl, rfl, rfl, rfl⟩ := inj7 h; exact g_iret hC dX5_addText_22
set_option maxRecDepth 200000 in
theorem c_X5_addNone (l : Launch) {E : GE} {rr : Int32} {xcz : Nat → Int32} {xtz : Nat → Nat → Int32} {xnz : Nat → Nat → Int64} {v1 : Int32}  (h : p_X5_addNone v1 xo xc xt xn = some (rr, xcz, xtz, xnz)) : Met l yX5_addNone (.code yX5_addNone cX5_addNone 3 (some .int) :: gU) rm_X5_addNone (gP E (xws E xk xo xc xt xn xl rc rv rb la wch wcc wpl wun srow ssp sen str stp swd rwp rdr rpd rpv rpc rzp) [.ref (ea E 35), .int v1]) (gQ E (xws E xk xo xcz xtz xnz xl rc rv rb la wch wcc wpl wun srow ssp sen str stp swd rwp rdr rpd rpv rpc rzp) (some (.int rr))) 0 0 E.2.2.1 := by
  refine met_of (y := yX5_addNone) (own := RX5) (lo := [some (.ref (ea E 35)), some (.int v1), none]) (by decide) rfl rfl rfl (fun κ hl hC => ?_)
  subst hl
  unfold p_X5_addNone at h
  refine g_aload_n (pc' := 1) (i := 0) hC dX5_addNone_0 rfl rfl rfl ?_
  refine g_iload_n (pc' := 2) (i := 1) hC dX5_addNone_1 rfl rfl rfl ?_
  obtain ⟨a_1, hc_2, h⟩ := bd1_some h
  refine g_callV (pc' := 5) hC (c_X5_columnAt _ hc_2) ml_X5_42 (rc_CP) (by decide) rfl rfl rfl rfl dX5_addNone_2 rfl ?_
  rcases a_1 with _ | o_3
  · have h := mo_n h
    refine g_astore_nN (pc' := 6) (i := 2) (lo' := [some (.ref (ea E 35)), some (.int v1), some (.null)]) hC dX5_addNone_5 rfl rfl rfl rfl rfl ?_
    refine g_aload_nN (pc' := 7) (i := 2) hC dX5_addNone_6 rfl rfl rfl ?_
    refine g_ifnonnullN (pc' := 10) hC dX5_addNone_7 rfl ?_
    refine g_iconst (pc' := 11) (v := (-1 : Int32)) hC dX5_addNone_10 (by decide) rfl ?_
    obtain ⟨rfl, rfl, rfl, rfl⟩ := inj4 h; exact g_iret hC dX5_addNone_11
  · have h := mo_s h
    obtain ⟨g_4, h⟩ := gd_some h
    refine g_astore_n (pc' := 6) (i := 2) (lo' := [some (.ref (ea E 35)), some (.int v1), some (.ref (ea E (4 * o_3)))]) hC dX5_addNone_5 rfl rfl rfl rfl rfl ?_
    refine g_aload_n (pc' := 7) (i := 2) hC dX5_addNone_6 rfl rfl rfl ?_
    refine g_ifnonnull (tgt := 12) hC dX5_addNone_7 (by decide) ?_
    refine g_aload_n (pc' := 13) (i := 2) hC dX5_addNone_12 rfl rfl rfl ?_
    refine gf_X5_72 (pc' := 16) hC (of_decide_eq_true g_4) dX5_addNone_13 rfl ?_
    refine g_if_ne (pc' := 19) (tgt := 22) hC dX5_addNone_16 (by decide) rfl h (fun h => ?_) (fun h => ?_)
    · refine g_bipush (pc' := 21) (v := (-2 : Int32)) hC dX5_addNone_19 (by decide) rfl ?_
      obtain ⟨rfl, rfl, rfl, rfl⟩ := inj4 h; exact g_iret hC dX5_addNone_21
    · refine g_aload_n (pc' := 23) (i := 2) hC dX5_addNone_22 rfl rfl rfl ?_
      refine gf_X5_46 (pc' := 26) hC (of_decide_eq_true g_4) dX5_addNone_23 rfl ?_
      refine g_sipush (pc' := 29) (v := (nI 200)) hC dX5_addNone_26 (by decide) rfl ?_
      refine g_icmp_lt (pc' := 32) (tgt := 35) hC dX5_addNone_29 (by decide) rfl h (fun h => ?_) (fun h => ?_)
      · refine g_aload_n (pc' := 36) (i := 2) hC dX5_addNone_35 rfl rfl rfl ?_
        obtain ⟨xc_5, xt_6, xn_7, hc_8, h⟩ := bd3_some h
        refine g_callV (pc' := 39) hC (c_X0_pushNone _ (of_decide_eq_true g_4) hc_8) ml_X5_76 (rc_Col (of_decide_eq_true g_4)) (by decide) rfl rfl rfl rfl dX5_addNone_36 rfl ?_
        refine g_aload_n (pc' := 40) (i := 2) hC dX5_addNone_39 rfl rfl rfl ?_
        refine gf_X5_46 (pc' := 43) hC (of_decide_eq_true g_4) dX5_addNone_40 rfl ?_
        refine g_iconst (pc' := 44) (v := (nI 1)) hC dX5_addNone_43 (by decide) rfl ?_
        refine g_isub (pc' := 45) hC dX5_addNone_44 rfl ?_
        obtain ⟨rfl, rfl, rfl, rfl⟩ := inj4 h; exact g_iret hC dX5_addNone_45
      · refine g_bipush (pc' := 34) (v := (-3 : Int32)) hC dX5_addNone_32 (by decide) rfl ?_
        obtain ⟨rfl, rfl, rfl, rfl⟩ := inj4 h; exact g_iret hC dX5_addNone_34
set_option maxRecDepth 200000 in
theorem c_X5_repeat (l : Launch) {E : GE} {rr : Int32} {xcz : Nat → Int32} {xtz : Nat → Nat → Int32} {xnz : Nat → Nat → Int64} {xlz : Nat → Nat → Int32} {v1 : Int32} {v2 : Int32} {v3 : Int32}  (h : p_X5_repeat v1 v2 v3 xk xc xt xn xl = some (rr, xcz, xtz, xnz, xlz)) : Met l yX5_repeat (.code yX5_repeat cX5_repeat 5 (some .int) :: gU) rm_X5_repeat (gP E (xws E xk xo xc xt xn xl rc rv rb la wch wcc wpl wun srow ssp sen str stp swd rwp rdr rpd rpv rpc rzp) [.ref (ea E 35), .int v1, .int v2, .int v3]) (gQ E (xws E xk xo xcz xtz xnz xlz rc rv rb la wch wcc wpl wun srow ssp sen str stp swd rwp rdr rpd rpv rpc rzp) (some (.int rr))) 0 0 E.2.2.1 := by
  refine met_of (y := yX5_repeat) (own := RX5) (lo := [some (.ref (ea E 35)), some (.int v1), some (.int v2), some (.int v3), none]) (by decide) rfl rfl rfl (fun κ hl hC => ?_)
  subst hl
  unfold p_X5_repeat at h
  refine g_aload_n (pc' := 1) (i := 0) hC dX5_repeat_0 rfl rfl rfl ?_
  refine g_iload_n (pc' := 2) (i := 1) hC dX5_repeat_1 rfl rfl rfl ?_
  obtain ⟨a_1, hc_2, h⟩ := bd1_some h
  refine g_callV (pc' := 5) hC (c_X5_columnAt _ hc_2) ml_X5_42 (rc_CP) (by decide) rfl rfl rfl rfl dX5_repeat_2 rfl ?_
  rcases a_1 with _ | o_3
  · have h := mo_n h
    refine g_astoreN (pc' := 7) (i := 4) (lo' := [some (.ref (ea E 35)), some (.int v1), some (.int v2), some (.int v3), some (.null)]) hC dX5_repeat_5 rfl rfl rfl rfl ?_
    refine g_aloadN (pc' := 9) (i := 4) hC dX5_repeat_7 rfl rfl ?_
    refine g_ifnullN (tgt := 37) hC dX5_repeat_9 (by decide) ?_
    refine g_iconst (pc' := 38) (v := (-1 : Int32)) hC dX5_repeat_37 (by decide) rfl ?_
    obtain ⟨rfl, rfl, rfl, rfl, rfl⟩ := inj5 h; exact g_iret hC dX5_repeat_38
  · have h := mo_s h
    obtain ⟨g_4, h⟩ := gd_some h
    refine g_astore (pc' := 7) (i := 4) (lo' := [some (.ref (ea E 35)), some (.int v1), some (.int v2), some (.int v3), some (.ref (ea E (4 * o_3)))]) hC dX5_repeat_5 rfl rfl rfl rfl ?_
    refine g_aload (pc' := 9) (i := 4) hC dX5_repeat_7 rfl rfl ?_
    refine g_ifnull (pc' := 12) hC dX5_repeat_9 rfl ?_
    refine g_iload_n (pc' := 13) (i := 2) hC dX5_repeat_12 rfl rfl rfl ?_
    refine g_if_lt (pc' := 16) (tgt := 37) hC dX5_repeat_13 (by decide) rfl h (fun h => ?_) (fun h => ?_)
    · refine g_iconst (pc' := 38) (v := (-1 : Int32)) hC dX5_repeat_37 (by decide) rfl ?_
      obtain ⟨rfl, rfl, rfl, rfl, rfl⟩ := inj5 h; exact g_iret hC dX5_repeat_38
    · refine g_iload_n (pc' := 17) (i := 2) hC dX5_repeat_16 rfl rfl rfl ?_
      refine g_aload (pc' := 19) (i := 4) hC dX5_repeat_17 rfl rfl ?_
      refine gf_X5_46 (pc' := 22) hC (of_decide_eq_true g_4) dX5_repeat_19 rfl ?_
      refine g_icmp_gt (pc' := 25) (tgt := 37) hC dX5_repeat_22 (by decide) rfl h (fun h => ?_) (fun h => ?_)
      · refine g_iconst (pc' := 38) (v := (-1 : Int32)) hC dX5_repeat_37 (by decide) rfl ?_
        obtain ⟨rfl, rfl, rfl, rfl, rfl⟩ := inj5 h; exact g_iret hC dX5_repeat_38
      · refine g_iload_n (pc' := 26) (i := 3) hC dX5_repeat_25 rfl rfl rfl ?_
        refine g_iconst (pc' := 27) (v := (nI 1)) hC dX5_repeat_26 (by decide) rfl ?_
        refine g_icmp_lt (pc' := 30) (tgt := 37) hC dX5_repeat_27 (by decide) rfl h (fun h => ?_) (fun h => ?_)
        · refine g_iconst (pc' := 38) (v := (-1 : Int32)) hC dX5_repeat_37 (by decide) rfl ?_
          obtain ⟨rfl, rfl, rfl, rfl, rfl⟩ := inj5 h; exact g_iret hC dX5_repeat_38
        · refine g_iload_n (pc' := 31) (i := 3) hC dX5_repeat_30 rfl rfl rfl ?_
          refine g_sipush (pc' := 34) (v := (nI 200)) hC dX5_repeat_31 (by decide) rfl ?_
          refine g_icmp_le (pc' := 37) (tgt := 39) hC dX5_repeat_34 (by decide) rfl h (fun h => ?_) (fun h => ?_)
          · refine g_iconst (pc' := 38) (v := (-1 : Int32)) hC dX5_repeat_37 (by decide) rfl ?_
            obtain ⟨rfl, rfl, rfl, rfl, rfl⟩ := inj5 h; exact g_iret hC dX5_repeat_38
          · refine g_iload_n (pc' := 40) (i := 2) hC dX5_repeat_39 rfl rfl rfl ?_
            refine g_iload_n (pc' := 41) (i := 3) hC dX5_repeat_40 rfl rfl rfl ?_
            refine g_imul (pc' := 42) hC dX5_repeat_41 rfl ?_
            refine g_sipush (pc' := 45) (v := (nI 200)) hC dX5_repeat_42 (by decide) rfl ?_
            refine g_icmp_le (pc' := 48) (tgt := 51) hC dX5_repeat_45 (by decide) rfl h (fun h => ?_) (fun h => ?_)
            · refine g_bipush (pc' := 50) (v := (-3 : Int32)) hC dX5_repeat_48 (by decide) rfl ?_
              obtain ⟨rfl, rfl, rfl, rfl, rfl⟩ := inj5 h; exact g_iret hC dX5_repeat_50
            · refine g_aload (pc' := 53) (i := 4) hC dX5_repeat_51 rfl rfl ?_
              refine g_iload_n (pc' := 54) (i := 2) hC dX5_repeat_53 rfl rfl rfl ?_
              refine g_iload_n (pc' := 55) (i := 3) hC dX5_repeat_54 rfl rfl rfl ?_
              obtain ⟨xc_5, xt_6, xn_7, xl_8, hc_9, h⟩ := bd4_some h
              refine g_callV (pc' := 58) hC (c_X0_multiply _ (of_decide_eq_true g_4) hc_9) ml_X5_79 (rc_Col (of_decide_eq_true g_4)) (by decide) rfl rfl rfl rfl dX5_repeat_55 rfl ?_
              refine g_aload (pc' := 60) (i := 4) hC dX5_repeat_58 rfl rfl ?_
              refine gf_X5_46 (pc' := 63) hC (of_decide_eq_true g_4) dX5_repeat_60 rfl ?_
              obtain ⟨rfl, rfl, rfl, rfl, rfl⟩ := inj5 h; exact g_iret hC dX5_repeat_63
set_option maxRecDepth 200000 in
theorem c_X5_told (l : Launch) {E : GE} {rr : Int32} {v1 : Int32} {v2 : Int32}  (h : p_X5_told v1 v2 xk xo xc xt xn xl = some rr) : Met l yX5_told (.code yX5_told cX5_told 4 (some .int) :: gU) rm_X5_told (gP E (xws E xk xo xc xt xn xl rc rv rb la wch wcc wpl wun srow ssp sen str stp swd rwp rdr rpd rpv rpc rzp) [.ref (ea E 35), .int v1, .int v2]) (gQ E (xws E xk xo xc xt xn xl rc rv rb la wch wcc wpl wun srow ssp sen str stp swd rwp rdr rpd rpv rpc rzp) (some (.int rr))) 0 0 E.2.2.1 := by
  refine met_of (y := yX5_told) (own := RX5) (lo := [some (.ref (ea E 35)), some (.int v1), some (.int v2), none]) (by decide) rfl rfl rfl (fun κ hl hC => ?_)
  subst hl
  unfold p_X5_told at h
  refine g_aload_n (pc' := 1) (i := 0) hC dX5_told_0 rfl rfl rfl ?_
  refine g_iload_n (pc' := 2) (i := 1) hC dX5_told_1 rfl rfl rfl ?_
  obtain ⟨a_1, hc_2, h⟩ := bd1_some h
  refine g_callV (pc' := 5) hC (c_X5_columnAt _ hc_2) ml_X5_42 (rc_CP) (by decide) rfl rfl rfl rfl dX5_told_2 rfl ?_
  rcases a_1 with _ | o_3
  · have h := mo_n h
    refine g_astore_nN (pc' := 6) (i := 3) (lo' := [some (.ref (ea E 35)), some (.int v1), some (.int v2), some (.null)]) hC dX5_told_5 rfl rfl rfl rfl rfl ?_
    refine g_aload_nN (pc' := 7) (i := 3) hC dX5_told_6 rfl rfl rfl ?_
    refine g_ifnonnullN (pc' := 10) hC dX5_told_7 rfl ?_
    refine g_iconst (pc' := 11) (v := (-1 : Int32)) hC dX5_told_10 (by decide) rfl ?_
    obtain rfl := inj1 h; exact g_iret hC dX5_told_11
  · have h := mo_s h
    obtain ⟨g_4, h⟩ := gd_some h
    refine g_astore_n (pc' := 6) (i := 3) (lo' := [some (.ref (ea E 35)), some (.int v1), some (.int v2), some (.ref (ea E (4 * o_3)))]) hC dX5_told_5 rfl rfl rfl rfl rfl ?_
    refine g_aload_n (pc' := 7) (i := 3) hC dX5_told_6 rfl rfl rfl ?_
    refine g_ifnonnull (tgt := 12) hC dX5_told_7 (by decide) ?_
    refine g_iload_n (pc' := 13) (i := 2) hC dX5_told_12 rfl rfl rfl ?_
    refine g_case h (fun c_5 h => ?_) (fun c_5 h => ?_)
    · refine g_tswIn hC (tgt := 48) dX5_told_13 (by rw [c_5]; decide) (by rw [c_5]; decide) (by rw [c_5]; rfl) (by decide) ?_
      refine g_aload_n (pc' := 49) (i := 3) hC dX5_told_48 rfl rfl rfl ?_
      refine gf_X5_54 (pc' := 52) hC (of_decide_eq_true g_4) dX5_told_49 rfl ?_
      obtain rfl := inj1 h; exact g_iret hC dX5_told_52
    · skip
      refine g_case h (fun c_6 h => ?_) (fun c_6 h => ?_)
      · refine g_tswIn hC (tgt := 53) dX5_told_13 (by rw [c_6]; decide) (by rw [c_6]; decide) (by rw [c_6]; rfl) (by decide) ?_
        refine g_aload_n (pc' := 54) (i := 3) hC dX5_told_53 rfl rfl rfl ?_
        refine gf_X5_72 (pc' := 57) hC (of_decide_eq_true g_4) dX5_told_54 rfl ?_
        refine g_if_eq (pc' := 60) (tgt := 64) hC dX5_told_57 (by decide) rfl h (fun h => ?_) (fun h => ?_)
        · refine g_iconst (pc' := 65) (v := (nI 0)) hC dX5_told_64 (by decide) rfl ?_
          obtain rfl := inj1 h; exact g_iret hC dX5_told_65
        · refine g_iconst (pc' := 61) (v := (nI 1)) hC dX5_told_60 (by decide) rfl ?_
          refine g_goto (tgt := 65) hC dX5_told_61 (by decide) ?_
          obtain rfl := inj1 h; exact g_iret hC dX5_told_65
      · skip
        refine g_case h (fun c_7 h => ?_) (fun c_7 h => ?_)
        · refine g_tswIn hC (tgt := 66) dX5_told_13 (by rw [c_7]; decide) (by rw [c_7]; decide) (by rw [c_7]; rfl) (by decide) ?_
          refine g_aload_n (pc' := 67) (i := 3) hC dX5_told_66 rfl rfl rfl ?_
          refine gf_X5_46 (pc' := 70) hC (of_decide_eq_true g_4) dX5_told_67 rfl ?_
          obtain rfl := inj1 h; exact g_iret hC dX5_told_70
        · skip
          refine g_case h (fun c_8 h => ?_) (fun c_8 h => ?_)
          · refine g_tswIn hC (tgt := 71) dX5_told_13 (by rw [c_8]; decide) (by rw [c_8]; decide) (by rw [c_8]; rfl) (by decide) ?_
            refine g_aload_n (pc' := 72) (i := 3) hC dX5_told_71 rfl rfl rfl ?_
            obtain ⟨a_9, hc_10, h⟩ := bd1_some h
            refine g_callV (pc' := 75) hC (c_X0_countAbsent _ (of_decide_eq_true g_4) hc_10) ml_X5_83 (rc_Col (of_decide_eq_true g_4)) (by decide) rfl rfl rfl rfl dX5_told_72 rfl ?_
            obtain rfl := inj1 h; exact g_iret hC dX5_told_75
          · skip
            refine g_case h (fun c_11 h => ?_) (fun c_11 h => ?_)
            · refine g_tswIn hC (tgt := 76) dX5_told_13 (by rw [c_11]; decide) (by rw [c_11]; decide) (by rw [c_11]; rfl) (by decide) ?_
              refine g_aload_n (pc' := 77) (i := 3) hC dX5_told_76 rfl rfl rfl ?_
              obtain ⟨a_12, hc_13, h⟩ := bd1_some h
              refine g_callV (pc' := 80) hC (c_X0_countUnlike _ (of_decide_eq_true g_4) hc_13) ml_X5_87 (rc_Col (of_decide_eq_true g_4)) (by decide) rfl rfl rfl rfl dX5_told_77 rfl ?_
              obtain rfl := inj1 h; exact g_iret hC dX5_told_80
            · skip
              refine g_tswOut hC (tgt := 81) dX5_told_13 (tsw_out4 c_5 c_6 c_7 c_8 c_11) (by decide) ?_
              refine g_iconst (pc' := 82) (v := (-1 : Int32)) hC dX5_told_81 (by decide) rfl ?_
              obtain rfl := inj1 h; exact g_iret hC dX5_told_82
set_option maxRecDepth 200000 in
theorem c_X5_has (l : Launch) {E : GE} {rr : Int32} {v1 : Int32} {v2 : Int32}  (h : p_X5_has v1 v2 xc xt = some rr) : Met l yX5_has (.code yX5_has cX5_has 4 (some .int) :: gU) rm_X5_has (gP E (xws E xk xo xc xt xn xl rc rv rb la wch wcc wpl wun srow ssp sen str stp swd rwp rdr rpd rpv rpc rzp) [.ref (ea E 35), .int v1, .int v2]) (gQ E (xws E xk xo xc xt xn xl rc rv rb la wch wcc wpl wun srow ssp sen str stp swd rwp rdr rpd rpv rpc rzp) (some (.int rr))) 0 0 E.2.2.1 := by
  refine met_of (y := yX5_has) (own := RX5) (lo := [some (.ref (ea E 35)), some (.int v1), some (.int v2), none]) (by decide) rfl rfl rfl (fun κ hl hC => ?_)
  subst hl
  unfold p_X5_has at h
  refine g_aload_n (pc' := 1) (i := 0) hC dX5_has_0 rfl rfl rfl ?_
  refine g_iload_n (pc' := 2) (i := 1) hC dX5_has_1 rfl rfl rfl ?_
  obtain ⟨a_1, hc_2, h⟩ := bd1_some h
  refine g_callV (pc' := 5) hC (c_X5_columnAt _ hc_2) ml_X5_42 (rc_CP) (by decide) rfl rfl rfl rfl dX5_has_2 rfl ?_
  rcases a_1 with _ | o_3
  · have h := mo_n h
    refine g_astore_nN (pc' := 6) (i := 3) (lo' := [some (.ref (ea E 35)), some (.int v1), some (.int v2), some (.null)]) hC dX5_has_5 rfl rfl rfl rfl rfl ?_
    refine g_aload_nN (pc' := 7) (i := 3) hC dX5_has_6 rfl rfl rfl ?_
    refine g_ifnullN (tgt := 18) hC dX5_has_7 (by decide) ?_
    refine g_iconst (pc' := 19) (v := (-1 : Int32)) hC dX5_has_18 (by decide) rfl ?_
    obtain rfl := inj1 h; exact g_iret hC dX5_has_19
  · have h := mo_s h
    obtain ⟨g_4, h⟩ := gd_some h
    refine g_astore_n (pc' := 6) (i := 3) (lo' := [some (.ref (ea E 35)), some (.int v1), some (.int v2), some (.ref (ea E (4 * o_3)))]) hC dX5_has_5 rfl rfl rfl rfl rfl ?_
    refine g_aload_n (pc' := 7) (i := 3) hC dX5_has_6 rfl rfl rfl ?_
    refine g_ifnull (pc' := 10) hC dX5_has_7 rfl ?_
    refine g_aload_n (pc' := 11) (i := 3) hC dX5_has_10 rfl rfl rfl ?_
    refine g_iload_n (pc' := 12) (i := 2) hC dX5_has_11 rfl rfl rfl ?_
    obtain ⟨a_5, hc_6, h⟩ := bd1_some h
    refine g_callV (pc' := 15) hC (c_X0_holds _ (of_decide_eq_true g_4) hc_6) ml_X5_90 (rc_Col (of_decide_eq_true g_4)) (by decide) rfl rfl rfl rfl dX5_has_12 rfl ?_
    refine g_if_ne (pc' := 18) (tgt := 20) hC dX5_has_15 (by decide) rfl h (fun h => ?_) (fun h => ?_)
    · refine g_iconst (pc' := 19) (v := (-1 : Int32)) hC dX5_has_18 (by decide) rfl ?_
      obtain rfl := inj1 h; exact g_iret hC dX5_has_19
    · refine g_aload_n (pc' := 21) (i := 3) hC dX5_has_20 rfl rfl rfl ?_
      refine g_iload_n (pc' := 22) (i := 2) hC dX5_has_21 rfl rfl rfl ?_
      obtain ⟨a_7, hc_8, h⟩ := bd1_some h
      refine g_callV (pc' := 25) hC (c_X0_isThere _ (of_decide_eq_true g_4) hc_8) ml_X5_94 (rc_Col (of_decide_eq_true g_4)) (by decide) rfl rfl rfl rfl dX5_has_22 rfl ?_
      refine g_if_eq (pc' := 28) (tgt := 32) hC dX5_has_25 (by decide) rfl h (fun h => ?_) (fun h => ?_)
      · refine g_iconst (pc' := 33) (v := (nI 0)) hC dX5_has_32 (by decide) rfl ?_
        obtain rfl := inj1 h; exact g_iret hC dX5_has_33
      · refine g_iconst (pc' := 29) (v := (nI 1)) hC dX5_has_28 (by decide) rfl ?_
        refine g_goto (tgt := 33) hC dX5_has_29 (by decide) ?_
        obtain rfl := inj1 h; exact g_iret hC dX5_has_33
set_option maxRecDepth 200000 in
theorem c_X5_value (l : Launch) {E : GE} {rr : Int64} {v1 : Int32} {v2 : Int32}  (h : p_X5_value v1 v2 xc xn = some rr) : Met l yX5_value (.code yX5_value cX5_value 4 (some .long) :: gU) rm_X5_value (gP E (xws E xk xo xc xt xn xl rc rv rb la wch wcc wpl wun srow ssp sen str stp swd rwp rdr rpd rpv rpc rzp) [.ref (ea E 35), .int v1, .int v2]) (gQ E (xws E xk xo xc xt xn xl rc rv rb la wch wcc wpl wun srow ssp sen str stp swd rwp rdr rpd rpv rpc rzp) (some (.long rr))) 0 0 E.2.2.1 := by
  refine met_of (y := yX5_value) (own := RX5) (lo := [some (.ref (ea E 35)), some (.int v1), some (.int v2), none]) (by decide) rfl rfl rfl (fun κ hl hC => ?_)
  subst hl
  unfold p_X5_value at h
  refine g_aload_n (pc' := 1) (i := 0) hC dX5_value_0 rfl rfl rfl ?_
  refine g_iload_n (pc' := 2) (i := 1) hC dX5_value_1 rfl rfl rfl ?_
  obtain ⟨a_1, hc_2, h⟩ := bd1_some h
  refine g_callV (pc' := 5) hC (c_X5_columnAt _ hc_2) ml_X5_42 (rc_CP) (by decide) rfl rfl rfl rfl dX5_value_2 rfl ?_
  rcases a_1 with _ | o_3
  · have h := mo_n h
    refine g_astore_nN (pc' := 6) (i := 3) (lo' := [some (.ref (ea E 35)), some (.int v1), some (.int v2), some (.null)]) hC dX5_value_5 rfl rfl rfl rfl rfl ?_
    refine g_aload_nN (pc' := 7) (i := 3) hC dX5_value_6 rfl rfl rfl ?_
    refine g_ifnullN (tgt := 18) hC dX5_value_7 (by decide) ?_
    refine g_lconst (pc' := 19) (v := (lN 0)) hC dX5_value_18 (by decide) rfl ?_
    obtain rfl := inj1 h; exact g_lret hC dX5_value_19
  · have h := mo_s h
    obtain ⟨g_4, h⟩ := gd_some h
    refine g_astore_n (pc' := 6) (i := 3) (lo' := [some (.ref (ea E 35)), some (.int v1), some (.int v2), some (.ref (ea E (4 * o_3)))]) hC dX5_value_5 rfl rfl rfl rfl rfl ?_
    refine g_aload_n (pc' := 7) (i := 3) hC dX5_value_6 rfl rfl rfl ?_
    refine g_ifnull (pc' := 10) hC dX5_value_7 rfl ?_
    refine g_aload_n (pc' := 11) (i := 3) hC dX5_value_10 rfl rfl rfl ?_
    refine g_iload_n (pc' := 12) (i := 2) hC dX5_value_11 rfl rfl rfl ?_
    obtain ⟨a_5, hc_6, h⟩ := bd1_some h
    refine g_callV (pc' := 15) hC (c_X0_holds _ (of_decide_eq_true g_4) hc_6) ml_X5_90 (rc_Col (of_decide_eq_true g_4)) (by decide) rfl rfl rfl rfl dX5_value_12 rfl ?_
    refine g_if_ne (pc' := 18) (tgt := 20) hC dX5_value_15 (by decide) rfl h (fun h => ?_) (fun h => ?_)
    · refine g_lconst (pc' := 19) (v := (lN 0)) hC dX5_value_18 (by decide) rfl ?_
      obtain rfl := inj1 h; exact g_lret hC dX5_value_19
    · refine g_aload_n (pc' := 21) (i := 3) hC dX5_value_20 rfl rfl rfl ?_
      refine g_iload_n (pc' := 22) (i := 2) hC dX5_value_21 rfl rfl rfl ?_
      obtain ⟨a_7, hc_8, h⟩ := bd1_some h
      refine g_callV (pc' := 25) hC (c_X0_numberAt _ (of_decide_eq_true g_4) hc_8) ml_X5_97 (rc_Col (of_decide_eq_true g_4)) (by decide) rfl rfl rfl rfl dX5_value_22 rfl ?_
      obtain rfl := inj1 h; exact g_lret hC dX5_value_25
set_option maxRecDepth 200000 in
theorem c_X5_letter (l : Launch) {E : GE} {rr : Int32} {v1 : Int32} {v2 : Int32} {v3 : Int32}  (h : p_X5_letter v1 v2 v3 xk xc xt xn xl = some rr) : Met l yX5_letter (.code yX5_letter cX5_letter 5 (some .int) :: gU) rm_X5_letter (gP E (xws E xk xo xc xt xn xl rc rv rb la wch wcc wpl wun srow ssp sen str stp swd rwp rdr rpd rpv rpc rzp) [.ref (ea E 35), .int v1, .int v2, .int v3]) (gQ E (xws E xk xo xc xt xn xl rc rv rb la wch wcc wpl wun srow ssp sen str stp swd rwp rdr rpd rpv rpc rzp) (some (.int rr))) 0 0 E.2.2.1 := by
  refine met_of (y := yX5_letter) (own := RX5) (lo := [some (.ref (ea E 35)), some (.int v1), some (.int v2), some (.int v3), none]) (by decide) rfl rfl rfl (fun κ hl hC => ?_)
  subst hl
  unfold p_X5_letter at h
  refine g_aload_n (pc' := 1) (i := 0) hC dX5_letter_0 rfl rfl rfl ?_
  refine g_iload_n (pc' := 2) (i := 1) hC dX5_letter_1 rfl rfl rfl ?_
  obtain ⟨a_1, hc_2, h⟩ := bd1_some h
  refine g_callV (pc' := 5) hC (c_X5_columnAt _ hc_2) ml_X5_42 (rc_CP) (by decide) rfl rfl rfl rfl dX5_letter_2 rfl ?_
  rcases a_1 with _ | o_3
  · have h := mo_n h
    refine g_astoreN (pc' := 7) (i := 4) (lo' := [some (.ref (ea E 35)), some (.int v1), some (.int v2), some (.int v3), some (.null)]) hC dX5_letter_5 rfl rfl rfl rfl ?_
    refine g_aloadN (pc' := 9) (i := 4) hC dX5_letter_7 rfl rfl ?_
    refine g_ifnullN (tgt := 39) hC dX5_letter_9 (by decide) ?_
    refine g_iconst (pc' := 40) (v := (-1 : Int32)) hC dX5_letter_39 (by decide) rfl ?_
    obtain rfl := inj1 h; exact g_iret hC dX5_letter_40
  · have h := mo_s h
    obtain ⟨g_4, h⟩ := gd_some h
    refine g_astore (pc' := 7) (i := 4) (lo' := [some (.ref (ea E 35)), some (.int v1), some (.int v2), some (.int v3), some (.ref (ea E (4 * o_3)))]) hC dX5_letter_5 rfl rfl rfl rfl ?_
    refine g_aload (pc' := 9) (i := 4) hC dX5_letter_7 rfl rfl ?_
    refine g_ifnull (pc' := 12) hC dX5_letter_9 rfl ?_
    refine g_aload (pc' := 14) (i := 4) hC dX5_letter_12 rfl rfl ?_
    refine gf_X5_54 (pc' := 17) hC (of_decide_eq_true g_4) dX5_letter_14 rfl ?_
    refine g_iconst (pc' := 18) (v := (nI 2)) hC dX5_letter_17 (by decide) rfl ?_
    refine g_icmp_ne (pc' := 21) (tgt := 39) hC dX5_letter_18 (by decide) rfl h (fun h => ?_) (fun h => ?_)
    · refine g_aload (pc' := 23) (i := 4) hC dX5_letter_21 rfl rfl ?_
      refine g_iload_n (pc' := 24) (i := 2) hC dX5_letter_23 rfl rfl rfl ?_
      obtain ⟨a_5, hc_6, h⟩ := bd1_some h
      refine g_callV (pc' := 27) hC (c_X0_holds _ (of_decide_eq_true g_4) hc_6) ml_X5_90 (rc_Col (of_decide_eq_true g_4)) (by decide) rfl rfl rfl rfl dX5_letter_24 rfl ?_
      refine g_if_eq (pc' := 30) (tgt := 39) hC dX5_letter_27 (by decide) rfl h (fun h => ?_) (fun h => ?_)
      · refine g_iconst (pc' := 40) (v := (-1 : Int32)) hC dX5_letter_39 (by decide) rfl ?_
        obtain rfl := inj1 h; exact g_iret hC dX5_letter_40
      · refine g_aload (pc' := 32) (i := 4) hC dX5_letter_30 rfl rfl ?_
        refine g_iload_n (pc' := 33) (i := 2) hC dX5_letter_32 rfl rfl rfl ?_
        obtain ⟨a_7, hc_8, h⟩ := bd1_some h
        refine g_callV (pc' := 36) hC (c_X0_isThere _ (of_decide_eq_true g_4) hc_8) ml_X5_94 (rc_Col (of_decide_eq_true g_4)) (by decide) rfl rfl rfl rfl dX5_letter_33 rfl ?_
        refine g_if_ne (pc' := 39) (tgt := 41) hC dX5_letter_36 (by decide) rfl h (fun h => ?_) (fun h => ?_)
        · refine g_iconst (pc' := 40) (v := (-1 : Int32)) hC dX5_letter_39 (by decide) rfl ?_
          obtain rfl := inj1 h; exact g_iret hC dX5_letter_40
        · refine g_iload_n (pc' := 42) (i := 3) hC dX5_letter_41 rfl rfl rfl ?_
          refine g_if_lt (pc' := 45) (tgt := 57) hC dX5_letter_42 (by decide) rfl h (fun h => ?_) (fun h => ?_)
          · refine g_iconst (pc' := 58) (v := (-1 : Int32)) hC dX5_letter_57 (by decide) rfl ?_
            obtain rfl := inj1 h; exact g_iret hC dX5_letter_58
          · refine g_iload_n (pc' := 46) (i := 3) hC dX5_letter_45 rfl rfl rfl ?_
            refine g_i2l (pc' := 47) hC dX5_letter_46 rfl ?_
            refine g_aload (pc' := 49) (i := 4) hC dX5_letter_47 rfl rfl ?_
            refine g_iload_n (pc' := 50) (i := 2) hC dX5_letter_49 rfl rfl rfl ?_
            obtain ⟨a_9, hc_10, h⟩ := bd1_some h
            refine g_callV (pc' := 53) hC (c_X0_numberAt _ (of_decide_eq_true g_4) hc_10) ml_X5_97 (rc_Col (of_decide_eq_true g_4)) (by decide) rfl rfl rfl rfl dX5_letter_50 rfl ?_
            refine g_lcmp_lt (pc' := 57) (tgt := 59) hC dX5_letter_53 dX5_letter_54 rfl (by decide) rfl h (fun h => ?_) (fun h => ?_)
            · refine g_aload (pc' := 61) (i := 4) hC dX5_letter_59 rfl rfl ?_
              refine g_iload_n (pc' := 62) (i := 2) hC dX5_letter_61 rfl rfl rfl ?_
              refine g_iload_n (pc' := 63) (i := 3) hC dX5_letter_62 rfl rfl rfl ?_
              obtain ⟨a_11, hc_12, h⟩ := bd1_some h
              refine g_callV (pc' := 66) hC (c_X0_letterAt _ (of_decide_eq_true g_4) hc_12) ml_X5_101 (rc_Col (of_decide_eq_true g_4)) (by decide) rfl rfl rfl rfl dX5_letter_63 rfl ?_
              obtain rfl := inj1 h; exact g_iret hC dX5_letter_66
            · refine g_iconst (pc' := 58) (v := (-1 : Int32)) hC dX5_letter_57 (by decide) rfl ?_
              obtain rfl := inj1 h; exact g_iret hC dX5_letter_58
    · refine g_iconst (pc' := 40) (v := (-1 : Int32)) hC dX5_letter_39 (by decide) rfl ?_
      obtain rfl := inj1 h; exact g_iret hC dX5_letter_40
set_option maxRecDepth 200000 in
theorem c_X5_alike (l : Launch) {E : GE} {rr : Int32} {v1 : Int32} {v2 : Int32}  (h : p_X5_alike v1 v2 xk xc xt xn xl = some rr) : Met l yX5_alike (.code yX5_alike cX5_alike 5 (some .int) :: gU) rm_X5_alike (gP E (xws E xk xo xc xt xn xl rc rv rb la wch wcc wpl wun srow ssp sen str stp swd rwp rdr rpd rpv rpc rzp) [.ref (ea E 35), .int v1, .int v2]) (gQ E (xws E xk xo xc xt xn xl rc rv rb la wch wcc wpl wun srow ssp sen str stp swd rwp rdr rpd rpv rpc rzp) (some (.int rr))) 0 0 E.2.2.1 := by
  refine met_of (y := yX5_alike) (own := RX5) (lo := [some (.ref (ea E 35)), some (.int v1), some (.int v2), none, none]) (by decide) rfl rfl rfl (fun κ hl hC => ?_)
  subst hl
  unfold p_X5_alike at h
  refine g_aload_n (pc' := 1) (i := 0) hC dX5_alike_0 rfl rfl rfl ?_
  refine g_iload_n (pc' := 2) (i := 1) hC dX5_alike_1 rfl rfl rfl ?_
  obtain ⟨a_1, hc_2, h⟩ := bd1_some h
  refine g_callV (pc' := 5) hC (c_X5_columnAt _ hc_2) ml_X5_42 (rc_CP) (by decide) rfl rfl rfl rfl dX5_alike_2 rfl ?_
  rcases a_1 with _ | o_3
  · have h := mo_n h
    refine g_astore_nN (pc' := 6) (i := 3) (lo' := [some (.ref (ea E 35)), some (.int v1), some (.int v2), some (.null), none]) hC dX5_alike_5 rfl rfl rfl rfl rfl ?_
    refine g_aload_n (pc' := 7) (i := 0) hC dX5_alike_6 rfl rfl rfl ?_
    refine g_iload_n (pc' := 8) (i := 2) hC dX5_alike_7 rfl rfl rfl ?_
    obtain ⟨a_4, hc_5, h⟩ := bd1_some h
    refine g_callV (pc' := 11) hC (c_X5_columnAt _ hc_5) ml_X5_42 (rc_CP) (by decide) rfl rfl rfl rfl dX5_alike_8 rfl ?_
    rcases a_4 with _ | o_6
    · have h := mo_n h
      refine g_astoreN (pc' := 13) (i := 4) (lo' := [some (.ref (ea E 35)), some (.int v1), some (.int v2), some (.null), some (.null)]) hC dX5_alike_11 rfl rfl rfl rfl ?_
      refine g_aload_nN (pc' := 14) (i := 3) hC dX5_alike_13 rfl rfl rfl ?_
      refine g_ifnullN (tgt := 22) hC dX5_alike_14 (by decide) ?_
      refine g_iconst (pc' := 23) (v := (-1 : Int32)) hC dX5_alike_22 (by decide) rfl ?_
      obtain rfl := inj1 h; exact g_iret hC dX5_alike_23
    · have h := mo_s h
      obtain ⟨g_7, h⟩ := gd_some h
      refine g_astore (pc' := 13) (i := 4) (lo' := [some (.ref (ea E 35)), some (.int v1), some (.int v2), some (.null), some (.ref (ea E (4 * o_6)))]) hC dX5_alike_11 rfl rfl rfl rfl ?_
      refine g_aload_nN (pc' := 14) (i := 3) hC dX5_alike_13 rfl rfl rfl ?_
      refine g_ifnullN (tgt := 22) hC dX5_alike_14 (by decide) ?_
      refine g_iconst (pc' := 23) (v := (-1 : Int32)) hC dX5_alike_22 (by decide) rfl ?_
      obtain rfl := inj1 h; exact g_iret hC dX5_alike_23
  · have h := mo_s h
    obtain ⟨g_8, h⟩ := gd_some h
    refine g_astore_n (pc' := 6) (i := 3) (lo' := [some (.ref (ea E 35)), some (.int v1), some (.int v2), some (.ref (ea E (4 * o_3))), none]) hC dX5_alike_5 rfl rfl rfl rfl rfl ?_
    refine g_aload_n (pc' := 7) (i := 0) hC dX5_alike_6 rfl rfl rfl ?_
    refine g_iload_n (pc' := 8) (i := 2) hC dX5_alike_7 rfl rfl rfl ?_
    obtain ⟨a_9, hc_10, h⟩ := bd1_some h
    refine g_callV (pc' := 11) hC (c_X5_columnAt _ hc_10) ml_X5_42 (rc_CP) (by decide) rfl rfl rfl rfl dX5_alike_8 rfl ?_
    rcases a_9 with _ | o_11
    · have h := mo_n h
      refine g_astoreN (pc' := 13) (i := 4) (lo' := [some (.ref (ea E 35)), some (.int v1), some (.int v2), some (.ref (ea E (4 * o_3))), some (.null)]) hC dX5_alike_11 rfl rfl rfl rfl ?_
      refine g_aload_n (pc' := 14) (i := 3) hC dX5_alike_13 rfl rfl rfl ?_
      refine g_ifnull (pc' := 17) hC dX5_alike_14 rfl ?_
      refine g_aloadN (pc' := 19) (i := 4) hC dX5_alike_17 rfl rfl ?_
      refine g_ifnonnullN (pc' := 22) hC dX5_alike_19 rfl ?_
      refine g_iconst (pc' := 23) (v := (-1 : Int32)) hC dX5_alike_22 (by decide) rfl ?_
      obtain rfl := inj1 h; exact g_iret hC dX5_alike_23
    · have h := mo_s h
      obtain ⟨g_12, h⟩ := gd_some h
      refine g_astore (pc' := 13) (i := 4) (lo' := [some (.ref (ea E 35)), some (.int v1), some (.int v2), some (.ref (ea E (4 * o_3))), some (.ref (ea E (4 * o_11)))]) hC dX5_alike_11 rfl rfl rfl rfl ?_
      refine g_aload_n (pc' := 14) (i := 3) hC dX5_alike_13 rfl rfl rfl ?_
      refine g_ifnull (pc' := 17) hC dX5_alike_14 rfl ?_
      refine g_aload (pc' := 19) (i := 4) hC dX5_alike_17 rfl rfl ?_
      refine g_ifnonnull (tgt := 24) hC dX5_alike_19 (by decide) ?_
      refine g_aload_n (pc' := 25) (i := 3) hC dX5_alike_24 rfl rfl rfl ?_
      refine g_aload (pc' := 27) (i := 4) hC dX5_alike_25 rfl rfl ?_
      obtain ⟨a_13, hc_14, h⟩ := bd1_some h
      refine g_callV (pc' := 30) hC (c_X0_isLike _ (of_decide_eq_true g_8) (of_decide_eq_true g_12) hc_14) ml_X5_105 (rc_Col (of_decide_eq_true g_8)) (by decide) rfl rfl rfl rfl dX5_alike_27 rfl ?_
      refine g_if_eq (pc' := 33) (tgt := 37) hC dX5_alike_30 (by decide) rfl h (fun h => ?_) (fun h => ?_)
      · refine g_iconst (pc' := 38) (v := (nI 0)) hC dX5_alike_37 (by decide) rfl ?_
        obtain rfl := inj1 h; exact g_iret hC dX5_alike_38
      · refine g_iconst (pc' := 34) (v := (nI 1)) hC dX5_alike_33 (by decide) rfl ?_
        refine g_goto (tgt := 38) hC dX5_alike_34 (by decide) ?_
        obtain rfl := inj1 h; exact g_iret hC dX5_alike_38
set_option maxRecDepth 200000 in
theorem w_X5_write_J78 {κ : GK} {E : GE} {rr : Int32} {rcz : Nat → Int32} {rvz : Nat → Int32} {rbz : Nat → Nat → Int32} {laz : Nat → Nat → Int64} {wchz : Nat → Int32} {wccz : Int32} {wplz : Nat → Int32} {wunz : Int32} {s0 : Int32}  (hC : gC κ E cX5_write RX5 (some .int) rm_X5_write 7)   (h : p_X5_write_J78 s0 rc rv rb la wch wcc wpl wun = some (rr, rcz, rvz, rbz, laz, wchz, wccz, wplz, wunz)) : GG κ E (xws E xk xo xc xt xn xl rcz rvz rbz laz wchz wccz wplz wunz srow ssp sen str stp swd rwp rdr rpd rpv rpc rzp, some (.int rr)) (xws E xk xo xc xt xn xl rc rv rb la wch wcc wpl wun srow ssp sen str stp swd rwp rdr rpd rpv rpc rzp) 78 [some (.ref (ea E 35)), none, none, none, none, none, none] [.int s0] := by
  unfold p_X5_write_J78 at h
  refine g_istore (pc' := 80) (i := 6) (lo' := [some (.ref (ea E 35)), none, none, none, none, none, some (.int s0)]) hC dX5_write_78 rfl rfl rfl rfl ?_
  refine g_aload_n (pc' := 81) (i := 0) hC dX5_write_80 rfl rfl rfl ?_
  refine gf_X5_31 (pc' := 84) hC dX5_write_81 rfl ?_
  refine gf_X5_113 (pc' := 87) hC dX5_write_84 rfl ?_
  refine gf_X5_116 (pc' := 90) hC (by decide) dX5_write_87 rfl ?_
  refine g_if_ne (pc' := 93) (tgt := 112) hC dX5_write_90 (by decide) rfl h (fun h => ?_) (fun h => ?_)
  · refine g_iload (pc' := 95) (i := 6) hC dX5_write_93 rfl rfl ?_
    refine g_aload_n (pc' := 96) (i := 0) hC dX5_write_95 rfl rfl rfl ?_
    refine gf_X5_31 (pc' := 99) hC dX5_write_96 rfl ?_
    refine gf_X5_113 (pc' := 102) hC dX5_write_99 rfl ?_
    refine gf_X5_61 (pc' := 105) hC (by decide) dX5_write_102 rfl ?_
    refine g_iadd (pc' := 106) hC dX5_write_105 rfl ?_
    refine g_sipush (pc' := 109) (v := (nI 12000)) hC dX5_write_106 (by decide) rfl ?_
    refine g_icmp_le (pc' := 112) (tgt := 115) hC dX5_write_109 (by decide) rfl h (fun h => ?_) (fun h => ?_)
    · refine g_bipush (pc' := 114) (v := (-3 : Int32)) hC dX5_write_112 (by decide) rfl ?_
      obtain ⟨rfl, rfl, rfl, rfl, rfl, rfl, rfl, rfl, rfl⟩ := inj9 h; exact g_iret hC dX5_write_114
    · refine g_aload_n (pc' := 116) (i := 0) hC dX5_write_115 rfl rfl rfl ?_
      refine gf_X5_25 (pc' := 119) hC dX5_write_116 rfl ?_
      refine g_iload (pc' := 121) (i := 6) hC dX5_write_119 rfl rfl ?_
      obtain ⟨rc_14, hc_15, h⟩ := bd1_some h
      refine g_callV (pc' := 124) hC (c_X3_shorten _ (by decide) hc_15) ml_X5_119 (rc_Row (by decide)) (by decide) rfl rfl rfl rfl dX5_write_121 rfl ?_
      refine g_aload_n (pc' := 125) (i := 0) hC dX5_write_124 rfl rfl rfl ?_
      refine gf_X5_25 (pc' := 128) hC dX5_write_125 rfl ?_
      refine g_aload_n (pc' := 129) (i := 0) hC dX5_write_128 rfl rfl rfl ?_
      refine gf_X5_31 (pc' := 132) hC dX5_write_129 rfl ?_
      refine gf_X5_113 (pc' := 135) hC dX5_write_132 rfl ?_
      obtain ⟨rc_16, rv_17, rb_18, hc_19, h⟩ := bd3_some h
      refine g_callV (pc' := 138) hC (c_X3_append _ (by decide) (by decide) hc_19) ml_X5_122 (rc_Row (by decide)) (by decide) rfl rfl rfl rfl dX5_write_135 rfl ?_
      refine g_aload_n (pc' := 139) (i := 0) hC dX5_write_138 rfl rfl rfl ?_
      refine gf_X5_25 (pc' := 142) hC dX5_write_139 rfl ?_
      refine gf_X5_61 (pc' := 145) hC (by decide) dX5_write_142 rfl ?_
      obtain ⟨rfl, rfl, rfl, rfl, rfl, rfl, rfl, rfl, rfl⟩ := inj9 h; exact g_iret hC dX5_write_145
  · refine g_bipush (pc' := 114) (v := (-3 : Int32)) hC dX5_write_112 (by decide) rfl ?_
    obtain ⟨rfl, rfl, rfl, rfl, rfl, rfl, rfl, rfl, rfl⟩ := inj9 h; exact g_iret hC dX5_write_114
set_option maxRecDepth 200000 in
theorem w_X5_write_J51 {κ : GK} {E : GE} {rr : Int32} {rcz : Nat → Int32} {rvz : Nat → Int32} {rbz : Nat → Nat → Int32} {laz : Nat → Nat → Int64} {wchz : Nat → Int32} {wccz : Int32} {wplz : Nat → Int32} {wunz : Int32} {v2 : Int32} {v3 : Int32} {v4 : Int32} {v5 : Nat}  (hC : gC κ E cX5_write RX5 (some .int) rm_X5_write 7) (hv5 : v5 < 6)  (h : p_X5_write_J51 v2 v3 v4 v5 xk xo xc xt xn xl rc rv rb la wch wcc wpl wun = some (rr, rcz, rvz, rbz, laz, wchz, wccz, wplz, wunz)) : GG κ E (xws E xk xo xc xt xn xl rcz rvz rbz laz wchz wccz wplz wunz srow ssp sen str stp swd rwp rdr rpd rpv rpc rzp, some (.int rr)) (xws E xk xo xc xt xn xl rc rv rb la wch wcc wpl wun srow ssp sen str stp swd rwp rdr rpd rpv rpc rzp) 51 [some (.ref (ea E 35)), none, some (.int v2), some (.int v3), some (.int v4), some (.ref (ea E (4 * v5))), none] [] := by
  unfold p_X5_write_J51 at h
  refine g_aload_n (pc' := 52) (i := 0) hC dX5_write_51 rfl rfl rfl ?_
  refine gf_X5_31 (pc' := 55) hC dX5_write_52 rfl ?_
  refine g_aload (pc' := 57) (i := 5) hC dX5_write_55 rfl rfl ?_
  refine g_iload_n (pc' := 58) (i := 2) hC dX5_write_57 rfl rfl rfl ?_
  refine g_iload_n (pc' := 59) (i := 3) hC dX5_write_58 rfl rfl rfl ?_
  obtain ⟨rc_5, rv_6, rb_7, la_8, wch_9, wcc_10, wpl_11, wun_12, hc_13, h⟩ := bd8_some h
  refine g_callV (pc' := 62) hC (c_X2_writePages _ hv5 hc_13) ml_X5_109 (rc_Wr) (by decide) rfl rfl rfl rfl dX5_write_59 rfl ?_
  refine g_iload (pc' := 64) (i := 4) hC dX5_write_62 rfl rfl ?_
  refine g_if_eq (pc' := 67) (tgt := 77) hC dX5_write_64 (by decide) rfl h (fun h => ?_) (fun h => ?_)
  · refine g_iconst (pc' := 78) (v := (nI 0)) hC dX5_write_77 (by decide) rfl ?_
    refine g_weak (lo' := [some (.ref (ea E 35)), none, none, none, none, none, none]) rfl ?_
    exact w_X5_write_J78 hC   h
  · refine g_aload_n (pc' := 68) (i := 0) hC dX5_write_67 rfl rfl rfl ?_
    refine gf_X5_25 (pc' := 71) hC dX5_write_68 rfl ?_
    refine gf_X5_61 (pc' := 74) hC (by decide) dX5_write_71 rfl ?_
    refine g_goto (tgt := 78) hC dX5_write_74 (by decide) ?_
    refine g_weak (lo' := [some (.ref (ea E 35)), none, none, none, none, none, none]) rfl ?_
    exact w_X5_write_J78 hC   h
set_option maxRecDepth 200000 in
theorem c_X5_write (l : Launch) {E : GE} {rr : Int32} {rcz : Nat → Int32} {rvz : Nat → Int32} {rbz : Nat → Nat → Int32} {laz : Nat → Nat → Int64} {wchz : Nat → Int32} {wccz : Int32} {wplz : Nat → Int32} {wunz : Int32} {v1 : Int32} {v2 : Int32} {v3 : Int32} {v4 : Int32}  (h : p_X5_write v1 v2 v3 v4 xk xo xc xt xn xl rc rv rb la wch wcc wpl wun = some (rr, rcz, rvz, rbz, laz, wchz, wccz, wplz, wunz)) : Met l yX5_write (.code yX5_write cX5_write 7 (some .int) :: gU) rm_X5_write (gP E (xws E xk xo xc xt xn xl rc rv rb la wch wcc wpl wun srow ssp sen str stp swd rwp rdr rpd rpv rpc rzp) [.ref (ea E 35), .int v1, .int v2, .int v3, .int v4]) (gQ E (xws E xk xo xc xt xn xl rcz rvz rbz laz wchz wccz wplz wunz srow ssp sen str stp swd rwp rdr rpd rpv rpc rzp) (some (.int rr))) 0 0 E.2.2.1 := by
  refine met_of (y := yX5_write) (own := RX5) (lo := [some (.ref (ea E 35)), some (.int v1), some (.int v2), some (.int v3), some (.int v4), none, none]) (by decide) rfl rfl rfl (fun κ hl hC => ?_)
  subst hl
  unfold p_X5_write at h
  refine g_aload_n (pc' := 1) (i := 0) hC dX5_write_0 rfl rfl rfl ?_
  refine g_iload_n (pc' := 2) (i := 1) hC dX5_write_1 rfl rfl rfl ?_
  obtain ⟨a_1, hc_2, h⟩ := bd1_some h
  refine g_callV (pc' := 5) hC (c_X5_columnAt _ hc_2) ml_X5_42 (rc_CP) (by decide) rfl rfl rfl rfl dX5_write_2 rfl ?_
  rcases a_1 with _ | o_3
  · have h := mo_n h
    refine g_astoreN (pc' := 7) (i := 5) (lo' := [some (.ref (ea E 35)), some (.int v1), some (.int v2), some (.int v3), some (.int v4), some (.null), none]) hC dX5_write_5 rfl rfl rfl rfl ?_
    refine g_aloadN (pc' := 9) (i := 5) hC dX5_write_7 rfl rfl ?_
    refine g_ifnullN (tgt := 33) hC dX5_write_9 (by decide) ?_
    refine g_iconst (pc' := 34) (v := (-1 : Int32)) hC dX5_write_33 (by decide) rfl ?_
    obtain ⟨rfl, rfl, rfl, rfl, rfl, rfl, rfl, rfl, rfl⟩ := inj9 h; exact g_iret hC dX5_write_34
  · have h := mo_s h
    obtain ⟨g_4, h⟩ := gd_some h
    refine g_astore (pc' := 7) (i := 5) (lo' := [some (.ref (ea E 35)), some (.int v1), some (.int v2), some (.int v3), some (.int v4), some (.ref (ea E (4 * o_3))), none]) hC dX5_write_5 rfl rfl rfl rfl ?_
    refine g_aload (pc' := 9) (i := 5) hC dX5_write_7 rfl rfl ?_
    refine g_ifnull (pc' := 12) hC dX5_write_9 rfl ?_
    refine g_iload_n (pc' := 13) (i := 2) hC dX5_write_12 rfl rfl rfl ?_
    refine g_if_lt (pc' := 16) (tgt := 33) hC dX5_write_13 (by decide) rfl h (fun h => ?_) (fun h => ?_)
    · refine g_iconst (pc' := 34) (v := (-1 : Int32)) hC dX5_write_33 (by decide) rfl ?_
      obtain ⟨rfl, rfl, rfl, rfl, rfl, rfl, rfl, rfl, rfl⟩ := inj9 h; exact g_iret hC dX5_write_34
    · refine g_iload_n (pc' := 17) (i := 2) hC dX5_write_16 rfl rfl rfl ?_
      refine g_iconst (pc' := 18) (v := (nI 2)) hC dX5_write_17 (by decide) rfl ?_
      refine g_icmp_gt (pc' := 21) (tgt := 33) hC dX5_write_18 (by decide) rfl h (fun h => ?_) (fun h => ?_)
      · refine g_iconst (pc' := 34) (v := (-1 : Int32)) hC dX5_write_33 (by decide) rfl ?_
        obtain ⟨rfl, rfl, rfl, rfl, rfl, rfl, rfl, rfl, rfl⟩ := inj9 h; exact g_iret hC dX5_write_34
      · refine g_iload_n (pc' := 22) (i := 3) hC dX5_write_21 rfl rfl rfl ?_
        refine g_iconst (pc' := 23) (v := (nI 1)) hC dX5_write_22 (by decide) rfl ?_
        refine g_icmp_lt (pc' := 26) (tgt := 33) hC dX5_write_23 (by decide) rfl h (fun h => ?_) (fun h => ?_)
        · refine g_iconst (pc' := 34) (v := (-1 : Int32)) hC dX5_write_33 (by decide) rfl ?_
          obtain ⟨rfl, rfl, rfl, rfl, rfl, rfl, rfl, rfl, rfl⟩ := inj9 h; exact g_iret hC dX5_write_34
        · refine g_iload_n (pc' := 27) (i := 3) hC dX5_write_26 rfl rfl rfl ?_
          refine g_sipush (pc' := 30) (v := (nI 200)) hC dX5_write_27 (by decide) rfl ?_
          refine g_icmp_le (pc' := 33) (tgt := 35) hC dX5_write_30 (by decide) rfl h (fun h => ?_) (fun h => ?_)
          · refine g_iconst (pc' := 34) (v := (-1 : Int32)) hC dX5_write_33 (by decide) rfl ?_
            obtain ⟨rfl, rfl, rfl, rfl, rfl, rfl, rfl, rfl, rfl⟩ := inj9 h; exact g_iret hC dX5_write_34
          · refine g_iload_n (pc' := 36) (i := 2) hC dX5_write_35 rfl rfl rfl ?_
            refine g_iconst (pc' := 37) (v := (nI 1)) hC dX5_write_36 (by decide) rfl ?_
            refine g_icmp_ne (pc' := 40) (tgt := 51) hC dX5_write_37 (by decide) rfl h (fun h => ?_) (fun h => ?_)
            · refine g_aload (pc' := 42) (i := 5) hC dX5_write_40 rfl rfl ?_
              refine gf_X5_54 (pc' := 45) hC (of_decide_eq_true g_4) dX5_write_42 rfl ?_
              refine g_iconst (pc' := 46) (v := (nI 3)) hC dX5_write_45 (by decide) rfl ?_
              refine g_icmp_ne (pc' := 49) (tgt := 51) hC dX5_write_46 (by decide) rfl h (fun h => ?_) (fun h => ?_)
              · refine g_iconst (pc' := 50) (v := (-1 : Int32)) hC dX5_write_49 (by decide) rfl ?_
                obtain ⟨rfl, rfl, rfl, rfl, rfl, rfl, rfl, rfl, rfl⟩ := inj9 h; exact g_iret hC dX5_write_50
              · refine g_weak (lo' := [some (.ref (ea E 35)), none, some (.int v2), some (.int v3), some (.int v4), some (.ref (ea E (4 * o_3))), none]) rfl ?_
                exact w_X5_write_J51 hC (of_decide_eq_true g_4)  h
            · refine g_weak (lo' := [some (.ref (ea E 35)), none, some (.int v2), some (.int v3), some (.int v4), some (.ref (ea E (4 * o_3))), none]) rfl ?_
              exact w_X5_write_J51 hC (of_decide_eq_true g_4)  h
set_option maxRecDepth 200000 in
theorem c_X5_read (l : Launch) {E : GE} {rr : Int32} {xkz : Nat → Int32} {xoz : Nat → Int32} {xcz : Nat → Int32} {xtz : Nat → Nat → Int32} {xnz : Nat → Nat → Int64} {xlz : Nat → Nat → Int32} {laz : Nat → Nat → Int64} {srowz : Option Nat} {sspz : Int32} {senz : Int32} {strz : Int32} {stpz : Int32} {swdz : Nat → Int32} {rwpz : Int32} {rdrz : Int32} {rpdz : Int32} {rpvz : Int32} {rpcz : Int32} {rzpz : Int32} {v1 : Int32}  (h : p_X5_read v1 xk xo xc xt xn xl rc rb la srow ssp sen str stp swd rwp rdr rpd rpv rpc rzp = some (rr, xkz, xoz, xcz, xtz, xnz, xlz, laz, srowz, sspz, senz, strz, stpz, swdz, rwpz, rdrz, rpdz, rpvz, rpcz, rzpz)) : Met l yX5_read (.code yX5_read cX5_read 3 (some .int) :: gU) rm_X5_read (gP E (xws E xk xo xc xt xn xl rc rv rb la wch wcc wpl wun srow ssp sen str stp swd rwp rdr rpd rpv rpc rzp) [.ref (ea E 35), .int v1]) (gQ E (xws E xkz xoz xcz xtz xnz xlz rc rv rb laz wch wcc wpl wun srowz sspz senz strz stpz swdz rwpz rdrz rpdz rpvz rpcz rzpz) (some (.int rr))) 0 0 E.2.2.1 := by
  refine met_of (y := yX5_read) (own := RX5) (lo := [some (.ref (ea E 35)), some (.int v1), none]) (by decide) rfl rfl rfl (fun κ hl hC => ?_)
  subst hl
  unfold p_X5_read at h
  refine g_aload_n (pc' := 1) (i := 0) hC dX5_read_0 rfl rfl rfl ?_
  refine g_iload_n (pc' := 2) (i := 1) hC dX5_read_1 rfl rfl rfl ?_
  obtain ⟨a_1, hc_2, h⟩ := bd1_some h
  refine g_callV (pc' := 5) hC (c_X5_columnAt _ hc_2) ml_X5_42 (rc_CP) (by decide) rfl rfl rfl rfl dX5_read_2 rfl ?_
  rcases a_1 with _ | o_3
  · have h := mo_n h
    refine g_astore_nN (pc' := 6) (i := 2) (lo' := [some (.ref (ea E 35)), some (.int v1), some (.null)]) hC dX5_read_5 rfl rfl rfl rfl rfl ?_
    refine g_aload_nN (pc' := 7) (i := 2) hC dX5_read_6 rfl rfl rfl ?_
    refine g_ifnonnullN (pc' := 10) hC dX5_read_7 rfl ?_
    refine g_iconst (pc' := 11) (v := (-1 : Int32)) hC dX5_read_10 (by decide) rfl ?_
    obtain ⟨rfl, rfl, rfl, rfl, rfl, rfl, rfl, rfl, rfl, rfl, rfl, rfl, rfl, rfl, rfl, rfl, rfl, rfl, rfl, rfl⟩ := inj20 h; exact g_iret hC dX5_read_11
  · have h := mo_s h
    obtain ⟨g_4, h⟩ := gd_some h
    refine g_astore_n (pc' := 6) (i := 2) (lo' := [some (.ref (ea E 35)), some (.int v1), some (.ref (ea E (4 * o_3)))]) hC dX5_read_5 rfl rfl rfl rfl rfl ?_
    refine g_aload_n (pc' := 7) (i := 2) hC dX5_read_6 rfl rfl rfl ?_
    refine g_ifnonnull (tgt := 12) hC dX5_read_7 (by decide) ?_
    refine g_aload_n (pc' := 13) (i := 0) hC dX5_read_12 rfl rfl rfl ?_
    refine gf_X5_38 (pc' := 16) hC dX5_read_13 rfl ?_
    refine g_aload_n (pc' := 17) (i := 0) hC dX5_read_16 rfl rfl rfl ?_
    refine gf_X5_25 (pc' := 20) hC dX5_read_17 rfl ?_
    refine g_aload_n (pc' := 21) (i := 2) hC dX5_read_20 rfl rfl rfl ?_
    refine gf_X5_54 (pc' := 24) hC (of_decide_eq_true g_4) dX5_read_21 rfl ?_
    refine g_aload_n (pc' := 25) (i := 2) hC dX5_read_24 rfl rfl rfl ?_
    refine gf_X5_72 (pc' := 28) hC (of_decide_eq_true g_4) dX5_read_25 rfl ?_
    obtain ⟨xk_5, xo_6, xc_7, xt_8, xn_9, xl_10, la_11, srow_12, ssp_13, sen_14, str_15, stp_16, swd_17, rwp_18, rdr_19, rpd_20, rpv_21, rpc_22, rzp_23, hc_24, h⟩ := bd19_some h
    refine g_callV (pc' := 31) hC (c_X1_readPages _ (by decide) hc_24) ml_X5_126 (rc_Rd) (by decide) rfl rfl rfl rfl dX5_read_28 rfl ?_
    refine g_aload_n (pc' := 32) (i := 0) hC dX5_read_31 rfl rfl rfl ?_
    refine gf_X5_38 (pc' := 35) hC dX5_read_32 rfl ?_
    refine gf_X5_130 (pc' := 38) hC dX5_read_35 rfl ?_
    obtain ⟨a_25, hc_26, h⟩ := bd1_some h
    refine g_callV (pc' := 41) hC (c_X4_isSound _ hc_26) ml_X5_134 (rc_Src) (by decide) rfl rfl rfl rfl dX5_read_38 rfl ?_
    refine g_if_ne (pc' := 44) (tgt := 58) hC dX5_read_41 (by decide) rfl h (fun h => ?_) (fun h => ?_)
    · refine g_bipush (pc' := 46) (v := (-10 : Int32)) hC dX5_read_44 (by decide) rfl ?_
      refine g_aload_n (pc' := 47) (i := 0) hC dX5_read_46 rfl rfl rfl ?_
      refine gf_X5_38 (pc' := 50) hC dX5_read_47 rfl ?_
      refine gf_X5_130 (pc' := 53) hC dX5_read_50 rfl ?_
      refine gf_X5_140 (pc' := 56) hC dX5_read_53 rfl ?_
      refine g_isub (pc' := 57) hC dX5_read_56 rfl ?_
      obtain ⟨rfl, rfl, rfl, rfl, rfl, rfl, rfl, rfl, rfl, rfl, rfl, rfl, rfl, rfl, rfl, rfl, rfl, rfl, rfl, rfl⟩ := inj20 h; exact g_iret hC dX5_read_57
    · refine g_aload_n (pc' := 59) (i := 2) hC dX5_read_58 rfl rfl rfl ?_
      refine g_aload_n (pc' := 60) (i := 0) hC dX5_read_59 rfl rfl rfl ?_
      refine gf_X5_38 (pc' := 63) hC dX5_read_60 rfl ?_
      refine gf_X5_143 (pc' := 66) hC dX5_read_63 rfl ?_
      obtain ⟨xk_27, xo_28, xc_29, xt_30, xn_31, xl_32, hc_33, h⟩ := bd6_some h
      refine g_callV (pc' := 69) hC (c_X0_become _ (of_decide_eq_true g_4) (by decide) hc_33) ml_X5_147 (rc_Col (of_decide_eq_true g_4)) (by decide) rfl rfl rfl rfl dX5_read_66 rfl ?_
      refine g_aload_n (pc' := 70) (i := 2) hC dX5_read_69 rfl rfl rfl ?_
      refine gf_X5_46 (pc' := 73) hC (of_decide_eq_true g_4) dX5_read_70 rfl ?_
      obtain ⟨rfl, rfl, rfl, rfl, rfl, rfl, rfl, rfl, rfl, rfl, rfl, rfl, rfl, rfl, rfl, rfl, rfl, rfl, rfl, rfl⟩ := inj20 h; exact g_iret hC dX5_read_73
set_option maxRecDepth 200000 in
theorem c_X5_fault (l : Launch) {E : GE} {rr : Int32} {v1 : Int32}  (h : p_X5_fault v1 xc str stp rwp = some rr) : Met l yX5_fault (.code yX5_fault cX5_fault 2 (some .int) :: gU) rm_X5_fault (gP E (xws E xk xo xc xt xn xl rc rv rb la wch wcc wpl wun srow ssp sen str stp swd rwp rdr rpd rpv rpc rzp) [.ref (ea E 35), .int v1]) (gQ E (xws E xk xo xc xt xn xl rc rv rb la wch wcc wpl wun srow ssp sen str stp swd rwp rdr rpd rpv rpc rzp) (some (.int rr))) 0 0 E.2.2.1 := by
  refine met_of (y := yX5_fault) (own := RX5) (lo := [some (.ref (ea E 35)), some (.int v1)]) (by decide) rfl rfl rfl (fun κ hl hC => ?_)
  subst hl
  unfold p_X5_fault at h
  refine g_iload_n (pc' := 1) (i := 1) hC dX5_fault_0 rfl rfl rfl ?_
  refine g_case h (fun c_1 h => ?_) (fun c_1 h => ?_)
  · refine g_tswIn hC (tgt := 32) dX5_fault_1 (by rw [c_1]; decide) (by rw [c_1]; decide) (by rw [c_1]; rfl) (by decide) ?_
    refine g_aload_n (pc' := 33) (i := 0) hC dX5_fault_32 rfl rfl rfl ?_
    refine gf_X5_38 (pc' := 36) hC dX5_fault_33 rfl ?_
    refine gf_X5_130 (pc' := 39) hC dX5_fault_36 rfl ?_
    refine gf_X5_140 (pc' := 42) hC dX5_fault_39 rfl ?_
    obtain rfl := inj1 h; exact g_iret hC dX5_fault_42
  · skip
    refine g_case h (fun c_2 h => ?_) (fun c_2 h => ?_)
    · refine g_tswIn hC (tgt := 43) dX5_fault_1 (by rw [c_2]; decide) (by rw [c_2]; decide) (by rw [c_2]; rfl) (by decide) ?_
      refine g_aload_n (pc' := 44) (i := 0) hC dX5_fault_43 rfl rfl rfl ?_
      refine gf_X5_38 (pc' := 47) hC dX5_fault_44 rfl ?_
      refine gf_X5_130 (pc' := 50) hC dX5_fault_47 rfl ?_
      refine gf_X5_151 (pc' := 53) hC dX5_fault_50 rfl ?_
      obtain rfl := inj1 h; exact g_iret hC dX5_fault_53
    · skip
      refine g_case h (fun c_3 h => ?_) (fun c_3 h => ?_)
      · refine g_tswIn hC (tgt := 54) dX5_fault_1 (by rw [c_3]; decide) (by rw [c_3]; decide) (by rw [c_3]; rfl) (by decide) ?_
        refine g_aload_n (pc' := 55) (i := 0) hC dX5_fault_54 rfl rfl rfl ?_
        refine gf_X5_38 (pc' := 58) hC dX5_fault_55 rfl ?_
        refine gf_X5_154 (pc' := 61) hC dX5_fault_58 rfl ?_
        obtain rfl := inj1 h; exact g_iret hC dX5_fault_61
      · skip
        refine g_case h (fun c_4 h => ?_) (fun c_4 h => ?_)
        · refine g_tswIn hC (tgt := 62) dX5_fault_1 (by rw [c_4]; decide) (by rw [c_4]; decide) (by rw [c_4]; rfl) (by decide) ?_
          refine g_aload_n (pc' := 63) (i := 0) hC dX5_fault_62 rfl rfl rfl ?_
          refine gf_X5_38 (pc' := 66) hC dX5_fault_63 rfl ?_
          refine gf_X5_157 (pc' := 69) hC dX5_fault_66 rfl ?_
          refine gf_X5_46 (pc' := 72) hC (by decide) dX5_fault_69 rfl ?_
          obtain rfl := inj1 h; exact g_iret hC dX5_fault_72
        · skip
          refine g_tswOut hC (tgt := 73) dX5_fault_1 (tsw_out3 c_1 c_2 c_3 c_4) (by decide) ?_
          refine g_iconst (pc' := 74) (v := (-1 : Int32)) hC dX5_fault_73 (by decide) rfl ?_
          obtain rfl := inj1 h; exact g_iret hC dX5_fault_74
set_option maxRecDepth 200000 in
theorem c_X5_size (l : Launch) {E : GE} {rr : Int32}   (h : p_X5_size rc = some rr) : Met l yX5_size (.code yX5_size cX5_size 1 (some .int) :: gU) rm_X5_size (gP E (xws E xk xo xc xt xn xl rc rv rb la wch wcc wpl wun srow ssp sen str stp swd rwp rdr rpd rpv rpc rzp) [.ref (ea E 35)]) (gQ E (xws E xk xo xc xt xn xl rc rv rb la wch wcc wpl wun srow ssp sen str stp swd rwp rdr rpd rpv rpc rzp) (some (.int rr))) 0 0 E.2.2.1 := by
  refine met_of (y := yX5_size) (own := RX5) (lo := [some (.ref (ea E 35))]) (by decide) rfl rfl rfl (fun κ hl hC => ?_)
  subst hl
  unfold p_X5_size at h
  refine g_aload_n (pc' := 1) (i := 0) hC dX5_size_0 rfl rfl rfl ?_
  refine gf_X5_25 (pc' := 4) hC dX5_size_1 rfl ?_
  refine gf_X5_61 (pc' := 7) hC (by decide) dX5_size_4 rfl ?_
  obtain rfl := inj1 h; exact g_iret hC dX5_size_7
set_option maxRecDepth 200000 in
theorem c_X5_byteAt (l : Launch) {E : GE} {rr : Int32} {v1 : Int32}  (h : p_X5_byteAt v1 rc rb = some rr) : Met l yX5_byteAt (.code yX5_byteAt cX5_byteAt 2 (some .int) :: gU) rm_X5_byteAt (gP E (xws E xk xo xc xt xn xl rc rv rb la wch wcc wpl wun srow ssp sen str stp swd rwp rdr rpd rpv rpc rzp) [.ref (ea E 35), .int v1]) (gQ E (xws E xk xo xc xt xn xl rc rv rb la wch wcc wpl wun srow ssp sen str stp swd rwp rdr rpd rpv rpc rzp) (some (.int rr))) 0 0 E.2.2.1 := by
  refine met_of (y := yX5_byteAt) (own := RX5) (lo := [some (.ref (ea E 35)), some (.int v1)]) (by decide) rfl rfl rfl (fun κ hl hC => ?_)
  subst hl
  unfold p_X5_byteAt at h
  refine g_iload_n (pc' := 1) (i := 1) hC dX5_byteAt_0 rfl rfl rfl ?_
  refine g_if_lt (pc' := 4) (tgt := 15) hC dX5_byteAt_1 (by decide) rfl h (fun h => ?_) (fun h => ?_)
  · refine g_iconst (pc' := 16) (v := (-1 : Int32)) hC dX5_byteAt_15 (by decide) rfl ?_
    refine g_goto (tgt := 27) hC dX5_byteAt_16 (by decide) ?_
    obtain rfl := inj1 h; exact g_iret hC dX5_byteAt_27
  · refine g_iload_n (pc' := 5) (i := 1) hC dX5_byteAt_4 rfl rfl rfl ?_
    refine g_aload_n (pc' := 6) (i := 0) hC dX5_byteAt_5 rfl rfl rfl ?_
    refine gf_X5_25 (pc' := 9) hC dX5_byteAt_6 rfl ?_
    refine gf_X5_61 (pc' := 12) hC (by decide) dX5_byteAt_9 rfl ?_
    refine g_icmp_lt (pc' := 15) (tgt := 19) hC dX5_byteAt_12 (by decide) rfl h (fun h => ?_) (fun h => ?_)
    · refine g_aload_n (pc' := 20) (i := 0) hC dX5_byteAt_19 rfl rfl rfl ?_
      refine gf_X5_25 (pc' := 23) hC dX5_byteAt_20 rfl ?_
      refine g_iload_n (pc' := 24) (i := 1) hC dX5_byteAt_23 rfl rfl rfl ?_
      obtain ⟨a_1, hc_2, h⟩ := bd1_some h
      refine g_callV (pc' := 27) hC (c_X3_get _ (by decide) hc_2) ml_X5_160 (rc_Row (by decide)) (by decide) rfl rfl rfl rfl dX5_byteAt_24 rfl ?_
      obtain rfl := inj1 h; exact g_iret hC dX5_byteAt_27
    · refine g_iconst (pc' := 16) (v := (-1 : Int32)) hC dX5_byteAt_15 (by decide) rfl ?_
      refine g_goto (tgt := 27) hC dX5_byteAt_16 (by decide) ?_
      obtain rfl := inj1 h; exact g_iret hC dX5_byteAt_27
set_option maxRecDepth 200000 in
theorem c_X5_poke (l : Launch) {E : GE} {rr : Int32} {rbz : Nat → Nat → Int32} {v1 : Int32} {v2 : Int32}  (h : p_X5_poke v1 v2 rc rb = some (rr, rbz)) : Met l yX5_poke (.code yX5_poke cX5_poke 3 (some .int) :: gU) rm_X5_poke (gP E (xws E xk xo xc xt xn xl rc rv rb la wch wcc wpl wun srow ssp sen str stp swd rwp rdr rpd rpv rpc rzp) [.ref (ea E 35), .int v1, .int v2]) (gQ E (xws E xk xo xc xt xn xl rc rv rbz la wch wcc wpl wun srow ssp sen str stp swd rwp rdr rpd rpv rpc rzp) (some (.int rr))) 0 0 E.2.2.1 := by
  refine met_of (y := yX5_poke) (own := RX5) (lo := [some (.ref (ea E 35)), some (.int v1), some (.int v2)]) (by decide) rfl rfl rfl (fun κ hl hC => ?_)
  subst hl
  unfold p_X5_poke at h
  refine g_iload_n (pc' := 1) (i := 1) hC dX5_poke_0 rfl rfl rfl ?_
  refine g_if_lt (pc' := 4) (tgt := 15) hC dX5_poke_1 (by decide) rfl h (fun h => ?_) (fun h => ?_)
  · refine g_iconst (pc' := 16) (v := (-1 : Int32)) hC dX5_poke_15 (by decide) rfl ?_
    obtain ⟨rfl, rfl⟩ := inj2 h; exact g_iret hC dX5_poke_16
  · refine g_iload_n (pc' := 5) (i := 1) hC dX5_poke_4 rfl rfl rfl ?_
    refine g_aload_n (pc' := 6) (i := 0) hC dX5_poke_5 rfl rfl rfl ?_
    refine gf_X5_25 (pc' := 9) hC dX5_poke_6 rfl ?_
    refine gf_X5_61 (pc' := 12) hC (by decide) dX5_poke_9 rfl ?_
    refine g_icmp_lt (pc' := 15) (tgt := 17) hC dX5_poke_12 (by decide) rfl h (fun h => ?_) (fun h => ?_)
    · refine g_aload_n (pc' := 18) (i := 0) hC dX5_poke_17 rfl rfl rfl ?_
      refine gf_X5_25 (pc' := 21) hC dX5_poke_18 rfl ?_
      refine g_iload_n (pc' := 22) (i := 1) hC dX5_poke_21 rfl rfl rfl ?_
      refine g_aload_n (pc' := 23) (i := 0) hC dX5_poke_22 rfl rfl rfl ?_
      refine gf_X5_25 (pc' := 26) hC dX5_poke_23 rfl ?_
      refine g_iload_n (pc' := 27) (i := 1) hC dX5_poke_26 rfl rfl rfl ?_
      obtain ⟨a_1, hc_2, h⟩ := bd1_some h
      refine g_callV (pc' := 30) hC (c_X3_get _ (by decide) hc_2) ml_X5_160 (rc_Row (by decide)) (by decide) rfl rfl rfl rfl dX5_poke_27 rfl ?_
      refine g_iload_n (pc' := 31) (i := 2) hC dX5_poke_30 rfl rfl rfl ?_
      refine g_ixor (pc' := 32) hC dX5_poke_31 rfl ?_
      obtain ⟨rb_3, hc_4, h⟩ := bd1_some h
      refine g_callV (pc' := 35) hC (c_X3_set _ (by decide) hc_4) ml_X5_164 (rc_Row (by decide)) (by decide) rfl rfl rfl rfl dX5_poke_32 rfl ?_
      refine g_aload_n (pc' := 36) (i := 0) hC dX5_poke_35 rfl rfl rfl ?_
      refine gf_X5_25 (pc' := 39) hC dX5_poke_36 rfl ?_
      refine g_iload_n (pc' := 40) (i := 1) hC dX5_poke_39 rfl rfl rfl ?_
      obtain ⟨a_5, hc_6, h⟩ := bd1_some h
      refine g_callV (pc' := 43) hC (c_X3_get _ (by decide) hc_6) ml_X5_160 (rc_Row (by decide)) (by decide) rfl rfl rfl rfl dX5_poke_40 rfl ?_
      obtain ⟨rfl, rfl⟩ := inj2 h; exact g_iret hC dX5_poke_43
    · refine g_iconst (pc' := 16) (v := (-1 : Int32)) hC dX5_poke_15 (by decide) rfl ?_
      obtain ⟨rfl, rfl⟩ := inj2 h; exact g_iret hC dX5_poke_16
set_option maxRecDepth 200000 in
theorem c_X5_cut (l : Launch) {E : GE} {rr : Int32} {rcz : Nat → Int32} {v1 : Int32}  (h : p_X5_cut v1 rc = some (rr, rcz)) : Met l yX5_cut (.code yX5_cut cX5_cut 3 (some .int) :: gU) rm_X5_cut (gP E (xws E xk xo xc xt xn xl rc rv rb la wch wcc wpl wun srow ssp sen str stp swd rwp rdr rpd rpv rpc rzp) [.ref (ea E 35), .int v1]) (gQ E (xws E xk xo xc xt xn xl rcz rv rb la wch wcc wpl wun srow ssp sen str stp swd rwp rdr rpd rpv rpc rzp) (some (.int rr))) 0 0 E.2.2.1 := by
  refine met_of (y := yX5_cut) (own := RX5) (lo := [some (.ref (ea E 35)), some (.int v1), none]) (by decide) rfl rfl rfl (fun κ hl hC => ?_)
  subst hl
  unfold p_X5_cut at h
  refine g_iload_n (pc' := 1) (i := 1) hC dX5_cut_0 rfl rfl rfl ?_
  refine g_if_lt (pc' := 4) (tgt := 15) hC dX5_cut_1 (by decide) rfl h (fun h => ?_) (fun h => ?_)
  · refine g_iconst (pc' := 16) (v := (-1 : Int32)) hC dX5_cut_15 (by decide) rfl ?_
    obtain ⟨rfl, rfl⟩ := inj2 h; exact g_iret hC dX5_cut_16
  · refine g_iload_n (pc' := 5) (i := 1) hC dX5_cut_4 rfl rfl rfl ?_
    refine g_aload_n (pc' := 6) (i := 0) hC dX5_cut_5 rfl rfl rfl ?_
    refine gf_X5_25 (pc' := 9) hC dX5_cut_6 rfl ?_
    refine gf_X5_61 (pc' := 12) hC (by decide) dX5_cut_9 rfl ?_
    refine g_icmp_le (pc' := 15) (tgt := 17) hC dX5_cut_12 (by decide) rfl h (fun h => ?_) (fun h => ?_)
    · refine g_iconst (pc' := 16) (v := (-1 : Int32)) hC dX5_cut_15 (by decide) rfl ?_
      obtain ⟨rfl, rfl⟩ := inj2 h; exact g_iret hC dX5_cut_16
    · refine g_aload_n (pc' := 18) (i := 0) hC dX5_cut_17 rfl rfl rfl ?_
      refine gf_X5_25 (pc' := 21) hC dX5_cut_18 rfl ?_
      refine gf_X5_61 (pc' := 24) hC (by decide) dX5_cut_21 rfl ?_
      refine g_iload_n (pc' := 25) (i := 1) hC dX5_cut_24 rfl rfl rfl ?_
      refine g_isub (pc' := 26) hC dX5_cut_25 rfl ?_
      refine g_istore_n (pc' := 27) (i := 2) (lo' := [some (.ref (ea E 35)), some (.int v1), some (.int ((rc 1) - v1))]) hC dX5_cut_26 rfl rfl rfl rfl rfl ?_
      refine g_aload_n (pc' := 28) (i := 0) hC dX5_cut_27 rfl rfl rfl ?_
      refine gf_X5_25 (pc' := 31) hC dX5_cut_28 rfl ?_
      refine g_iload_n (pc' := 32) (i := 1) hC dX5_cut_31 rfl rfl rfl ?_
      obtain ⟨rc_1, hc_2, h⟩ := bd1_some h
      refine g_callV (pc' := 35) hC (c_X3_shorten _ (by decide) hc_2) ml_X5_119 (rc_Row (by decide)) (by decide) rfl rfl rfl rfl dX5_cut_32 rfl ?_
      refine g_iload_n (pc' := 36) (i := 2) hC dX5_cut_35 rfl rfl rfl ?_
      obtain ⟨rfl, rfl⟩ := inj2 h; exact g_iret hC dX5_cut_36
set_option maxRecDepth 200000 in
theorem c_X5_put (l : Launch) {E : GE} {rr : Int32} {rcz : Nat → Int32} {rvz : Nat → Int32} {rbz : Nat → Nat → Int32} {v1 : Int64} {v3 : Int32}  (h : p_X5_put v1 v3 rc rv rb = some (rr, rcz, rvz, rbz)) : Met l yX5_put (.code yX5_put cX5_put 4 (some .int) :: gU) rm_X5_put (gP E (xws E xk xo xc xt xn xl rc rv rb la wch wcc wpl wun srow ssp sen str stp swd rwp rdr rpd rpv rpc rzp) [.ref (ea E 35), .long v1, .int v3]) (gQ E (xws E xk xo xc xt xn xl rcz rvz rbz la wch wcc wpl wun srow ssp sen str stp swd rwp rdr rpd rpv rpc rzp) (some (.int rr))) 0 0 E.2.2.1 := by
  refine met_of (y := yX5_put) (own := RX5) (lo := [some (.ref (ea E 35)), some (.long v1), none, some (.int v3)]) (by decide) rfl rfl rfl (fun κ hl hC => ?_)
  subst hl
  unfold p_X5_put at h
  refine g_iload_n (pc' := 1) (i := 3) hC dX5_put_0 rfl rfl rfl ?_
  refine g_iconst (pc' := 2) (v := (nI 1)) hC dX5_put_1 (by decide) rfl ?_
  refine g_icmp_lt (pc' := 5) (tgt := 11) hC dX5_put_2 (by decide) rfl h (fun h => ?_) (fun h => ?_)
  · refine g_iconst (pc' := 12) (v := (-1 : Int32)) hC dX5_put_11 (by decide) rfl ?_
    obtain ⟨rfl, rfl, rfl, rfl⟩ := inj4 h; exact g_iret hC dX5_put_12
  · refine g_iload_n (pc' := 6) (i := 3) hC dX5_put_5 rfl rfl rfl ?_
    refine g_bipush (pc' := 8) (v := (nI 8)) hC dX5_put_6 (by decide) rfl ?_
    refine g_icmp_le (pc' := 11) (tgt := 13) hC dX5_put_8 (by decide) rfl h (fun h => ?_) (fun h => ?_)
    · refine g_iconst (pc' := 12) (v := (-1 : Int32)) hC dX5_put_11 (by decide) rfl ?_
      obtain ⟨rfl, rfl, rfl, rfl⟩ := inj4 h; exact g_iret hC dX5_put_12
    · refine g_aload_n (pc' := 14) (i := 0) hC dX5_put_13 rfl rfl rfl ?_
      refine gf_X5_25 (pc' := 17) hC dX5_put_14 rfl ?_
      refine gf_X5_61 (pc' := 20) hC (by decide) dX5_put_17 rfl ?_
      refine g_iload_n (pc' := 21) (i := 3) hC dX5_put_20 rfl rfl rfl ?_
      refine g_iadd (pc' := 22) hC dX5_put_21 rfl ?_
      refine g_sipush (pc' := 25) (v := (nI 12000)) hC dX5_put_22 (by decide) rfl ?_
      refine g_icmp_le (pc' := 28) (tgt := 31) hC dX5_put_25 (by decide) rfl h (fun h => ?_) (fun h => ?_)
      · refine g_bipush (pc' := 30) (v := (-3 : Int32)) hC dX5_put_28 (by decide) rfl ?_
        obtain ⟨rfl, rfl, rfl, rfl⟩ := inj4 h; exact g_iret hC dX5_put_30
      · refine g_aload_n (pc' := 32) (i := 0) hC dX5_put_31 rfl rfl rfl ?_
        refine gf_X5_25 (pc' := 35) hC dX5_put_32 rfl ?_
        refine g_lload_n (pc' := 36) (i := 1) hC dX5_put_35 rfl rfl rfl ?_
        refine g_iload_n (pc' := 37) (i := 3) hC dX5_put_36 rfl rfl rfl ?_
        obtain ⟨rc_1, rv_2, rb_3, hc_4, h⟩ := bd3_some h
        refine g_callV (pc' := 40) hC (c_X3_pushLittle _ (by decide) hc_4) ml_X5_167 (rc_Row (by decide)) (by decide) rfl rfl rfl rfl dX5_put_37 rfl ?_
        refine g_aload_n (pc' := 41) (i := 0) hC dX5_put_40 rfl rfl rfl ?_
        refine gf_X5_25 (pc' := 44) hC dX5_put_41 rfl ?_
        refine gf_X5_61 (pc' := 47) hC (by decide) dX5_put_44 rfl ?_
        obtain ⟨rfl, rfl, rfl, rfl⟩ := inj4 h; exact g_iret hC dX5_put_47
end WALK
