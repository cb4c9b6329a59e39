section WALK
variable {xk : Nat → Int32} {xo : Nat → Int32} {xc : Nat → Int32} {xt : Nat → Nat → Int32} {xn : Nat → Nat → Int64} {xl : Nat → Nat → Int32} {rc : Nat → Int32} {rv : Nat → Int32} {rb : Nat → Nat → Int32} {la : Nat → Nat → Int64} {wch : Nat → Int32} {wcc : Int32} {wpl : Nat → Int32} {wun : Int32} {srow : Option Nat} {ssp : Int32} {sen : Int32} {str : Int32} {stp : Int32} {swd : Nat → Int32} {rwp : Int32} {rdr : Int32} {rpd : Int32} {rpv : Int32} {rpc : Int32} {rzp : Int32}
set_option maxRecDepth 200000 in
theorem w_X3_pushPacked_L49 {κ : GK} {E : GE} {rcz : Nat → Int32} {rvz : Nat → Int32} {rbz : Nat → Nat → Int32} {v0 : Nat} {v1 : Nat} {v2 : Int32} {v3 : Int32} {v4 : Int32} {v5 : Int32} {v8 : Int32} {v9 : Int64} {k100 : Int32 → Int32 → (Nat → Int32) → (Nat → Int32) → (Nat → Nat → Int32) → Option ((Nat → Int32) × (Nat → Int32) × (Nat → Nat → Int32))} (hC : gC κ E cX3_pushPacked RX3 none rm_X3_pushPacked 12) (hv0 : v0 < 4) (hv1 : v1 < 3) (hk100 : ∀ (v6 : Int32) (v7 : Int32) (rc : Nat → Int32) (rv : Nat → Int32) (rb : Nat → Nat → Int32), k100 v6 v7 rc rv rb = some (rcz, rvz, rbz) → GG κ E (xws E xk xo xc xt xn xl rcz rvz rbz la wch wcc wpl wun srow ssp sen str stp swd rwp rdr rpd rpv rpc rzp, none) (xws E xk xo xc xt xn xl rc rv rb la wch wcc wpl wun srow ssp sen str stp swd rwp rdr rpd rpv rpc rzp) 100 [some (.ref (ea E (24 + 2 * v0))), some (.ref (ea E (32 + v1))), some (.int v2), some (.int v3), some (.int v4), some (.int v5), some (.int v6), some (.int v7), some (.int v8), none, none, none] []) : ∀ (n : Nat) (v6 : Int32) (v7 : Int32) (v11 : Int32) (rc : Nat → Int32) (rv : Nat → Int32) (rb : Nat → Nat → Int32), itr6 (p_X3_pushPacked_L49 v0 v5 v9 k100) n v6 v7 v11 rc rv rb = some (rcz, rvz, rbz) → GG κ E (xws E xk xo xc xt xn xl rcz rvz rbz la wch wcc wpl wun srow ssp sen str stp swd rwp rdr rpd rpv rpc rzp, none) (xws E xk xo xc xt xn xl rc rv rb la wch wcc wpl wun srow ssp sen str stp swd rwp rdr rpd rpv rpc rzp) 49 [some (.ref (ea E (24 + 2 * v0))), some (.ref (ea E (32 + v1))), some (.int v2), some (.int v3), some (.int v4), some (.int v5), some (.int v6), some (.int v7), some (.int v8), some (.long v9), none, some (.int v11)] [] :=
  itr6_ind (fun k49 hk49 v6 v7 v11 rc rv rb h => by
    unfold p_X3_pushPacked_L49 at h
    refine g_iload (pc' := 51) (i := 11) hC dX3_pushPacked_49 rfl rfl ?_
    refine g_iload (pc' := 53) (i := 5) hC dX3_pushPacked_51 rfl rfl ?_
    refine g_icmp_ge (pc' := 56) (tgt := 100) hC dX3_pushPacked_53 (by decide) rfl h (fun h => ?_) (fun h => ?_)
    · refine g_iload (pc' := 58) (i := 6) hC dX3_pushPacked_56 rfl rfl ?_
      refine g_lload (pc' := 60) (i := 9) hC dX3_pushPacked_58 rfl rfl ?_
      refine g_iload (pc' := 62) (i := 11) hC dX3_pushPacked_60 rfl rfl ?_
      refine g_lushr (pc' := 63) hC dX3_pushPacked_62 rfl ?_
      refine g_lconst (pc' := 64) (v := (1 : Int64)) hC dX3_pushPacked_63 (by decide) rfl ?_
      refine g_land (pc' := 65) hC dX3_pushPacked_64 rfl ?_
      refine g_l2i (pc' := 66) hC dX3_pushPacked_65 rfl ?_
      refine g_iload (pc' := 68) (i := 7) hC dX3_pushPacked_66 rfl rfl ?_
      refine g_ishl (pc' := 69) hC dX3_pushPacked_68 rfl ?_
      refine g_ior (pc' := 70) hC dX3_pushPacked_69 rfl ?_
      refine g_istore (pc' := 72) (i := 6) (lo' := [some (.ref (ea E (24 + 2 * v0))), some (.ref (ea E (32 + v1))), some (.int v2), some (.int v3), some (.int v4), some (.int v5), some (.int (v6 ||| (ishl (l2i ((lushr v9 v11) &&& (1 : Int64))) v7))), some (.int v7), some (.int v8), some (.long v9), none, some (.int v11)]) hC dX3_pushPacked_70 rfl rfl rfl rfl ?_
      refine g_iinc (pc' := 75) (i := 7) (x := v7) (k := (1 : Int32)) (lo' := [some (.ref (ea E (24 + 2 * v0))), some (.ref (ea E (32 + v1))), some (.int v2), some (.int v3), some (.int v4), some (.int v5), some (.int (v6 ||| (ishl (l2i ((lushr v9 v11) &&& (1 : Int64))) v7))), some (.int (v7 + (1 : Int32))), some (.int v8), some (.long v9), none, some (.int v11)]) hC dX3_pushPacked_72 rfl (by decide) rfl rfl rfl rfl ?_
      refine g_iload (pc' := 77) (i := 7) hC dX3_pushPacked_75 rfl rfl ?_
      refine g_bipush (pc' := 79) (v := (8 : Int32)) hC dX3_pushPacked_77 (by decide) rfl ?_
      refine g_icmp_ne (pc' := 82) (tgt := 94) hC dX3_pushPacked_79 (by decide) rfl h (fun h => ?_) (fun h => ?_)
      · refine g_aload_n (pc' := 83) (i := 0) hC dX3_pushPacked_82 rfl rfl rfl ?_
        refine g_iload (pc' := 85) (i := 6) hC dX3_pushPacked_83 rfl rfl ?_
        obtain ⟨rc_1, rv_2, rb_3, hc_4, h⟩ := bd3_some h
        refine g_callV (pc' := 88) hC (c_X3_push _ hv0 hc_4) ml_X3_36 (rc_Row hv0) (by decide) rfl rfl rfl rfl dX3_pushPacked_85 rfl ?_
        refine g_iconst (pc' := 89) (v := (0 : Int32)) hC dX3_pushPacked_88 (by decide) rfl ?_
        refine g_istore (pc' := 91) (i := 6) (lo' := [some (.ref (ea E (24 + 2 * v0))), some (.ref (ea E (32 + v1))), some (.int v2), some (.int v3), some (.int v4), some (.int v5), some (.int (0 : Int32)), some (.int (v7 + (1 : Int32))), some (.int v8), some (.long v9), none, some (.int v11)]) hC dX3_pushPacked_89 rfl rfl rfl rfl ?_
        refine g_iconst (pc' := 92) (v := (0 : Int32)) hC dX3_pushPacked_91 (by decide) rfl ?_
        refine g_istore (pc' := 94) (i := 7) (lo' := [some (.ref (ea E (24 + 2 * v0))), some (.ref (ea E (32 + v1))), some (.int v2), some (.int v3), some (.int v4), some (.int v5), some (.int (0 : Int32)), some (.int (0 : Int32)), some (.int v8), some (.long v9), none, some (.int v11)]) hC dX3_pushPacked_92 rfl rfl rfl rfl ?_
        refine g_iinc (pc' := 97) (i := 11) (x := v11) (k := (1 : Int32)) (lo' := [some (.ref (ea E (24 + 2 * v0))), some (.ref (ea E (32 + v1))), some (.int v2), some (.int v3), some (.int v4), some (.int v5), some (.int (0 : Int32)), some (.int (0 : Int32)), some (.int v8), some (.long v9), none, some (.int (v11 + (1 : Int32)))]) hC dX3_pushPacked_94 rfl (by decide) rfl rfl rfl rfl ?_
        refine g_goto (tgt := 49) hC dX3_pushPacked_97 (by decide) ?_
        exact hk49 _ _ _ _ _ _ h
      · refine g_iinc (pc' := 97) (i := 11) (x := v11) (k := (1 : Int32)) (lo' := [some (.ref (ea E (24 + 2 * v0))), some (.ref (ea E (32 + v1))), some (.int v2), some (.int v3), some (.int v4), some (.int v5), some (.int (v6 ||| (ishl (l2i ((lushr v9 v11) &&& (1 : Int64))) v7))), some (.int (v7 + (1 : Int32))), some (.int v8), some (.long v9), none, some (.int (v11 + (1 : Int32)))]) hC dX3_pushPacked_94 rfl (by decide) rfl rfl rfl rfl ?_
        refine g_goto (tgt := 49) hC dX3_pushPacked_97 (by decide) ?_
        exact hk49 _ _ _ _ _ _ h
    · refine g_weak (lo' := [some (.ref (ea E (24 + 2 * v0))), some (.ref (ea E (32 + v1))), some (.int v2), some (.int v3), some (.int v4), some (.int v5), some (.int v6), some (.int v7), some (.int v8), none, none, none]) rfl ?_
      exact hk100 _ _ _ _ _ h)
set_option maxRecDepth 200000 in
theorem w_X3_pushPacked_L9 {κ : GK} {E : GE} {rcz : Nat → Int32} {rvz : Nat → Int32} {rbz : Nat → Nat → Int32} {v0 : Nat} {v1 : Nat} {v2 : Int32} {v3 : Int32} {v4 : Int32} {v5 : Int32}  (hC : gC κ E cX3_pushPacked RX3 none rm_X3_pushPacked 12) (hv0 : v0 < 4) (hv1 : v1 < 3)  : ∀ (n : Nat) (v6 : Int32) (v7 : Int32) (v8 : Int32) (rc : Nat → Int32) (rv : Nat → Int32) (rb : Nat → Nat → Int32), itr6 (p_X3_pushPacked_L9 v0 v1 v2 v3 v4 v5 la) n v6 v7 v8 rc rv rb = some (rcz, rvz, rbz) → GG κ E (xws E xk xo xc xt xn xl rcz rvz rbz la wch wcc wpl wun srow ssp sen str stp swd rwp rdr rpd rpv rpc rzp, none) (xws E xk xo xc xt xn xl rc rv rb la wch wcc wpl wun srow ssp sen str stp swd rwp rdr rpd rpv rpc rzp) 9 [some (.ref (ea E (24 + 2 * v0))), some (.ref (ea E (32 + v1))), some (.int v2), some (.int v3), some (.int v4), some (.int v5), some (.int v6), some (.int v7), some (.int v8), none, none, none] [] :=
  itr6_ind (fun k9 hk9 v6 v7 v8 rc rv rb h => by
    unfold p_X3_pushPacked_L9 at h
    refine g_iload (pc' := 11) (i := 8) hC dX3_pushPacked_9 rfl rfl ?_
    refine g_iload_n (pc' := 12) (i := 2) hC dX3_pushPacked_11 rfl rfl rfl ?_
    refine g_iload (pc' := 14) (i := 4) hC dX3_pushPacked_12 rfl rfl ?_
    refine g_iadd (pc' := 15) hC dX3_pushPacked_14 rfl ?_
    refine g_icmp_ge (pc' := 18) (tgt := 106) hC dX3_pushPacked_15 (by decide) rfl h (fun h => ?_) (fun h => ?_)
    · refine g_iload (pc' := 20) (i := 8) hC dX3_pushPacked_18 rfl rfl ?_
      refine g_if_lt (pc' := 23) (tgt := 43) hC dX3_pushPacked_20 (by decide) rfl h (fun h => ?_) (fun h => ?_)
      · refine g_lconst (pc' := 44) (v := (0 : Int64)) hC dX3_pushPacked_43 (by decide) rfl ?_
        refine g_lstore (pc' := 46) (i := 9) (lo' := [some (.ref (ea E (24 + 2 * v0))), some (.ref (ea E (32 + v1))), some (.int v2), some (.int v3), some (.int v4), some (.int v5), some (.int v6), some (.int v7), some (.int v8), some (.long (0 : Int64)), none, none]) hC dX3_pushPacked_44 rfl rfl rfl rfl ?_
        refine g_iconst (pc' := 47) (v := (0 : Int32)) hC dX3_pushPacked_46 (by decide) rfl ?_
        refine g_istore (pc' := 49) (i := 11) (lo' := [some (.ref (ea E (24 + 2 * v0))), some (.ref (ea E (32 + v1))), some (.int v2), some (.int v3), some (.int v4), some (.int v5), some (.int v6), some (.int v7), some (.int v8), some (.long (0 : Int64)), none, some (.int (0 : Int32))]) hC dX3_pushPacked_47 rfl rfl rfl rfl ?_
        refine w_X3_pushPacked_L49 hC hv0 hv1 ?_ _ _ _ _ _ _ _ h
        · intro v6_5 v7_6 rc_7 rv_8 rb_9 h
          refine g_iinc (pc' := 103) (i := 8) (x := v8) (k := (1 : Int32)) (lo' := [some (.ref (ea E (24 + 2 * v0))), some (.ref (ea E (32 + v1))), some (.int v2), some (.int v3), some (.int v4), some (.int v5), some (.int v6_5), some (.int v7_6), some (.int (v8 + (1 : Int32))), none, none, none]) hC dX3_pushPacked_100 rfl (by decide) rfl rfl rfl rfl ?_
          refine g_goto (tgt := 9) hC dX3_pushPacked_103 (by decide) ?_
          exact hk9 _ _ _ _ _ _ h
      · refine g_iload (pc' := 25) (i := 8) hC dX3_pushPacked_23 rfl rfl ?_
        refine g_iload_n (pc' := 26) (i := 3) hC dX3_pushPacked_25 rfl rfl rfl ?_
        refine g_icmp_ge (pc' := 29) (tgt := 43) hC dX3_pushPacked_26 (by decide) rfl h (fun h => ?_) (fun h => ?_)
        · refine g_iload (pc' := 31) (i := 8) hC dX3_pushPacked_29 rfl rfl ?_
          refine g_aload_n (pc' := 32) (i := 1) hC dX3_pushPacked_31 rfl rfl rfl ?_
          refine al_la (pc' := 33) hC hv1 dX3_pushPacked_32 rfl ?_
          refine g_icmp_ge (pc' := 36) (tgt := 43) hC dX3_pushPacked_33 (by decide) rfl h (fun h => ?_) (fun h => ?_)
          · refine g_aload_n (pc' := 37) (i := 1) hC dX3_pushPacked_36 rfl rfl rfl ?_
            refine g_iload (pc' := 39) (i := 8) hC dX3_pushPacked_37 rfl rfl ?_
            obtain ⟨g_10, h⟩ := gd_some h
            refine ld_la (pc' := 40) hC hv1 g_10 dX3_pushPacked_39 rfl ?_
            refine g_goto (tgt := 44) hC dX3_pushPacked_40 (by decide) ?_
            refine g_lstore (pc' := 46) (i := 9) (lo' := [some (.ref (ea E (24 + 2 * v0))), some (.ref (ea E (32 + v1))), some (.int v2), some (.int v3), some (.int v4), some (.int v5), some (.int v6), some (.int v7), some (.int v8), some (.long (la v1 (ix v8))), none, none]) hC dX3_pushPacked_44 rfl rfl rfl rfl ?_
            refine g_iconst (pc' := 47) (v := (0 : Int32)) hC dX3_pushPacked_46 (by decide) rfl ?_
            refine g_istore (pc' := 49) (i := 11) (lo' := [some (.ref (ea E (24 + 2 * v0))), some (.ref (ea E (32 + v1))), some (.int v2), some (.int v3), some (.int v4), some (.int v5), some (.int v6), some (.int v7), some (.int v8), some (.long (la v1 (ix v8))), none, some (.int (0 : Int32))]) hC dX3_pushPacked_47 rfl rfl rfl rfl ?_
            refine w_X3_pushPacked_L49 hC hv0 hv1 ?_ _ _ _ _ _ _ _ h
            · intro v6_11 v7_12 rc_13 rv_14 rb_15 h
              refine g_iinc (pc' := 103) (i := 8) (x := v8) (k := (1 : Int32)) (lo' := [some (.ref (ea E (24 + 2 * v0))), some (.ref (ea E (32 + v1))), some (.int v2), some (.int v3), some (.int v4), some (.int v5), some (.int v6_11), some (.int v7_12), some (.int (v8 + (1 : Int32))), none, none, none]) hC dX3_pushPacked_100 rfl (by decide) rfl rfl rfl rfl ?_
              refine g_goto (tgt := 9) hC dX3_pushPacked_103 (by decide) ?_
              exact hk9 _ _ _ _ _ _ h
          · refine g_lconst (pc' := 44) (v := (0 : Int64)) hC dX3_pushPacked_43 (by decide) rfl ?_
            refine g_lstore (pc' := 46) (i := 9) (lo' := [some (.ref (ea E (24 + 2 * v0))), some (.ref (ea E (32 + v1))), some (.int v2), some (.int v3), some (.int v4), some (.int v5), some (.int v6), some (.int v7), some (.int v8), some (.long (0 : Int64)), none, none]) hC dX3_pushPacked_44 rfl rfl rfl rfl ?_
            refine g_iconst (pc' := 47) (v := (0 : Int32)) hC dX3_pushPacked_46 (by decide) rfl ?_
            refine g_istore (pc' := 49) (i := 11) (lo' := [some (.ref (ea E (24 + 2 * v0))), some (.ref (ea E (32 + v1))), some (.int v2), some (.int v3), some (.int v4), some (.int v5), some (.int v6), some (.int v7), some (.int v8), some (.long (0 : Int64)), none, some (.int (0 : Int32))]) hC dX3_pushPacked_47 rfl rfl rfl rfl ?_
            refine w_X3_pushPacked_L49 hC hv0 hv1 ?_ _ _ _ _ _ _ _ h
            · intro v6_16 v7_17 rc_18 rv_19 rb_20 h
              refine g_iinc (pc' := 103) (i := 8) (x := v8) (k := (1 : Int32)) (lo' := [some (.ref (ea E (24 + 2 * v0))), some (.ref (ea E (32 + v1))), some (.int v2), some (.int v3), some (.int v4), some (.int v5), some (.int v6_16), some (.int v7_17), some (.int (v8 + (1 : Int32))), none, none, none]) hC dX3_pushPacked_100 rfl (by decide) rfl rfl rfl rfl ?_
              refine g_goto (tgt := 9) hC dX3_pushPacked_103 (by decide) ?_
              exact hk9 _ _ _ _ _ _ h
        · refine g_lconst (pc' := 44) (v := (0 : Int64)) hC dX3_pushPacked_43 (by decide) rfl ?_
          refine g_lstore (pc' := 46) (i := 9) (lo' := [some (.ref (ea E (24 + 2 * v0))), some (.ref (ea E (32 + v1))), some (.int v2), some (.int v3), some (.int v4), some (.int v5), some (.int v6), some (.int v7), some (.int v8), some (.long (0 : Int64)), none, none]) hC dX3_pushPacked_44 rfl rfl rfl rfl ?_
          refine g_iconst (pc' := 47) (v := (0 : Int32)) hC dX3_pushPacked_46 (by decide) rfl ?_
          refine g_istore (pc' := 49) (i := 11) (lo' := [some (.ref (ea E (24 + 2 * v0))), some (.ref (ea E (32 + v1))), some (.int v2), some (.int v3), some (.int v4), some (.int v5), some (.int v6), some (.int v7), some (.int v8), some (.long (0 : Int64)), none, some (.int (0 : Int32))]) hC dX3_pushPacked_47 rfl rfl rfl rfl ?_
          refine w_X3_pushPacked_L49 hC hv0 hv1 ?_ _ _ _ _ _ _ _ h
          · intro v6_21 v7_22 rc_23 rv_24 rb_25 h
            refine g_iinc (pc' := 103) (i := 8) (x := v8) (k := (1 : Int32)) (lo' := [some (.ref (ea E (24 + 2 * v0))), some (.ref (ea E (32 + v1))), some (.int v2), some (.int v3), some (.int v4), some (.int v5), some (.int v6_21), some (.int v7_22), some (.int (v8 + (1 : Int32))), none, none, none]) hC dX3_pushPacked_100 rfl (by decide) rfl rfl rfl rfl ?_
            refine g_goto (tgt := 9) hC dX3_pushPacked_103 (by decide) ?_
            exact hk9 _ _ _ _ _ _ h
    · obtain ⟨rfl, rfl, rfl⟩ := inj3 h; exact g_vret hC dX3_pushPacked_106)
set_option maxRecDepth 200000 in
theorem c_X3_pushPacked (l : Launch) {E : GE} {rcz : Nat → Int32} {rvz : Nat → Int32} {rbz : Nat → Nat → Int32} {v0 : Nat} {v1 : Nat} {v2 : Int32} {v3 : Int32} {v4 : Int32} {v5 : Int32} (hv0 : v0 < 4) (hv1 : v1 < 3) (h : p_X3_pushPacked v0 v1 v2 v3 v4 v5 rc rv rb la = some (rcz, rvz, rbz)) : Met l yX3_pushPacked (.code yX3_pushPacked cX3_pushPacked 12 none :: gU) rm_X3_pushPacked (gP E (xws E xk xo xc xt xn xl rc rv rb la wch wcc wpl wun srow ssp sen str stp swd rwp rdr rpd rpv rpc rzp) [.ref (ea E (24 + 2 * v0)), .ref (ea E (32 + v1)), .int v2, .int v3, .int v4, .int v5]) (gQ E (xws E xk xo xc xt xn xl rcz rvz rbz la wch wcc wpl wun srow ssp sen str stp swd rwp rdr rpd rpv rpc rzp) none) 0 0 E.2.2.1 := by
  refine met_of (y := yX3_pushPacked) (own := RX3) (lo := [some (.ref (ea E (24 + 2 * v0))), some (.ref (ea E (32 + v1))), some (.int v2), some (.int v3), some (.int v4), some (.int v5), none, none, none, none, none, none]) (by decide) rfl rfl rfl (fun κ hl hC => ?_)
  subst hl
  unfold p_X3_pushPacked at h
  refine g_iconst (pc' := 1) (v := (0 : Int32)) hC dX3_pushPacked_0 (by decide) rfl ?_
  refine g_istore (pc' := 3) (i := 6) (lo' := [some (.ref (ea E (24 + 2 * v0))), some (.ref (ea E (32 + v1))), some (.int v2), some (.int v3), some (.int v4), some (.int v5), some (.int (0 : Int32)), none, none, none, none, none]) hC dX3_pushPacked_1 rfl rfl rfl rfl ?_
  refine g_iconst (pc' := 4) (v := (0 : Int32)) hC dX3_pushPacked_3 (by decide) rfl ?_
  refine g_istore (pc' := 6) (i := 7) (lo' := [some (.ref (ea E (24 + 2 * v0))), some (.ref (ea E (32 + v1))), some (.int v2), some (.int v3), some (.int v4), some (.int v5), some (.int (0 : Int32)), some (.int (0 : Int32)), none, none, none, none]) hC dX3_pushPacked_4 rfl rfl rfl rfl ?_
  refine g_iload_n (pc' := 7) (i := 2) hC dX3_pushPacked_6 rfl rfl rfl ?_
  refine g_istore (pc' := 9) (i := 8) (lo' := [some (.ref (ea E (24 + 2 * v0))), some (.ref (ea E (32 + v1))), some (.int v2), some (.int v3), some (.int v4), some (.int v5), some (.int (0 : Int32)), some (.int (0 : Int32)), some (.int v2), none, none, none]) hC dX3_pushPacked_7 rfl rfl rfl rfl ?_
  refine w_X3_pushPacked_L9 hC hv0 hv1  _ _ _ _ _ _ _ h
set_option maxRecDepth 200000 in
theorem w_X3_pushRuns_L6 {κ : GK} {E : GE} {rcz : Nat → Int32} {rvz : Nat → Int32} {rbz : Nat → Nat → Int32} {v0 : Nat} {v1 : Nat} {v2 : Int32} {v3 : Int32}  (hC : gC κ E cX3_pushRuns RX3 none rm_X3_pushRuns 9) (hv0 : v0 < 4) (hv1 : v1 < 3)  : ∀ (n : Nat) (v4 : Int32) (v5 : Int32) (rc : Nat → Int32) (rv : Nat → Int32) (rb : Nat → Nat → Int32), itr5 (p_X3_pushRuns_L6 v0 v1 v2 v3 la) n v4 v5 rc rv rb = some (rcz, rvz, rbz) → GG κ E (xws E xk xo xc xt xn xl rcz rvz rbz la wch wcc wpl wun srow ssp sen str stp swd rwp rdr rpd rpv rpc rzp, none) (xws E xk xo xc xt xn xl rc rv rb la wch wcc wpl wun srow ssp sen str stp swd rwp rdr rpd rpv rpc rzp) 6 [some (.ref (ea E (24 + 2 * v0))), some (.ref (ea E (32 + v1))), some (.int v2), some (.int v3), some (.int v4), some (.int v5), none, none, none] [] :=
  itr5_ind (fun k6 hk6 v4 v5 rc rv rb h => by
    unfold p_X3_pushRuns_L6 at h
    refine g_iload (pc' := 8) (i := 5) hC dX3_pushRuns_6 rfl rfl ?_
    refine g_iload_n (pc' := 9) (i := 2) hC dX3_pushRuns_8 rfl rfl rfl ?_
    refine g_icmp_ge (pc' := 12) (tgt := 140) hC dX3_pushRuns_9 (by decide) rfl h (fun h => ?_) (fun h => ?_)
    · refine g_iload (pc' := 14) (i := 4) hC dX3_pushRuns_12 rfl rfl ?_
      refine g_iload_n (pc' := 15) (i := 2) hC dX3_pushRuns_14 rfl rfl rfl ?_
      refine g_icmp_ge (pc' := 18) (tgt := 140) hC dX3_pushRuns_15 (by decide) rfl h (fun h => ?_) (fun h => ?_)
      · refine g_iload (pc' := 20) (i := 4) hC dX3_pushRuns_18 rfl rfl ?_
        refine g_aload_n (pc' := 21) (i := 1) hC dX3_pushRuns_20 rfl rfl rfl ?_
        refine al_la (pc' := 22) hC hv1 dX3_pushRuns_21 rfl ?_
        refine g_icmp_ge (pc' := 25) (tgt := 140) hC dX3_pushRuns_22 (by decide) rfl h (fun h => ?_) (fun h => ?_)
        · refine g_aload_n (pc' := 26) (i := 1) hC dX3_pushRuns_25 rfl rfl rfl ?_
          refine g_iload (pc' := 28) (i := 4) hC dX3_pushRuns_26 rfl rfl ?_
          refine g_iload_n (pc' := 29) (i := 2) hC dX3_pushRuns_28 rfl rfl rfl ?_
          obtain ⟨a_1, hc_2, h⟩ := bd1_some h
          refine g_callS (pc' := 32) hC (c_X3_equalFrom _ hv1 hc_2) ml_X3_46  (by decide) rfl rfl rfl dX3_pushRuns_29 rfl ?_
          refine g_istore (pc' := 34) (i := 6) (lo' := [some (.ref (ea E (24 + 2 * v0))), some (.ref (ea E (32 + v1))), some (.int v2), some (.int v3), some (.int v4), some (.int v5), some (.int a_1), none, none]) hC dX3_pushRuns_32 rfl rfl rfl rfl ?_
          refine g_iload (pc' := 36) (i := 6) hC dX3_pushRuns_34 rfl rfl ?_
          refine g_bipush (pc' := 38) (v := (8 : Int32)) hC dX3_pushRuns_36 (by decide) rfl ?_
          refine g_icmp_lt (pc' := 41) (tgt := 77) hC dX3_pushRuns_38 (by decide) rfl h (fun h => ?_) (fun h => ?_)
          · refine g_aload_n (pc' := 78) (i := 1) hC dX3_pushRuns_77 rfl rfl rfl ?_
            refine g_iload (pc' := 80) (i := 4) hC dX3_pushRuns_78 rfl rfl ?_
            refine g_iload_n (pc' := 81) (i := 2) hC dX3_pushRuns_80 rfl rfl rfl ?_
            obtain ⟨a_3, hc_4, h⟩ := bd1_some h
            refine g_callS (pc' := 84) hC (c_X3_groupsEnd _ hv1 hc_4) ml_X3_60  (by decide) rfl rfl rfl dX3_pushRuns_81 rfl ?_
            refine g_istore (pc' := 86) (i := 7) (lo' := [some (.ref (ea E (24 + 2 * v0))), some (.ref (ea E (32 + v1))), some (.int v2), some (.int v3), some (.int v4), some (.int v5), some (.int a_1), some (.int a_3), none]) hC dX3_pushRuns_84 rfl rfl rfl rfl ?_
            refine g_iload (pc' := 88) (i := 7) hC dX3_pushRuns_86 rfl rfl ?_
            refine g_iload (pc' := 90) (i := 4) hC dX3_pushRuns_88 rfl rfl ?_
            refine g_isub (pc' := 91) hC dX3_pushRuns_90 rfl ?_
            obtain ⟨a_5, hc_6, h⟩ := bd1_some h
            refine g_callN (pc' := 94) hC (c_X5_wholeGroups _ hc_6) ml_X3_63  (by decide) rfl rfl rfl dX3_pushRuns_91 rfl ?_
            refine g_istore (pc' := 96) (i := 8) (lo' := [some (.ref (ea E (24 + 2 * v0))), some (.ref (ea E (32 + v1))), some (.int v2), some (.int v3), some (.int v4), some (.int v5), some (.int a_1), some (.int a_3), some (.int a_5)]) hC dX3_pushRuns_94 rfl rfl rfl rfl ?_
            refine g_aload_n (pc' := 97) (i := 0) hC dX3_pushRuns_96 rfl rfl rfl ?_
            refine g_ldc2_w (pc' := 100) (v := (2 : Int64)) hC u_9 dX3_pushRuns_97 rfl ?_
            refine g_iload (pc' := 102) (i := 8) hC dX3_pushRuns_100 rfl rfl ?_
            refine g_i2l (pc' := 103) hC dX3_pushRuns_102 rfl ?_
            refine g_lmul (pc' := 104) hC dX3_pushRuns_103 rfl ?_
            refine g_lconst (pc' := 105) (v := (1 : Int64)) hC dX3_pushRuns_104 (by decide) rfl ?_
            refine g_ladd (pc' := 106) hC dX3_pushRuns_105 rfl ?_
            obtain ⟨rc_7, rv_8, rb_9, hc_10, h⟩ := bd3_some h
            refine g_callV (pc' := 109) hC (c_X3_pushVar _ hv0 hc_10) ml_X3_52 (rc_Row hv0) (by decide) rfl rfl rfl rfl dX3_pushRuns_106 rfl ?_
            refine g_aload_n (pc' := 110) (i := 0) hC dX3_pushRuns_109 rfl rfl rfl ?_
            refine g_aload_n (pc' := 111) (i := 1) hC dX3_pushRuns_110 rfl rfl rfl ?_
            refine g_iload (pc' := 113) (i := 4) hC dX3_pushRuns_111 rfl rfl ?_
            refine g_iload (pc' := 115) (i := 7) hC dX3_pushRuns_113 rfl rfl ?_
            refine g_iload (pc' := 117) (i := 8) hC dX3_pushRuns_115 rfl rfl ?_
            refine g_bipush (pc' := 119) (v := (8 : Int32)) hC dX3_pushRuns_117 (by decide) rfl ?_
            refine g_imul (pc' := 120) hC dX3_pushRuns_119 rfl ?_
            refine g_iload_n (pc' := 121) (i := 3) hC dX3_pushRuns_120 rfl rfl rfl ?_
            obtain ⟨rc_11, rv_12, rb_13, hc_14, h⟩ := bd3_some h
            refine g_callV (pc' := 124) hC (c_X3_pushPacked _ hv0 hv1 hc_14) ml_X3_66 (rc_Row hv0) (by decide) rfl rfl rfl rfl dX3_pushRuns_121 rfl ?_
            refine g_iload (pc' := 126) (i := 4) hC dX3_pushRuns_124 rfl rfl ?_
            refine g_iload (pc' := 128) (i := 8) hC dX3_pushRuns_126 rfl rfl ?_
            refine g_bipush (pc' := 130) (v := (8 : Int32)) hC dX3_pushRuns_128 (by decide) rfl ?_
            refine g_imul (pc' := 131) hC dX3_pushRuns_130 rfl ?_
            refine g_iadd (pc' := 132) hC dX3_pushRuns_131 rfl ?_
            refine g_istore (pc' := 134) (i := 4) (lo' := [some (.ref (ea E (24 + 2 * v0))), some (.ref (ea E (32 + v1))), some (.int v2), some (.int v3), some (.int (v4 + (a_5 * (8 : Int32)))), some (.int v5), some (.int a_1), some (.int a_3), some (.int a_5)]) hC dX3_pushRuns_132 rfl rfl rfl rfl ?_
            refine g_iinc (pc' := 137) (i := 5) (x := v5) (k := (1 : Int32)) (lo' := [some (.ref (ea E (24 + 2 * v0))), some (.ref (ea E (32 + v1))), some (.int v2), some (.int v3), some (.int (v4 + (a_5 * (8 : Int32)))), some (.int (v5 + (1 : Int32))), some (.int a_1), some (.int a_3), some (.int a_5)]) hC dX3_pushRuns_134 rfl (by decide) rfl rfl rfl rfl ?_
            refine g_goto (tgt := 6) hC dX3_pushRuns_137 (by decide) ?_
            refine g_weak (lo' := [some (.ref (ea E (24 + 2 * v0))), some (.ref (ea E (32 + v1))), some (.int v2), some (.int v3), some (.int (v4 + (a_5 * (8 : Int32)))), some (.int (v5 + (1 : Int32))), none, none, none]) rfl ?_
            exact hk6 _ _ _ _ _ h
          · refine g_aload_n (pc' := 42) (i := 0) hC dX3_pushRuns_41 rfl rfl rfl ?_
            refine g_ldc2_w (pc' := 45) (v := (2 : Int64)) hC u_9 dX3_pushRuns_42 rfl ?_
            refine g_iload (pc' := 47) (i := 6) hC dX3_pushRuns_45 rfl rfl ?_
            refine g_i2l (pc' := 48) hC dX3_pushRuns_47 rfl ?_
            refine g_lmul (pc' := 49) hC dX3_pushRuns_48 rfl ?_
            obtain ⟨rc_15, rv_16, rb_17, hc_18, h⟩ := bd3_some h
            refine g_callV (pc' := 52) hC (c_X3_pushVar _ hv0 hc_18) ml_X3_52 (rc_Row hv0) (by decide) rfl rfl rfl rfl dX3_pushRuns_49 rfl ?_
            refine g_aload_n (pc' := 53) (i := 0) hC dX3_pushRuns_52 rfl rfl rfl ?_
            refine g_aload_n (pc' := 54) (i := 1) hC dX3_pushRuns_53 rfl rfl rfl ?_
            refine g_iload (pc' := 56) (i := 4) hC dX3_pushRuns_54 rfl rfl ?_
            obtain ⟨g_19, h⟩ := gd_some h
            refine ld_la (pc' := 57) hC hv1 g_19 dX3_pushRuns_56 rfl ?_
            refine g_iload_n (pc' := 58) (i := 3) hC dX3_pushRuns_57 rfl rfl rfl ?_
            refine g_bipush (pc' := 60) (v := (7 : Int32)) hC dX3_pushRuns_58 (by decide) rfl ?_
            refine g_iadd (pc' := 61) hC dX3_pushRuns_60 rfl ?_
            refine g_bipush (pc' := 63) (v := (8 : Int32)) hC dX3_pushRuns_61 (by decide) rfl ?_
            refine g_idiv (pc' := 64) hC dX3_pushRuns_63 (by decide) rfl ?_
            obtain ⟨rc_20, rv_21, rb_22, hc_23, h⟩ := bd3_some h
            refine g_callV (pc' := 67) hC (c_X3_pushLittle _ hv0 hc_23) ml_X3_56 (rc_Row hv0) (by decide) rfl rfl rfl rfl dX3_pushRuns_64 rfl ?_
            refine g_iload (pc' := 69) (i := 4) hC dX3_pushRuns_67 rfl rfl ?_
            refine g_iload (pc' := 71) (i := 6) hC dX3_pushRuns_69 rfl rfl ?_
            refine g_iadd (pc' := 72) hC dX3_pushRuns_71 rfl ?_
            refine g_istore (pc' := 74) (i := 4) (lo' := [some (.ref (ea E (24 + 2 * v0))), some (.ref (ea E (32 + v1))), some (.int v2), some (.int v3), some (.int (v4 + a_1)), some (.int v5), some (.int a_1), none, none]) hC dX3_pushRuns_72 rfl rfl rfl rfl ?_
            refine g_goto (tgt := 134) hC dX3_pushRuns_74 (by decide) ?_
            refine g_iinc (pc' := 137) (i := 5) (x := v5) (k := (1 : Int32)) (lo' := [some (.ref (ea E (24 + 2 * v0))), some (.ref (ea E (32 + v1))), some (.int v2), some (.int v3), some (.int (v4 + a_1)), some (.int (v5 + (1 : Int32))), some (.int a_1), none, none]) hC dX3_pushRuns_134 rfl (by decide) rfl rfl rfl rfl ?_
            refine g_goto (tgt := 6) hC dX3_pushRuns_137 (by decide) ?_
            refine g_weak (lo' := [some (.ref (ea E (24 + 2 * v0))), some (.ref (ea E (32 + v1))), some (.int v2), some (.int v3), some (.int (v4 + a_1)), some (.int (v5 + (1 : Int32))), none, none, none]) rfl ?_
            exact hk6 _ _ _ _ _ h
        · obtain ⟨rfl, rfl, rfl⟩ := inj3 h; exact g_vret hC dX3_pushRuns_140
      · obtain ⟨rfl, rfl, rfl⟩ := inj3 h; exact g_vret hC dX3_pushRuns_140
    · obtain ⟨rfl, rfl, rfl⟩ := inj3 h; exact g_vret hC dX3_pushRuns_140)
set_option maxRecDepth 200000 in
theorem c_X3_pushRuns (l : Launch) {E : GE} {rcz : Nat → Int32} {rvz : Nat → Int32} {rbz : Nat → Nat → Int32} {v0 : Nat} {v1 : Nat} {v2 : Int32} {v3 : Int32} (hv0 : v0 < 4) (hv1 : v1 < 3) (h : p_X3_pushRuns v0 v1 v2 v3 rc rv rb la = some (rcz, rvz, rbz)) : Met l yX3_pushRuns (.code yX3_pushRuns cX3_pushRuns 9 none :: gU) rm_X3_pushRuns (gP E (xws E xk xo xc xt xn xl rc rv rb la wch wcc wpl wun srow ssp sen str stp swd rwp rdr rpd rpv rpc rzp) [.ref (ea E (24 + 2 * v0)), .ref (ea E (32 + v1)), .int v2, .int v3]) (gQ E (xws E xk xo xc xt xn xl rcz rvz rbz la wch wcc wpl wun srow ssp sen str stp swd rwp rdr rpd rpv rpc rzp) none) 0 0 E.2.2.1 := by
  refine met_of (y := yX3_pushRuns) (own := RX3) (lo := [some (.ref (ea E (24 + 2 * v0))), some (.ref (ea E (32 + v1))), some (.int v2), some (.int v3), none, none, none, none, none]) (by decide) rfl rfl rfl (fun κ hl hC => ?_)
  subst hl
  unfold p_X3_pushRuns at h
  refine g_iconst (pc' := 1) (v := (0 : Int32)) hC dX3_pushRuns_0 (by decide) rfl ?_
  refine g_istore (pc' := 3) (i := 4) (lo' := [some (.ref (ea E (24 + 2 * v0))), some (.ref (ea E (32 + v1))), some (.int v2), some (.int v3), some (.int (0 : Int32)), none, none, none, none]) hC dX3_pushRuns_1 rfl rfl rfl rfl ?_
  refine g_iconst (pc' := 4) (v := (0 : Int32)) hC dX3_pushRuns_3 (by decide) rfl ?_
  refine g_istore (pc' := 6) (i := 5) (lo' := [some (.ref (ea E (24 + 2 * v0))), some (.ref (ea E (32 + v1))), some (.int v2), some (.int v3), some (.int (0 : Int32)), some (.int (0 : Int32)), none, none, none]) hC dX3_pushRuns_4 rfl rfl rfl rfl ?_
  refine w_X3_pushRuns_L6 hC hv0 hv1  _ _ _ _ _ _ h
set_option maxRecDepth 200000 in
theorem c_X3_set (l : Launch) {E : GE} {rbz : Nat → Nat → Int32} {v0 : Nat} {v1 : Int32} {v2 : Int32} (hv0 : v0 < 4) (h : p_X3_set v0 v1 v2 rc rb = some rbz) : Met l yX3_set (.code yX3_set cX3_set 3 none :: gU) rm_X3_set (gP E (xws E xk xo xc xt xn xl rc rv rb la wch wcc wpl wun srow ssp sen str stp swd rwp rdr rpd rpv rpc rzp) [.ref (ea E (24 + 2 * v0)), .int v1, .int v2]) (gQ E (xws E xk xo xc xt xn xl rc rv rbz la wch wcc wpl wun srow ssp sen str stp swd rwp rdr rpd rpv rpc rzp) none) 0 0 E.2.2.1 := by
  refine met_of (y := yX3_set) (own := RX3) (lo := [some (.ref (ea E (24 + 2 * v0))), some (.int v1), some (.int v2)]) (by decide) rfl rfl rfl (fun κ hl hC => ?_)
  subst hl
  unfold p_X3_set at h
  refine g_iload_n (pc' := 1) (i := 1) hC dX3_set_0 rfl rfl rfl ?_
  refine g_if_lt (pc' := 4) (tgt := 29) hC dX3_set_1 (by decide) rfl h (fun h => ?_) (fun h => ?_)
  · obtain rfl := inj1 h; exact g_vret hC dX3_set_29
  · refine g_iload_n (pc' := 5) (i := 1) hC dX3_set_4 rfl rfl rfl ?_
    refine g_aload_n (pc' := 6) (i := 0) hC dX3_set_5 rfl rfl rfl ?_
    refine gf_X3_15 (pc' := 9) hC hv0 dX3_set_6 rfl ?_
    refine g_icmp_ge (pc' := 12) (tgt := 29) hC dX3_set_9 (by decide) rfl h (fun h => ?_) (fun h => ?_)
    · refine g_iload_n (pc' := 13) (i := 1) hC dX3_set_12 rfl rfl rfl ?_
      refine g_aload_n (pc' := 14) (i := 0) hC dX3_set_13 rfl rfl rfl ?_
      refine gf_X3_9 (pc' := 17) hC hv0 dX3_set_14 rfl ?_
      refine al_rb (pc' := 18) hC hv0 dX3_set_17 rfl ?_
      refine g_icmp_ge (pc' := 21) (tgt := 29) hC dX3_set_18 (by decide) rfl h (fun h => ?_) (fun h => ?_)
      · refine g_aload_n (pc' := 22) (i := 0) hC dX3_set_21 rfl rfl rfl ?_
        refine gf_X3_9 (pc' := 25) hC hv0 dX3_set_22 rfl ?_
        refine g_iload_n (pc' := 26) (i := 1) hC dX3_set_25 rfl rfl rfl ?_
        refine g_iload_n (pc' := 27) (i := 2) hC dX3_set_26 rfl rfl rfl ?_
        refine g_i2b (pc' := 28) hC dX3_set_27 rfl ?_
        obtain ⟨g_1, h⟩ := gd_some h
        refine st_rbb (pc' := 29) hC hv0 g_1 dX3_set_28 rfl ?_
        obtain rfl := inj1 h; exact g_vret hC dX3_set_29
      · obtain rfl := inj1 h; exact g_vret hC dX3_set_29
    · obtain rfl := inj1 h; exact g_vret hC dX3_set_29
set_option maxRecDepth 200000 in
theorem w_X3_tellLength_L11 {κ : GK} {E : GE} {rbz : Nat → Nat → Int32} {v0 : Nat} {v1 : Int32} {v2 : Int32}  (hC : gC κ E cX3_tellLength RX3 none rm_X3_tellLength 4) (hv0 : v0 < 4)  : ∀ (n : Nat) (v3 : Int32) (rb : Nat → Nat → Int32), itr2 (p_X3_tellLength_L11 v0 v1 v2 rc) n v3 rb = some rbz → GG κ E (xws E xk xo xc xt xn xl rc rv rbz la wch wcc wpl wun srow ssp sen str stp swd rwp rdr rpd rpv rpc rzp, none) (xws E xk xo xc xt xn xl rc rv rb la wch wcc wpl wun srow ssp sen str stp swd rwp rdr rpd rpv rpc rzp) 11 [some (.ref (ea E (24 + 2 * v0))), some (.int v1), some (.int v2), some (.int v3)] [] :=
  itr2_ind (fun k11 hk11 v3 rb h => by
    unfold p_X3_tellLength_L11 at h
    refine g_iload_n (pc' := 12) (i := 3) hC dX3_tellLength_11 rfl rfl rfl ?_
    refine g_iconst (pc' := 13) (v := (4 : Int32)) hC dX3_tellLength_12 (by decide) rfl ?_
    refine g_icmp_ge (pc' := 16) (tgt := 35) hC dX3_tellLength_13 (by decide) rfl h (fun h => ?_) (fun h => ?_)
    · refine g_aload_n (pc' := 17) (i := 0) hC dX3_tellLength_16 rfl rfl rfl ?_
      refine g_iload_n (pc' := 18) (i := 1) hC dX3_tellLength_17 rfl rfl rfl ?_
      refine g_iload_n (pc' := 19) (i := 3) hC dX3_tellLength_18 rfl rfl rfl ?_
      refine g_iadd (pc' := 20) hC dX3_tellLength_19 rfl ?_
      refine g_iload_n (pc' := 21) (i := 2) hC dX3_tellLength_20 rfl rfl rfl ?_
      refine g_bipush (pc' := 23) (v := (8 : Int32)) hC dX3_tellLength_21 (by decide) rfl ?_
      refine g_iload_n (pc' := 24) (i := 3) hC dX3_tellLength_23 rfl rfl rfl ?_
      refine g_imul (pc' := 25) hC dX3_tellLength_24 rfl ?_
      refine g_iushr (pc' := 26) hC dX3_tellLength_25 rfl ?_
      obtain ⟨rb_1, hc_2, h⟩ := bd1_some h
      refine g_callV (pc' := 29) hC (c_X3_set _ hv0 hc_2) ml_X3_42 (rc_Row hv0) (by decide) rfl rfl rfl rfl dX3_tellLength_26 rfl ?_
      refine g_iinc (pc' := 32) (i := 3) (x := v3) (k := (1 : Int32)) (lo' := [some (.ref (ea E (24 + 2 * v0))), some (.int v1), some (.int v2), some (.int (v3 + (1 : Int32)))]) hC dX3_tellLength_29 rfl (by decide) rfl rfl rfl rfl ?_
      refine g_goto (tgt := 11) hC dX3_tellLength_32 (by decide) ?_
      exact hk11 _ _ h
    · obtain rfl := inj1 h; exact g_vret hC dX3_tellLength_35)
set_option maxRecDepth 200000 in
theorem c_X3_tellLength (l : Launch) {E : GE} {rbz : Nat → Nat → Int32} {v0 : Nat} {v1 : Int32} (hv0 : v0 < 4) (h : p_X3_tellLength v0 v1 rc rb = some rbz) : Met l yX3_tellLength (.code yX3_tellLength cX3_tellLength 4 none :: gU) rm_X3_tellLength (gP E (xws E xk xo xc xt xn xl rc rv rb la wch wcc wpl wun srow ssp sen str stp swd rwp rdr rpd rpv rpc rzp) [.ref (ea E (24 + 2 * v0)), .int v1]) (gQ E (xws E xk xo xc xt xn xl rc rv rbz la wch wcc wpl wun srow ssp sen str stp swd rwp rdr rpd rpv rpc rzp) none) 0 0 E.2.2.1 := by
  refine met_of (y := yX3_tellLength) (own := RX3) (lo := [some (.ref (ea E (24 + 2 * v0))), some (.int v1), none, none]) (by decide) rfl rfl rfl (fun κ hl hC => ?_)
  subst hl
  unfold p_X3_tellLength at h
  refine g_aload_n (pc' := 1) (i := 0) hC dX3_tellLength_0 rfl rfl rfl ?_
  refine gf_X3_15 (pc' := 4) hC hv0 dX3_tellLength_1 rfl ?_
  refine g_iload_n (pc' := 5) (i := 1) hC dX3_tellLength_4 rfl rfl rfl ?_
  refine g_isub (pc' := 6) hC dX3_tellLength_5 rfl ?_
  refine g_iconst (pc' := 7) (v := (4 : Int32)) hC dX3_tellLength_6 (by decide) rfl ?_
  refine g_isub (pc' := 8) hC dX3_tellLength_7 rfl ?_
  refine g_istore_n (pc' := 9) (i := 2) (lo' := [some (.ref (ea E (24 + 2 * v0))), some (.int v1), some (.int (((rc v0) - v1) - (4 : Int32))), none]) hC dX3_tellLength_8 rfl rfl rfl rfl rfl ?_
  refine g_iconst (pc' := 10) (v := (0 : Int32)) hC dX3_tellLength_9 (by decide) rfl ?_
  refine g_istore_n (pc' := 11) (i := 3) (lo' := [some (.ref (ea E (24 + 2 * v0))), some (.int v1), some (.int (((rc v0) - v1) - (4 : Int32))), some (.int (0 : Int32))]) hC dX3_tellLength_10 rfl rfl rfl rfl rfl ?_
  refine w_X3_tellLength_L11 hC hv0  _ _ _ h
set_option maxRecDepth 200000 in
theorem c_X2_pushOwnRuns (l : Launch) {E : GE} {rcz : Nat → Int32} {rvz : Nat → Int32} {rbz : Nat → Nat → Int32} {v1 : Int32}  (h : p_X2_pushOwnRuns v1 rc rv rb la = some (rcz, rvz, rbz)) : Met l yX2_pushOwnRuns (.code yX2_pushOwnRuns cX2_pushOwnRuns 3 none :: gU) rm_X2_pushOwnRuns (gP E (xws E xk xo xc xt xn xl rc rv rb la wch wcc wpl wun srow ssp sen str stp swd rwp rdr rpd rpv rpc rzp) [.ref (ea E 37), .int v1]) (gQ E (xws E xk xo xc xt xn xl rcz rvz rbz la wch wcc wpl wun srow ssp sen str stp swd rwp rdr rpd rpv rpc rzp) none) 0 0 E.2.2.1 := by
  refine met_of (y := yX2_pushOwnRuns) (own := RX2) (lo := [some (.ref (ea E 37)), some (.int v1), none]) (by decide) rfl rfl rfl (fun κ hl hC => ?_)
  subst hl
  unfold p_X2_pushOwnRuns at h
  refine g_aload_n (pc' := 1) (i := 0) hC dX2_pushOwnRuns_0 rfl rfl rfl ?_
  refine gf_X2_20 (pc' := 4) hC dX2_pushOwnRuns_1 rfl ?_
  refine gf_X2_124 (pc' := 7) hC (by decide) dX2_pushOwnRuns_4 rfl ?_
  refine g_istore_n (pc' := 8) (i := 2) (lo' := [some (.ref (ea E 37)), some (.int v1), some (.int (rc 3))]) hC dX2_pushOwnRuns_7 rfl rfl rfl rfl rfl ?_
  refine g_aload_n (pc' := 9) (i := 0) hC dX2_pushOwnRuns_8 rfl rfl rfl ?_
  refine gf_X2_20 (pc' := 12) hC dX2_pushOwnRuns_9 rfl ?_
  refine g_lconst (pc' := 13) (v := (0 : Int64)) hC dX2_pushOwnRuns_12 (by decide) rfl ?_
  refine g_iconst (pc' := 14) (v := (4 : Int32)) hC dX2_pushOwnRuns_13 (by decide) rfl ?_
  obtain ⟨rc_1, rv_2, rb_3, hc_4, h⟩ := bd3_some h
  refine g_callV (pc' := 17) hC (c_X3_pushLittle _ (by decide) hc_4) ml_X2_137 (rc_Row (by decide)) (by decide) rfl rfl rfl rfl dX2_pushOwnRuns_14 rfl ?_
  refine g_aload_n (pc' := 18) (i := 0) hC dX2_pushOwnRuns_17 rfl rfl rfl ?_
  refine gf_X2_20 (pc' := 21) hC dX2_pushOwnRuns_18 rfl ?_
  refine g_aload_n (pc' := 22) (i := 0) hC dX2_pushOwnRuns_21 rfl rfl rfl ?_
  refine gf_X2_30 (pc' := 25) hC dX2_pushOwnRuns_22 rfl ?_
  refine g_iload_n (pc' := 26) (i := 1) hC dX2_pushOwnRuns_25 rfl rfl rfl ?_
  refine g_iconst (pc' := 27) (v := (1 : Int32)) hC dX2_pushOwnRuns_26 (by decide) rfl ?_
  obtain ⟨rc_5, rv_6, rb_7, hc_8, h⟩ := bd3_some h
  refine g_callV (pc' := 30) hC (c_X3_pushRuns _ (by decide) (by decide) hc_8) ml_X2_141 (rc_Row (by decide)) (by decide) rfl rfl rfl rfl dX2_pushOwnRuns_27 rfl ?_
  refine g_aload_n (pc' := 31) (i := 0) hC dX2_pushOwnRuns_30 rfl rfl rfl ?_
  refine gf_X2_20 (pc' := 34) hC dX2_pushOwnRuns_31 rfl ?_
  refine g_iload_n (pc' := 35) (i := 2) hC dX2_pushOwnRuns_34 rfl rfl rfl ?_
  obtain ⟨rb_9, hc_10, h⟩ := bd1_some h
  refine g_callV (pc' := 38) hC (c_X3_tellLength _ (by decide) hc_10) ml_X2_145 (rc_Row (by decide)) (by decide) rfl rfl rfl rfl dX2_pushOwnRuns_35 rfl ?_
  obtain ⟨rfl, rfl, rfl⟩ := inj3 h; exact g_vret hC dX2_pushOwnRuns_38
set_option maxRecDepth 200000 in
theorem w_X2_pushPlaces_L2 {κ : GK} {E : GE} {rcz : Nat → Int32} {rvz : Nat → Int32} {rbz : Nat → Nat → Int32} {laz : Nat → Nat → Int64}  {k71 : (Nat → Nat → Int64) → Option ((Nat → Int32) × (Nat → Int32) × (Nat → Nat → Int32) × (Nat → Nat → Int64))} (hC : gC κ E cX2_pushPlaces RX2 none rm_X2_pushPlaces 3)  (hk71 : ∀ (la : Nat → Nat → Int64), k71 la = some (rcz, rvz, rbz, laz) → GG κ E (xws E xk xo xc xt xn xl rcz rvz rbz laz wch wcc wpl wun srow ssp sen str stp swd rwp rdr rpd rpv rpc rzp, none) (xws E xk xo xc xt xn xl rc rv rb la wch wcc wpl wun srow ssp sen str stp swd rwp rdr rpd rpv rpc rzp) 71 [some (.ref (ea E 37)), none, none] []) : ∀ (n : Nat) (v1 : Int32) (la : Nat → Nat → Int64), itr2 (p_X2_pushPlaces_L2 wch wcc wpl k71) n v1 la = some (rcz, rvz, rbz, laz) → GG κ E (xws E xk xo xc xt xn xl rcz rvz rbz laz wch wcc wpl wun srow ssp sen str stp swd rwp rdr rpd rpv rpc rzp, none) (xws E xk xo xc xt xn xl rc rv rb la wch wcc wpl wun srow ssp sen str stp swd rwp rdr rpd rpv rpc rzp) 2 [some (.ref (ea E 37)), some (.int v1), none] [] :=
  itr2_ind (fun k2 hk2 v1 la h => by
    unfold p_X2_pushPlaces_L2 at h
    refine g_iload_n (pc' := 3) (i := 1) hC dX2_pushPlaces_2 rfl rfl rfl ?_
    refine g_aload_n (pc' := 4) (i := 0) hC dX2_pushPlaces_3 rfl rfl rfl ?_
    refine gf_X2_100 (pc' := 7) hC dX2_pushPlaces_4 rfl ?_
    refine g_icmp_ge (pc' := 10) (tgt := 71) hC dX2_pushPlaces_7 (by decide) rfl h (fun h => ?_) (fun h => ?_)
    · refine g_iload_n (pc' := 11) (i := 1) hC dX2_pushPlaces_10 rfl rfl rfl ?_
      refine g_aload_n (pc' := 12) (i := 0) hC dX2_pushPlaces_11 rfl rfl rfl ?_
      refine gf_X2_23 (pc' := 15) hC dX2_pushPlaces_12 rfl ?_
      refine al_wch (pc' := 16) hC dX2_pushPlaces_15 rfl ?_
      refine g_icmp_ge (pc' := 19) (tgt := 71) hC dX2_pushPlaces_16 (by decide) rfl h (fun h => ?_) (fun h => ?_)
      · refine g_iload_n (pc' := 20) (i := 1) hC dX2_pushPlaces_19 rfl rfl rfl ?_
        refine g_aload_n (pc' := 21) (i := 0) hC dX2_pushPlaces_20 rfl rfl rfl ?_
        refine gf_X2_30 (pc' := 24) hC dX2_pushPlaces_21 rfl ?_
        refine al_la (pc' := 25) hC (by decide) dX2_pushPlaces_24 rfl ?_
        refine g_icmp_ge (pc' := 28) (tgt := 71) hC dX2_pushPlaces_25 (by decide) rfl h (fun h => ?_) (fun h => ?_)
        · refine g_aload_n (pc' := 29) (i := 0) hC dX2_pushPlaces_28 rfl rfl rfl ?_
          refine gf_X2_23 (pc' := 32) hC dX2_pushPlaces_29 rfl ?_
          refine g_iload_n (pc' := 33) (i := 1) hC dX2_pushPlaces_32 rfl rfl rfl ?_
          obtain ⟨g_1, h⟩ := gd_some h
          refine ld_wch (pc' := 34) hC g_1 dX2_pushPlaces_33 rfl ?_
          refine g_istore_n (pc' := 35) (i := 2) (lo' := [some (.ref (ea E 37)), some (.int v1), some (.int (wch (ix v1)))]) hC dX2_pushPlaces_34 rfl rfl rfl rfl rfl ?_
          refine g_aload_n (pc' := 36) (i := 0) hC dX2_pushPlaces_35 rfl rfl rfl ?_
          refine gf_X2_30 (pc' := 39) hC dX2_pushPlaces_36 rfl ?_
          refine g_iload_n (pc' := 40) (i := 1) hC dX2_pushPlaces_39 rfl rfl rfl ?_
          refine g_iload_n (pc' := 41) (i := 2) hC dX2_pushPlaces_40 rfl rfl rfl ?_
          refine g_if_lt (pc' := 44) (tgt := 63) hC dX2_pushPlaces_41 (by decide) rfl h (fun h => ?_) (fun h => ?_)
          · refine g_lconst (pc' := 64) (v := (0 : Int64)) hC dX2_pushPlaces_63 (by decide) rfl ?_
            obtain ⟨g_2, h⟩ := gd_some h
            refine st_la (pc' := 65) hC (by decide) g_2 dX2_pushPlaces_64 rfl ?_
            refine g_iinc (pc' := 68) (i := 1) (x := v1) (k := (1 : Int32)) (lo' := [some (.ref (ea E 37)), some (.int (v1 + (1 : Int32))), some (.int (wch (ix v1)))]) hC dX2_pushPlaces_65 rfl (by decide) rfl rfl rfl rfl ?_
            refine g_goto (tgt := 2) hC dX2_pushPlaces_68 (by decide) ?_
            refine g_weak (lo' := [some (.ref (ea E 37)), some (.int (v1 + (1 : Int32))), none]) rfl ?_
            exact hk2 _ _ h
          · refine g_iload_n (pc' := 45) (i := 2) hC dX2_pushPlaces_44 rfl rfl rfl ?_
            refine g_aload_n (pc' := 46) (i := 0) hC dX2_pushPlaces_45 rfl rfl rfl ?_
            refine gf_X2_27 (pc' := 49) hC dX2_pushPlaces_46 rfl ?_
            refine al_wpl (pc' := 50) hC dX2_pushPlaces_49 rfl ?_
            refine g_icmp_ge (pc' := 53) (tgt := 63) hC dX2_pushPlaces_50 (by decide) rfl h (fun h => ?_) (fun h => ?_)
            · refine g_aload_n (pc' := 54) (i := 0) hC dX2_pushPlaces_53 rfl rfl rfl ?_
              refine gf_X2_27 (pc' := 57) hC dX2_pushPlaces_54 rfl ?_
              refine g_iload_n (pc' := 58) (i := 2) hC dX2_pushPlaces_57 rfl rfl rfl ?_
              obtain ⟨g_3, h⟩ := gd_some h
              refine ld_wpl (pc' := 59) hC g_3 dX2_pushPlaces_58 rfl ?_
              refine g_i2l (pc' := 60) hC dX2_pushPlaces_59 rfl ?_
              refine g_goto (tgt := 64) hC dX2_pushPlaces_60 (by decide) ?_
              obtain ⟨g_4, h⟩ := gd_some h
              refine st_la (pc' := 65) hC (by decide) g_4 dX2_pushPlaces_64 rfl ?_
              refine g_iinc (pc' := 68) (i := 1) (x := v1) (k := (1 : Int32)) (lo' := [some (.ref (ea E 37)), some (.int (v1 + (1 : Int32))), some (.int (wch (ix v1)))]) hC dX2_pushPlaces_65 rfl (by decide) rfl rfl rfl rfl ?_
              refine g_goto (tgt := 2) hC dX2_pushPlaces_68 (by decide) ?_
              refine g_weak (lo' := [some (.ref (ea E 37)), some (.int (v1 + (1 : Int32))), none]) rfl ?_
              exact hk2 _ _ h
            · refine g_lconst (pc' := 64) (v := (0 : Int64)) hC dX2_pushPlaces_63 (by decide) rfl ?_
              obtain ⟨g_5, h⟩ := gd_some h
              refine st_la (pc' := 65) hC (by decide) g_5 dX2_pushPlaces_64 rfl ?_
              refine g_iinc (pc' := 68) (i := 1) (x := v1) (k := (1 : Int32)) (lo' := [some (.ref (ea E 37)), some (.int (v1 + (1 : Int32))), some (.int (wch (ix v1)))]) hC dX2_pushPlaces_65 rfl (by decide) rfl rfl rfl rfl ?_
              refine g_goto (tgt := 2) hC dX2_pushPlaces_68 (by decide) ?_
              refine g_weak (lo' := [some (.ref (ea E 37)), some (.int (v1 + (1 : Int32))), none]) rfl ?_
              exact hk2 _ _ h
        · refine g_weak (lo' := [some (.ref (ea E 37)), none, none]) rfl ?_
          exact hk71 _ h
      · refine g_weak (lo' := [some (.ref (ea E 37)), none, none]) rfl ?_
        exact hk71 _ h
    · refine g_weak (lo' := [some (.ref (ea E 37)), none, none]) rfl ?_
      exact hk71 _ h)
set_option maxRecDepth 200000 in
theorem w_X2_pushPlaces_J93 {κ : GK} {E : GE} {rcz : Nat → Int32} {rvz : Nat → Int32} {rbz : Nat → Nat → Int32} {laz : Nat → Nat → Int64} {s0 : Int32}  (hC : gC κ E cX2_pushPlaces RX2 none rm_X2_pushPlaces 3)   (h : p_X2_pushPlaces_J93 s0 rc rv rb la wcc = some (rcz, rvz, rbz, laz)) : GG κ E (xws E xk xo xc xt xn xl rcz rvz rbz laz wch wcc wpl wun srow ssp sen str stp swd rwp rdr rpd rpv rpc rzp, none) (xws E xk xo xc xt xn xl rc rv rb la wch wcc wpl wun srow ssp sen str stp swd rwp rdr rpd rpv rpc rzp) 93 [some (.ref (ea E 37)), none, none] [.int s0] := by
  unfold p_X2_pushPlaces_J93 at h
  refine g_istore_n (pc' := 94) (i := 1) (lo' := [some (.ref (ea E 37)), some (.int s0), none]) hC dX2_pushPlaces_93 rfl rfl rfl rfl rfl ?_
  refine g_aload_n (pc' := 95) (i := 0) hC dX2_pushPlaces_94 rfl rfl rfl ?_
  refine gf_X2_20 (pc' := 98) hC dX2_pushPlaces_95 rfl ?_
  refine g_iload_n (pc' := 99) (i := 1) hC dX2_pushPlaces_98 rfl rfl rfl ?_
  obtain ⟨rc_9, rv_10, rb_11, hc_12, h⟩ := bd3_some h
  refine g_callV (pc' := 102) hC (c_X3_push _ (by decide) hc_12) ml_X2_113 (rc_Row (by decide)) (by decide) rfl rfl rfl rfl dX2_pushPlaces_99 rfl ?_
  refine g_aload_n (pc' := 103) (i := 0) hC dX2_pushPlaces_102 rfl rfl rfl ?_
  refine gf_X2_20 (pc' := 106) hC dX2_pushPlaces_103 rfl ?_
  refine g_aload_n (pc' := 107) (i := 0) hC dX2_pushPlaces_106 rfl rfl rfl ?_
  refine gf_X2_30 (pc' := 110) hC dX2_pushPlaces_107 rfl ?_
  refine g_aload_n (pc' := 111) (i := 0) hC dX2_pushPlaces_110 rfl rfl rfl ?_
  refine gf_X2_100 (pc' := 114) hC dX2_pushPlaces_111 rfl ?_
  refine g_iload_n (pc' := 115) (i := 1) hC dX2_pushPlaces_114 rfl rfl rfl ?_
  obtain ⟨rc_13, rv_14, rb_15, hc_16, h⟩ := bd3_some h
  refine g_callV (pc' := 118) hC (c_X3_pushRuns _ (by decide) (by decide) hc_16) ml_X2_141 (rc_Row (by decide)) (by decide) rfl rfl rfl rfl dX2_pushPlaces_115 rfl ?_
  obtain ⟨rfl, rfl, rfl, rfl⟩ := inj4 h; exact g_vret hC dX2_pushPlaces_118
set_option maxRecDepth 200000 in
theorem w_X2_pushPlaces_J71 {κ : GK} {E : GE} {rcz : Nat → Int32} {rvz : Nat → Int32} {rbz : Nat → Nat → Int32} {laz : Nat → Nat → Int64}   (hC : gC κ E cX2_pushPlaces RX2 none rm_X2_pushPlaces 3)   (h : p_X2_pushPlaces_J71 rc rv rb la wcc wun = some (rcz, rvz, rbz, laz)) : GG κ E (xws E xk xo xc xt xn xl rcz rvz rbz laz wch wcc wpl wun srow ssp sen str stp swd rwp rdr rpd rpv rpc rzp, none) (xws E xk xo xc xt xn xl rc rv rb la wch wcc wpl wun srow ssp sen str stp swd rwp rdr rpd rpv rpc rzp) 71 [some (.ref (ea E 37)), none, none] [] := by
  unfold p_X2_pushPlaces_J71 at h
  refine g_aload_n (pc' := 72) (i := 0) hC dX2_pushPlaces_71 rfl rfl rfl ?_
  refine gf_X2_72 (pc' := 75) hC dX2_pushPlaces_72 rfl ?_
  refine g_iconst (pc' := 76) (v := (1 : Int32)) hC dX2_pushPlaces_75 (by decide) rfl ?_
  refine g_icmp_le (pc' := 79) (tgt := 92) hC dX2_pushPlaces_76 (by decide) rfl h (fun h => ?_) (fun h => ?_)
  · refine g_aload_n (pc' := 80) (i := 0) hC dX2_pushPlaces_79 rfl rfl rfl ?_
    refine gf_X2_72 (pc' := 83) hC dX2_pushPlaces_80 rfl ?_
    refine g_iconst (pc' := 84) (v := (1 : Int32)) hC dX2_pushPlaces_83 (by decide) rfl ?_
    refine g_isub (pc' := 85) hC dX2_pushPlaces_84 rfl ?_
    refine g_i2l (pc' := 86) hC dX2_pushPlaces_85 rfl ?_
    obtain ⟨a_7, hc_8, h⟩ := bd1_some h
    refine g_callN (pc' := 89) hC (c_X5_bitsOf _ hc_8) ml_X2_162  (by decide) rfl rfl rfl dX2_pushPlaces_86 rfl ?_
    refine g_goto (tgt := 93) hC dX2_pushPlaces_89 (by decide) ?_
    exact w_X2_pushPlaces_J93 hC   h
  · refine g_iconst (pc' := 93) (v := (0 : Int32)) hC dX2_pushPlaces_92 (by decide) rfl ?_
    exact w_X2_pushPlaces_J93 hC   h
set_option maxRecDepth 200000 in
theorem c_X2_pushPlaces (l : Launch) {E : GE} {rcz : Nat → Int32} {rvz : Nat → Int32} {rbz : Nat → Nat → Int32} {laz : Nat → Nat → Int64}   (h : p_X2_pushPlaces rc rv rb la wch wcc wpl wun = some (rcz, rvz, rbz, laz)) : Met l yX2_pushPlaces (.code yX2_pushPlaces cX2_pushPlaces 3 none :: gU) rm_X2_pushPlaces (gP E (xws E xk xo xc xt xn xl rc rv rb la wch wcc wpl wun srow ssp sen str stp swd rwp rdr rpd rpv rpc rzp) [.ref (ea E 37)]) (gQ E (xws E xk xo xc xt xn xl rcz rvz rbz laz wch wcc wpl wun srow ssp sen str stp swd rwp rdr rpd rpv rpc rzp) none) 0 0 E.2.2.1 := by
  refine met_of (y := yX2_pushPlaces) (own := RX2) (lo := [some (.ref (ea E 37)), none, none]) (by decide) rfl rfl rfl (fun κ hl hC => ?_)
  subst hl
  unfold p_X2_pushPlaces at h
  refine g_iconst (pc' := 1) (v := (0 : Int32)) hC dX2_pushPlaces_0 (by decide) rfl ?_
  refine g_istore_n (pc' := 2) (i := 1) (lo' := [some (.ref (ea E 37)), some (.int (0 : Int32)), none]) hC dX2_pushPlaces_1 rfl rfl rfl rfl rfl ?_
  refine w_X2_pushPlaces_L2 hC  ?_ _ _ _ h
  · intro la_6 h
    exact w_X2_pushPlaces_J71 hC   h
set_option maxRecDepth 200000 in
theorem w_X2_pushPlain_J88 {κ : GK} {E : GE} {rcz : Nat → Int32} {rvz : Nat → Int32} {rbz : Nat → Nat → Int32} {laz : Nat → Nat → Int64} {v1 : Nat} {v2 : Int32} {s1 : Int64} {s2 : Int32} {k43 : Int32 → (Nat → Int32) → (Nat → Int32) → (Nat → Nat → Int32) → Option ((Nat → Int32) × (Nat → Int32) × (Nat → Nat → Int32) × (Nat → Nat → Int64))} (hC : gC κ E cX2_pushPlain RX2 none rm_X2_pushPlain 3) (hv1 : v1 < 6) (hk43 : ∀ (v2 : Int32) (rc : Nat → Int32) (rv : Nat → Int32) (rb : Nat → Nat → Int32), k43 v2 rc rv rb = some (rcz, rvz, rbz, laz) → GG κ E (xws E xk xo xc xt xn xl rcz rvz rbz laz wch wcc wpl wun srow ssp sen str stp swd rwp rdr rpd rpv rpc rzp, none) (xws E xk xo xc xt xn xl rc rv rb la wch wcc wpl wun srow ssp sen str stp swd rwp rdr rpd rpv rpc rzp) 43 [some (.ref (ea E 37)), some (.ref (ea E (4 * v1))), some (.int v2)] []) (h : p_X2_pushPlain_J88 v1 v2 s1 s2 xk xn xl rc rv rb wch k43 = some (rcz, rvz, rbz, laz)) : GG κ E (xws E xk xo xc xt xn xl rcz rvz rbz laz wch wcc wpl wun srow ssp sen str stp swd rwp rdr rpd rpv rpc rzp, none) (xws E xk xo xc xt xn xl rc rv rb la wch wcc wpl wun srow ssp sen str stp swd rwp rdr rpd rpv rpc rzp) 88 [some (.ref (ea E 37)), some (.ref (ea E (4 * v1))), some (.int v2)] [.int s2, .long s1, .ref (ea E (24 + 2 * 3))] := by
  unfold p_X2_pushPlain_J88 at h
  obtain ⟨rc_12, rv_13, rb_14, hc_15, h⟩ := bd3_some h
  refine g_callV (pc' := 91) hC (c_X3_pushLittle _ (by decide) hc_15) ml_X2_137 (rc_Row (by decide)) (by decide) rfl rfl rfl rfl dX2_pushPlain_88 rfl ?_
  refine g_aload_n (pc' := 92) (i := 1) hC dX2_pushPlain_91 rfl rfl rfl ?_
  refine gf_X2_56 (pc' := 95) hC hv1 dX2_pushPlain_92 rfl ?_
  refine g_iconst (pc' := 96) (v := (2 : Int32)) hC dX2_pushPlain_95 (by decide) rfl ?_
  refine g_icmp_ne (pc' := 99) (tgt := 110) hC dX2_pushPlain_96 (by decide) rfl h (fun h => ?_) (fun h => ?_)
  · refine g_aload_n (pc' := 100) (i := 0) hC dX2_pushPlain_99 rfl rfl rfl ?_
    refine g_aload_n (pc' := 101) (i := 1) hC dX2_pushPlain_100 rfl rfl rfl ?_
    refine g_aload_n (pc' := 102) (i := 0) hC dX2_pushPlain_101 rfl rfl rfl ?_
    refine gf_X2_23 (pc' := 105) hC dX2_pushPlain_102 rfl ?_
    refine g_iload_n (pc' := 106) (i := 2) hC dX2_pushPlain_105 rfl rfl rfl ?_
    obtain ⟨g_16, h⟩ := gd_some h
    refine ld_wch (pc' := 107) hC g_16 dX2_pushPlain_106 rfl ?_
    obtain ⟨rc_17, rv_18, rb_19, hc_20, h⟩ := bd3_some h
    refine g_callV (pc' := 110) hC (c_X2_pushLetters _ hv1 hc_20) ml_X2_155 (rc_Wr) (by decide) rfl rfl rfl rfl dX2_pushPlain_107 rfl ?_
    refine g_iinc (pc' := 113) (i := 2) (x := v2) (k := (1 : Int32)) (lo' := [some (.ref (ea E 37)), some (.ref (ea E (4 * v1))), some (.int (v2 + (1 : Int32)))]) hC dX2_pushPlain_110 rfl (by decide) rfl rfl rfl rfl ?_
    refine g_goto (tgt := 43) hC dX2_pushPlain_113 (by decide) ?_
    exact hk43 _ _ _ _ h
  · refine g_iinc (pc' := 113) (i := 2) (x := v2) (k := (1 : Int32)) (lo' := [some (.ref (ea E 37)), some (.ref (ea E (4 * v1))), some (.int (v2 + (1 : Int32)))]) hC dX2_pushPlain_110 rfl (by decide) rfl rfl rfl rfl ?_
    refine g_goto (tgt := 43) hC dX2_pushPlain_113 (by decide) ?_
    exact hk43 _ _ _ _ h
set_option maxRecDepth 200000 in
theorem w_X2_pushPlain_L43 {κ : GK} {E : GE} {rcz : Nat → Int32} {rvz : Nat → Int32} {rbz : Nat → Nat → Int32} {laz : Nat → Nat → Int64} {v1 : Nat}  (hC : gC κ E cX2_pushPlain RX2 none rm_X2_pushPlain 3) (hv1 : v1 < 6)  : ∀ (n : Nat) (v2 : Int32) (rc : Nat → Int32) (rv : Nat → Int32) (rb : Nat → Nat → Int32), itr4 (p_X2_pushPlain_L43 v1 xk xn xl la wch wcc) n v2 rc rv rb = some (rcz, rvz, rbz, laz) → GG κ E (xws E xk xo xc xt xn xl rcz rvz rbz laz wch wcc wpl wun srow ssp sen str stp swd rwp rdr rpd rpv rpc rzp, none) (xws E xk xo xc xt xn xl rc rv rb la wch wcc wpl wun srow ssp sen str stp swd rwp rdr rpd rpv rpc rzp) 43 [some (.ref (ea E 37)), some (.ref (ea E (4 * v1))), some (.int v2)] [] :=
  itr4_ind (fun k43 hk43 v2 rc rv rb h => by
    unfold p_X2_pushPlain_L43 at h
    refine g_iload_n (pc' := 44) (i := 2) hC dX2_pushPlain_43 rfl rfl rfl ?_
    refine g_aload_n (pc' := 45) (i := 0) hC dX2_pushPlain_44 rfl rfl rfl ?_
    refine gf_X2_100 (pc' := 48) hC dX2_pushPlain_45 rfl ?_
    refine g_icmp_ge (pc' := 51) (tgt := 116) hC dX2_pushPlain_48 (by decide) rfl h (fun h => ?_) (fun h => ?_)
    · refine g_iload_n (pc' := 52) (i := 2) hC dX2_pushPlain_51 rfl rfl rfl ?_
      refine g_aload_n (pc' := 53) (i := 0) hC dX2_pushPlain_52 rfl rfl rfl ?_
      refine gf_X2_23 (pc' := 56) hC dX2_pushPlain_53 rfl ?_
      refine al_wch (pc' := 57) hC dX2_pushPlain_56 rfl ?_
      refine g_icmp_ge (pc' := 60) (tgt := 116) hC dX2_pushPlain_57 (by decide) rfl h (fun h => ?_) (fun h => ?_)
      · refine g_aload_n (pc' := 61) (i := 0) hC dX2_pushPlain_60 rfl rfl rfl ?_
        refine gf_X2_20 (pc' := 64) hC dX2_pushPlain_61 rfl ?_
        refine g_aload_n (pc' := 65) (i := 1) hC dX2_pushPlain_64 rfl rfl rfl ?_
        refine g_aload_n (pc' := 66) (i := 0) hC dX2_pushPlain_65 rfl rfl rfl ?_
        refine gf_X2_23 (pc' := 69) hC dX2_pushPlain_66 rfl ?_
        refine g_iload_n (pc' := 70) (i := 2) hC dX2_pushPlain_69 rfl rfl rfl ?_
        obtain ⟨g_9, h⟩ := gd_some h
        refine ld_wch (pc' := 71) hC g_9 dX2_pushPlain_70 rfl ?_
        obtain ⟨a_10, hc_11, h⟩ := bd1_some h
        refine g_callV (pc' := 74) hC (c_X0_numberAt _ hv1 hc_11) ml_X2_133 (rc_Col hv1) (by decide) rfl rfl rfl rfl dX2_pushPlain_71 rfl ?_
        refine g_aload_n (pc' := 75) (i := 1) hC dX2_pushPlain_74 rfl rfl rfl ?_
        refine gf_X2_56 (pc' := 78) hC hv1 dX2_pushPlain_75 rfl ?_
        refine g_iconst (pc' := 79) (v := (1 : Int32)) hC dX2_pushPlain_78 (by decide) rfl ?_
        refine g_icmp_ne (pc' := 82) (tgt := 87) hC dX2_pushPlain_79 (by decide) rfl h (fun h => ?_) (fun h => ?_)
        · refine g_bipush (pc' := 84) (v := (8 : Int32)) hC dX2_pushPlain_82 (by decide) rfl ?_
          refine g_goto (tgt := 88) hC dX2_pushPlain_84 (by decide) ?_
          exact w_X2_pushPlain_J88 hC hv1 hk43 h
        · refine g_iconst (pc' := 88) (v := (4 : Int32)) hC dX2_pushPlain_87 (by decide) rfl ?_
          exact w_X2_pushPlain_J88 hC hv1 hk43 h
      · obtain ⟨rfl, rfl, rfl, rfl⟩ := inj4 h; exact g_vret hC dX2_pushPlain_116
    · obtain ⟨rfl, rfl, rfl, rfl⟩ := inj4 h; exact g_vret hC dX2_pushPlain_116)
set_option maxRecDepth 200000 in
theorem c_X2_pushPlain (l : Launch) {E : GE} {rcz : Nat → Int32} {rvz : Nat → Int32} {rbz : Nat → Nat → Int32} {laz : Nat → Nat → Int64} {v1 : Nat} (hv1 : v1 < 6) (h : p_X2_pushPlain v1 xk xn xl rc rv rb la wch wcc = some (rcz, rvz, rbz, laz)) : Met l yX2_pushPlain (.code yX2_pushPlain cX2_pushPlain 3 none :: gU) rm_X2_pushPlain (gP E (xws E xk xo xc xt xn xl rc rv rb la wch wcc wpl wun srow ssp sen str stp swd rwp rdr rpd rpv rpc rzp) [.ref (ea E 37), .ref (ea E (4 * v1))]) (gQ E (xws E xk xo xc xt xn xl rcz rvz rbz laz wch wcc wpl wun srow ssp sen str stp swd rwp rdr rpd rpv rpc rzp) none) 0 0 E.2.2.1 := by
  refine met_of (y := yX2_pushPlain) (own := RX2) (lo := [some (.ref (ea E 37)), some (.ref (ea E (4 * v1))), none]) (by decide) rfl rfl rfl (fun κ hl hC => ?_)
  subst hl
  unfold p_X2_pushPlain at h
  refine g_aload_n (pc' := 1) (i := 1) hC dX2_pushPlain_0 rfl rfl rfl ?_
  refine gf_X2_56 (pc' := 4) hC hv1 dX2_pushPlain_1 rfl ?_
  refine g_iconst (pc' := 5) (v := (3 : Int32)) hC dX2_pushPlain_4 (by decide) rfl ?_
  refine g_icmp_ne (pc' := 8) (tgt := 41) hC dX2_pushPlain_5 (by decide) rfl h (fun h => ?_) (fun h => ?_)
  · refine g_aload_n (pc' := 9) (i := 0) hC dX2_pushPlain_8 rfl rfl rfl ?_
    refine g_aload_n (pc' := 10) (i := 1) hC dX2_pushPlain_9 rfl rfl rfl ?_
    obtain ⟨la_1, hc_2, h⟩ := bd1_some h
    refine g_callV (pc' := 13) hC (c_X2_gatherNumbers _ hv1 hc_2) ml_X2_97 (rc_Wr) (by decide) rfl rfl rfl rfl dX2_pushPlain_10 rfl ?_
    refine g_aload_n (pc' := 14) (i := 0) hC dX2_pushPlain_13 rfl rfl rfl ?_
    refine gf_X2_20 (pc' := 17) hC dX2_pushPlain_14 rfl ?_
    refine g_aload_n (pc' := 18) (i := 0) hC dX2_pushPlain_17 rfl rfl rfl ?_
    refine gf_X2_30 (pc' := 21) hC dX2_pushPlain_18 rfl ?_
    refine g_iconst (pc' := 22) (v := (0 : Int32)) hC dX2_pushPlain_21 (by decide) rfl ?_
    refine g_aload_n (pc' := 23) (i := 0) hC dX2_pushPlain_22 rfl rfl rfl ?_
    refine gf_X2_100 (pc' := 26) hC dX2_pushPlain_23 rfl ?_
    refine g_aload_n (pc' := 27) (i := 0) hC dX2_pushPlain_26 rfl rfl rfl ?_
    refine gf_X2_100 (pc' := 30) hC dX2_pushPlain_27 rfl ?_
    obtain ⟨a_3, hc_4, h⟩ := bd1_some h
    refine g_callN (pc' := 33) hC (c_X5_wholeGroups _ hc_4) ml_X2_148  (by decide) rfl rfl rfl dX2_pushPlain_30 rfl ?_
    refine g_bipush (pc' := 35) (v := (8 : Int32)) hC dX2_pushPlain_33 (by decide) rfl ?_
    refine g_imul (pc' := 36) hC dX2_pushPlain_35 rfl ?_
    refine g_iconst (pc' := 37) (v := (1 : Int32)) hC dX2_pushPlain_36 (by decide) rfl ?_
    obtain ⟨rc_5, rv_6, rb_7, hc_8, h⟩ := bd3_some h
    refine g_callV (pc' := 40) hC (c_X3_pushPacked _ (by decide) (by decide) hc_8) ml_X2_151 (rc_Row (by decide)) (by decide) rfl rfl rfl rfl dX2_pushPlain_37 rfl ?_
    obtain ⟨rfl, rfl, rfl, rfl⟩ := inj4 h; exact g_vret hC dX2_pushPlain_40
  · refine g_iconst (pc' := 42) (v := (0 : Int32)) hC dX2_pushPlain_41 (by decide) rfl ?_
    refine g_istore_n (pc' := 43) (i := 2) (lo' := [some (.ref (ea E 37)), some (.ref (ea E (4 * v1))), some (.int (0 : Int32))]) hC dX2_pushPlain_42 rfl rfl rfl rfl rfl ?_
    refine w_X2_pushPlain_L43 hC hv1  _ _ _ _ _ h
set_option maxRecDepth 200000 in
theorem w_X3_append_L25 {κ : GK} {E : GE} {rcz : Nat → Int32} {rvz : Nat → Int32} {rbz : Nat → Nat → Int32} {v0 : Nat} {v1 : Nat}  (hC : gC κ E cX3_append RX3 none rm_X3_append 3) (hv0 : v0 < 4) (hv1 : v1 < 4)  : ∀ (n : Nat) (v2 : Int32) (rc : Nat → Int32) (rv : Nat → Int32) (rb : Nat → Nat → Int32), itr4 (p_X3_append_L25 v0 v1) n v2 rc rv rb = some (rcz, rvz, rbz) → GG κ E (xws E xk xo xc xt xn xl rcz rvz rbz la wch wcc wpl wun srow ssp sen str stp swd rwp rdr rpd rpv rpc rzp, none) (xws E xk xo xc xt xn xl rc rv rb la wch wcc wpl wun srow ssp sen str stp swd rwp rdr rpd rpv rpc rzp) 25 [some (.ref (ea E (24 + 2 * v0))), some (.ref (ea E (24 + 2 * v1))), some (.int v2)] [] :=
  itr4_ind (fun k25 hk25 v2 rc rv rb h => by
    unfold p_X3_append_L25 at h
    refine g_iload_n (pc' := 26) (i := 2) hC dX3_append_25 rfl rfl rfl ?_
    refine g_aload_n (pc' := 27) (i := 1) hC dX3_append_26 rfl rfl rfl ?_
    refine gf_X3_15 (pc' := 30) hC hv1 dX3_append_27 rfl ?_
    refine g_icmp_ge (pc' := 33) (tgt := 48) hC dX3_append_30 (by decide) rfl h (fun h => ?_) (fun h => ?_)
    · refine g_aload_n (pc' := 34) (i := 0) hC dX3_append_33 rfl rfl rfl ?_
      refine g_aload_n (pc' := 35) (i := 1) hC dX3_append_34 rfl rfl rfl ?_
      refine g_iload_n (pc' := 36) (i := 2) hC dX3_append_35 rfl rfl rfl ?_
      obtain ⟨a_1, hc_2, h⟩ := bd1_some h
      refine g_callV (pc' := 39) hC (c_X3_get _ hv1 hc_2) ml_X3_32 (rc_Row hv1) (by decide) rfl rfl rfl rfl dX3_append_36 rfl ?_
      obtain ⟨rc_3, rv_4, rb_5, hc_6, h⟩ := bd3_some h
      refine g_callV (pc' := 42) hC (c_X3_push _ hv0 hc_6) ml_X3_36 (rc_Row hv0) (by decide) rfl rfl rfl rfl dX3_append_39 rfl ?_
      refine g_iinc (pc' := 45) (i := 2) (x := v2) (k := (1 : Int32)) (lo' := [some (.ref (ea E (24 + 2 * v0))), some (.ref (ea E (24 + 2 * v1))), some (.int (v2 + (1 : Int32)))]) hC dX3_append_42 rfl (by decide) rfl rfl rfl rfl ?_
      refine g_goto (tgt := 25) hC dX3_append_45 (by decide) ?_
      exact hk25 _ _ _ _ h
    · obtain ⟨rfl, rfl, rfl⟩ := inj3 h; exact g_vret hC dX3_append_48)
set_option maxRecDepth 200000 in
theorem c_X3_append (l : Launch) {E : GE} {rcz : Nat → Int32} {rvz : Nat → Int32} {rbz : Nat → Nat → Int32} {v0 : Nat} {v1 : Nat} (hv0 : v0 < 4) (hv1 : v1 < 4) (h : p_X3_append v0 v1 rc rv rb = some (rcz, rvz, rbz)) : Met l yX3_append (.code yX3_append cX3_append 3 none :: gU) rm_X3_append (gP E (xws E xk xo xc xt xn xl rc rv rb la wch wcc wpl wun srow ssp sen str stp swd rwp rdr rpd rpv rpc rzp) [.ref (ea E (24 + 2 * v0)), .ref (ea E (24 + 2 * v1))]) (gQ E (xws E xk xo xc xt xn xl rcz rvz rbz la wch wcc wpl wun srow ssp sen str stp swd rwp rdr rpd rpv rpc rzp) none) 0 0 E.2.2.1 := by
  refine met_of (y := yX3_append) (own := RX3) (lo := [some (.ref (ea E (24 + 2 * v0))), some (.ref (ea E (24 + 2 * v1))), none]) (by decide) rfl rfl rfl (fun κ hl hC => ?_)
  subst hl
  unfold p_X3_append at h
  refine g_aload_n (pc' := 1) (i := 0) hC dX3_append_0 rfl rfl rfl ?_
  refine g_aload_n (pc' := 2) (i := 0) hC dX3_append_1 rfl rfl rfl ?_
  refine gf_X3_19 (pc' := 5) hC hv0 dX3_append_2 rfl ?_
  refine g_if_ne (pc' := 8) (tgt := 15) hC dX3_append_5 (by decide) rfl h (fun h => ?_) (fun h => ?_)
  · refine g_aload_n (pc' := 9) (i := 1) hC dX3_append_8 rfl rfl rfl ?_
    refine gf_X3_19 (pc' := 12) hC hv1 dX3_append_9 rfl ?_
    refine g_if_eq (pc' := 15) (tgt := 19) hC dX3_append_12 (by decide) rfl h (fun h => ?_) (fun h => ?_)
    · refine g_iconst (pc' := 20) (v := (0 : Int32)) hC dX3_append_19 (by decide) rfl ?_
      refine pf_X3_19 (pc' := 23) hC hv0 (by decide) dX3_append_20 rfl ?_
      refine g_iconst (pc' := 24) (v := (0 : Int32)) hC dX3_append_23 (by decide) rfl ?_
      refine g_istore_n (pc' := 25) (i := 2) (lo' := [some (.ref (ea E (24 + 2 * v0))), some (.ref (ea E (24 + 2 * v1))), some (.int (0 : Int32))]) hC dX3_append_24 rfl rfl rfl rfl rfl ?_
      refine w_X3_append_L25 hC hv0 hv1  _ _ _ _ _ h
    · refine g_iconst (pc' := 16) (v := (1 : Int32)) hC dX3_append_15 (by decide) rfl ?_
      refine g_goto (tgt := 20) hC dX3_append_16 (by decide) ?_
      refine pf_X3_19 (pc' := 23) hC hv0 (by decide) dX3_append_20 rfl ?_
      refine g_iconst (pc' := 24) (v := (0 : Int32)) hC dX3_append_23 (by decide) rfl ?_
      refine g_istore_n (pc' := 25) (i := 2) (lo' := [some (.ref (ea E (24 + 2 * v0))), some (.ref (ea E (24 + 2 * v1))), some (.int (0 : Int32))]) hC dX3_append_24 rfl rfl rfl rfl rfl ?_
      refine w_X3_append_L25 hC hv0 hv1  _ _ _ _ _ h
  · refine g_iconst (pc' := 16) (v := (1 : Int32)) hC dX3_append_15 (by decide) rfl ?_
    refine g_goto (tgt := 20) hC dX3_append_16 (by decide) ?_
    refine pf_X3_19 (pc' := 23) hC hv0 (by decide) dX3_append_20 rfl ?_
    refine g_iconst (pc' := 24) (v := (0 : Int32)) hC dX3_append_23 (by decide) rfl ?_
    refine g_istore_n (pc' := 25) (i := 2) (lo' := [some (.ref (ea E (24 + 2 * v0))), some (.ref (ea E (24 + 2 * v1))), some (.int (0 : Int32))]) hC dX3_append_24 rfl rfl rfl rfl rfl ?_
    refine w_X3_append_L25 hC hv0 hv1  _ _ _ _ _ h
set_option maxRecDepth 200000 in
theorem c_X3_clear (l : Launch) {E : GE} {rcz : Nat → Int32} {rvz : Nat → Int32} {v0 : Nat} (hv0 : v0 < 4) (h : p_X3_clear v0 rc rv = some (rcz, rvz)) : Met l yX3_clear (.code yX3_clear cX3_clear 1 none :: gU) rm_X3_clear (gP E (xws E xk xo xc xt xn xl rc rv rb la wch wcc wpl wun srow ssp sen str stp swd rwp rdr rpd rpv rpc rzp) [.ref (ea E (24 + 2 * v0))]) (gQ E (xws E xk xo xc xt xn xl rcz rvz rb la wch wcc wpl wun srow ssp sen str stp swd rwp rdr rpd rpv rpc rzp) none) 0 0 E.2.2.1 := by
  refine met_of (y := yX3_clear) (own := RX3) (lo := [some (.ref (ea E (24 + 2 * v0)))]) (by decide) rfl rfl rfl (fun κ hl hC => ?_)
  subst hl
  unfold p_X3_clear at h
  refine g_aload_n (pc' := 1) (i := 0) hC dX3_clear_0 rfl rfl rfl ?_
  refine g_iconst (pc' := 2) (v := (0 : Int32)) hC dX3_clear_1 (by decide) rfl ?_
  refine pf_X3_15 (pc' := 5) hC hv0 dX3_clear_2 rfl ?_
  refine g_aload_n (pc' := 6) (i := 0) hC dX3_clear_5 rfl rfl rfl ?_
  refine g_iconst (pc' := 7) (v := (0 : Int32)) hC dX3_clear_6 (by decide) rfl ?_
  refine pf_X3_19 (pc' := 10) hC hv0 (by decide) dX3_clear_7 rfl ?_
  obtain ⟨rfl, rfl⟩ := inj2 h; exact g_vret hC dX3_clear_10
set_option maxRecDepth 200000 in
theorem w_X3_lowerToLeast_L26 {κ : GK} {E : GE} {rr : Int64} {laz : Nat → Nat → Int64} {v0 : Nat} {v1 : Int32} {v2 : Int32} {v3 : Int32} {k56 : Int64 → Option (Int64 × (Nat → Nat → Int64))} (hC : gC κ E cX3_lowerToLeast RX3 (some .long) rm_X3_lowerToLeast 9) (hv0 : v0 < 3) (hk56 : ∀ (v4 : Int64), k56 v4 = some (rr, laz) → GG κ E (xws E xk xo xc xt xn xl rc rv rb laz wch wcc wpl wun srow ssp sen str stp swd rwp rdr rpd rpv rpc rzp, some (.long rr)) (xws E xk xo xc xt xn xl rc rv rb la wch wcc wpl wun srow ssp sen str stp swd rwp rdr rpd rpv rpc rzp) 56 [some (.ref (ea E (32 + v0))), some (.int v1), some (.int v2), some (.int v3), some (.long v4), none, none, none, none] []) : ∀ (n : Nat) (v4 : Int64) (v6 : Int32), itr2 (p_X3_lowerToLeast_L26 v0 v2 la k56) n v4 v6 = some (rr, laz) → GG κ E (xws E xk xo xc xt xn xl rc rv rb laz wch wcc wpl wun srow ssp sen str stp swd rwp rdr rpd rpv rpc rzp, some (.long rr)) (xws E xk xo xc xt xn xl rc rv rb la wch wcc wpl wun srow ssp sen str stp swd rwp rdr rpd rpv rpc rzp) 26 [some (.ref (ea E (32 + v0))), some (.int v1), some (.int v2), some (.int v3), some (.long v4), none, some (.int v6), none, none] [] :=
  itr2_ind (fun k26 hk26 v4 v6 h => by
    unfold p_X3_lowerToLeast_L26 at h
    refine g_iload (pc' := 28) (i := 6) hC dX3_lowerToLeast_26 rfl rfl ?_
    refine g_iload_n (pc' := 29) (i := 2) hC dX3_lowerToLeast_28 rfl rfl rfl ?_
    refine g_icmp_ge (pc' := 32) (tgt := 56) hC dX3_lowerToLeast_29 (by decide) rfl h (fun h => ?_) (fun h => ?_)
    · refine g_iload (pc' := 34) (i := 6) hC dX3_lowerToLeast_32 rfl rfl ?_
      refine g_aload_n (pc' := 35) (i := 0) hC dX3_lowerToLeast_34 rfl rfl rfl ?_
      refine al_la (pc' := 36) hC hv0 dX3_lowerToLeast_35 rfl ?_
      refine g_icmp_ge (pc' := 39) (tgt := 56) hC dX3_lowerToLeast_36 (by decide) rfl h (fun h => ?_) (fun h => ?_)
      · refine g_lload (pc' := 41) (i := 4) hC dX3_lowerToLeast_39 rfl rfl ?_
        refine g_aload_n (pc' := 42) (i := 0) hC dX3_lowerToLeast_41 rfl rfl rfl ?_
        refine g_iload (pc' := 44) (i := 6) hC dX3_lowerToLeast_42 rfl rfl ?_
        obtain ⟨g_1, h⟩ := gd_some h
        refine ld_la (pc' := 45) hC hv0 g_1 dX3_lowerToLeast_44 rfl ?_
        refine g_lmin (pc' := 48) hC math_X3_89 (by decide) dX3_lowerToLeast_45 rfl rfl ?_
        refine g_lstore (pc' := 50) (i := 4) (lo' := [some (.ref (ea E (32 + v0))), some (.int v1), some (.int v2), some (.int v3), some (.long (lmin v4 (la v0 (ix v6)))), none, some (.int v6), none, none]) hC dX3_lowerToLeast_48 rfl rfl rfl rfl ?_
        refine g_iinc (pc' := 53) (i := 6) (x := v6) (k := (1 : Int32)) (lo' := [some (.ref (ea E (32 + v0))), some (.int v1), some (.int v2), some (.int v3), some (.long (lmin v4 (la v0 (ix v6)))), none, some (.int (v6 + (1 : Int32))), none, none]) hC dX3_lowerToLeast_50 rfl (by decide) rfl rfl rfl rfl ?_
        refine g_goto (tgt := 26) hC dX3_lowerToLeast_53 (by decide) ?_
        exact hk26 _ _ h
      · refine g_weak (lo' := [some (.ref (ea E (32 + v0))), some (.int v1), some (.int v2), some (.int v3), some (.long v4), none, none, none, none]) rfl ?_
        exact hk56 _ h
    · refine g_weak (lo' := [some (.ref (ea E (32 + v0))), some (.int v1), some (.int v2), some (.int v3), some (.long v4), none, none, none, none]) rfl ?_
      exact hk56 _ h)
set_option maxRecDepth 200000 in
theorem w_X3_lowerToLeast_L63 {κ : GK} {E : GE} {rr : Int64} {laz : Nat → Nat → Int64} {v0 : Nat} {v2 : Int32} {v3 : Int32} {v4 : Int64}  (hC : gC κ E cX3_lowerToLeast RX3 (some .long) rm_X3_lowerToLeast 9) (hv0 : v0 < 3)  : ∀ (n : Nat) (v6 : Int32) (la : Nat → Nat → Int64), itr2 (p_X3_lowerToLeast_L63 v0 v2 v3 v4) n v6 la = some (rr, laz) → GG κ E (xws E xk xo xc xt xn xl rc rv rb laz wch wcc wpl wun srow ssp sen str stp swd rwp rdr rpd rpv rpc rzp, some (.long rr)) (xws E xk xo xc xt xn xl rc rv rb la wch wcc wpl wun srow ssp sen str stp swd rwp rdr rpd rpv rpc rzp) 63 [some (.ref (ea E (32 + v0))), none, some (.int v2), some (.int v3), some (.long v4), none, some (.int v6), none, none] [] :=
  itr2_ind (fun k63 hk63 v6 la h => by
    unfold p_X3_lowerToLeast_L63 at h
    refine g_iload (pc' := 65) (i := 6) hC dX3_lowerToLeast_63 rfl rfl ?_
    refine g_iload_n (pc' := 66) (i := 2) hC dX3_lowerToLeast_65 rfl rfl rfl ?_
    refine g_icmp_ge (pc' := 69) (tgt := 110) hC dX3_lowerToLeast_66 (by decide) rfl h (fun h => ?_) (fun h => ?_)
    · refine g_iload (pc' := 71) (i := 6) hC dX3_lowerToLeast_69 rfl rfl ?_
      refine g_aload_n (pc' := 72) (i := 0) hC dX3_lowerToLeast_71 rfl rfl rfl ?_
      refine al_la (pc' := 73) hC hv0 dX3_lowerToLeast_72 rfl ?_
      refine g_icmp_ge (pc' := 76) (tgt := 110) hC dX3_lowerToLeast_73 (by decide) rfl h (fun h => ?_) (fun h => ?_)
      · refine g_aload_n (pc' := 77) (i := 0) hC dX3_lowerToLeast_76 rfl rfl rfl ?_
        refine g_iload (pc' := 79) (i := 6) hC dX3_lowerToLeast_77 rfl rfl ?_
        obtain ⟨g_3, h⟩ := gd_some h
        refine ld_la (pc' := 80) hC hv0 g_3 dX3_lowerToLeast_79 rfl ?_
        refine g_lload (pc' := 82) (i := 4) hC dX3_lowerToLeast_80 rfl rfl ?_
        refine g_lsub (pc' := 83) hC dX3_lowerToLeast_82 rfl ?_
        refine g_lstore (pc' := 85) (i := 7) (lo' := [some (.ref (ea E (32 + v0))), none, some (.int v2), some (.int v3), some (.long v4), none, some (.int v6), some (.long ((la v0 (ix v6)) - v4)), none]) hC dX3_lowerToLeast_83 rfl rfl rfl rfl ?_
        refine g_aload_n (pc' := 86) (i := 0) hC dX3_lowerToLeast_85 rfl rfl rfl ?_
        refine g_iload (pc' := 88) (i := 6) hC dX3_lowerToLeast_86 rfl rfl ?_
        refine g_iload_n (pc' := 89) (i := 3) hC dX3_lowerToLeast_88 rfl rfl rfl ?_
        refine g_if_eq (pc' := 92) (tgt := 101) hC dX3_lowerToLeast_89 (by decide) rfl h (fun h => ?_) (fun h => ?_)
        · refine g_lload (pc' := 103) (i := 7) hC dX3_lowerToLeast_101 rfl rfl ?_
          obtain ⟨g_4, h⟩ := gd_some h
          refine st_la (pc' := 104) hC hv0 g_4 dX3_lowerToLeast_103 rfl ?_
          refine g_iinc (pc' := 107) (i := 6) (x := v6) (k := (1 : Int32)) (lo' := [some (.ref (ea E (32 + v0))), none, some (.int v2), some (.int v3), some (.long v4), none, some (.int (v6 + (1 : Int32))), some (.long ((la v0 (ix v6)) - v4)), none]) hC dX3_lowerToLeast_104 rfl (by decide) rfl rfl rfl rfl ?_
          refine g_goto (tgt := 63) hC dX3_lowerToLeast_107 (by decide) ?_
          refine g_weak (lo' := [some (.ref (ea E (32 + v0))), none, some (.int v2), some (.int v3), some (.long v4), none, some (.int (v6 + (1 : Int32))), none, none]) rfl ?_
          exact hk63 _ _ h
        · refine g_lload (pc' := 94) (i := 7) hC dX3_lowerToLeast_92 rfl rfl ?_
          refine g_ldc2_w (pc' := 97) (v := (4294967295 : Int64)) hC u_10 dX3_lowerToLeast_94 rfl ?_
          refine g_land (pc' := 98) hC dX3_lowerToLeast_97 rfl ?_
          refine g_goto (tgt := 103) hC dX3_lowerToLeast_98 (by decide) ?_
          obtain ⟨g_5, h⟩ := gd_some h
          refine st_la (pc' := 104) hC hv0 g_5 dX3_lowerToLeast_103 rfl ?_
          refine g_iinc (pc' := 107) (i := 6) (x := v6) (k := (1 : Int32)) (lo' := [some (.ref (ea E (32 + v0))), none, some (.int v2), some (.int v3), some (.long v4), none, some (.int (v6 + (1 : Int32))), some (.long ((la v0 (ix v6)) - v4)), none]) hC dX3_lowerToLeast_104 rfl (by decide) rfl rfl rfl rfl ?_
          refine g_goto (tgt := 63) hC dX3_lowerToLeast_107 (by decide) ?_
          refine g_weak (lo' := [some (.ref (ea E (32 + v0))), none, some (.int v2), some (.int v3), some (.long v4), none, some (.int (v6 + (1 : Int32))), none, none]) rfl ?_
          exact hk63 _ _ h
      · refine g_lload (pc' := 112) (i := 4) hC dX3_lowerToLeast_110 rfl rfl ?_
        obtain ⟨rfl, rfl⟩ := inj2 h; exact g_lret hC dX3_lowerToLeast_112
    · refine g_lload (pc' := 112) (i := 4) hC dX3_lowerToLeast_110 rfl rfl ?_
      obtain ⟨rfl, rfl⟩ := inj2 h; exact g_lret hC dX3_lowerToLeast_112)
set_option maxRecDepth 200000 in
theorem c_X3_lowerToLeast (l : Launch) {E : GE} {rr : Int64} {laz : Nat → Nat → Int64} {v0 : Nat} {v1 : Int32} {v2 : Int32} {v3 : Int32} (hv0 : v0 < 3) (h : p_X3_lowerToLeast v0 v1 v2 v3 la = some (rr, laz)) : Met l yX3_lowerToLeast (.code yX3_lowerToLeast cX3_lowerToLeast 9 (some .long) :: gU) rm_X3_lowerToLeast (gP E (xws E xk xo xc xt xn xl rc rv rb la wch wcc wpl wun srow ssp sen str stp swd rwp rdr rpd rpv rpc rzp) [.ref (ea E (32 + v0)), .int v1, .int v2, .int v3]) (gQ E (xws E xk xo xc xt xn xl rc rv rb laz wch wcc wpl wun srow ssp sen str stp swd rwp rdr rpd rpv rpc rzp) (some (.long rr))) 0 0 E.2.2.1 := by
  refine met_of (y := yX3_lowerToLeast) (own := RX3) (lo := [some (.ref (ea E (32 + v0))), some (.int v1), some (.int v2), some (.int v3), none, none, none, none, none]) (by decide) rfl rfl rfl (fun κ hl hC => ?_)
  subst hl
  unfold p_X3_lowerToLeast at h
  refine g_iload_n (pc' := 1) (i := 1) hC dX3_lowerToLeast_0 rfl rfl rfl ?_
  refine g_if_lt (pc' := 4) (tgt := 16) hC dX3_lowerToLeast_1 (by decide) rfl h (fun h => ?_) (fun h => ?_)
  · refine g_lconst (pc' := 17) (v := (0 : Int64)) hC dX3_lowerToLeast_16 (by decide) rfl ?_
    refine g_lstore (pc' := 19) (i := 4) (lo' := [some (.ref (ea E (32 + v0))), some (.int v1), some (.int v2), some (.int v3), some (.long (0 : Int64)), none, none, none, none]) hC dX3_lowerToLeast_17 rfl rfl rfl rfl ?_
    refine g_iload_n (pc' := 20) (i := 1) hC dX3_lowerToLeast_19 rfl rfl rfl ?_
    refine g_iconst (pc' := 21) (v := (0 : Int32)) hC dX3_lowerToLeast_20 (by decide) rfl ?_
    refine g_imax (pc' := 24) hC math_X3_29 (by decide) dX3_lowerToLeast_21 rfl rfl ?_
    refine g_istore (pc' := 26) (i := 6) (lo' := [some (.ref (ea E (32 + v0))), some (.int v1), some (.int v2), some (.int v3), some (.long (0 : Int64)), none, some (.int (imax v1 (0 : Int32))), none, none]) hC dX3_lowerToLeast_24 rfl rfl rfl rfl ?_
    refine w_X3_lowerToLeast_L26 hC hv0 ?_ _ _ _ h
    · intro v4_2 h
      refine g_iload_n (pc' := 57) (i := 1) hC dX3_lowerToLeast_56 rfl rfl rfl ?_
      refine g_iconst (pc' := 58) (v := (0 : Int32)) hC dX3_lowerToLeast_57 (by decide) rfl ?_
      refine g_imax (pc' := 61) hC math_X3_29 (by decide) dX3_lowerToLeast_58 rfl rfl ?_
      refine g_istore (pc' := 63) (i := 6) (lo' := [some (.ref (ea E (32 + v0))), some (.int v1), some (.int v2), some (.int v3), some (.long v4_2), none, some (.int (imax v1 (0 : Int32))), none, none]) hC dX3_lowerToLeast_61 rfl rfl rfl rfl ?_
      refine g_weak (lo' := [some (.ref (ea E (32 + v0))), none, some (.int v2), some (.int v3), some (.long v4_2), none, some (.int (imax v1 (0 : Int32))), none, none]) rfl ?_
      refine w_X3_lowerToLeast_L63 hC hv0  _ _ _ h
  · refine g_iload_n (pc' := 5) (i := 1) hC dX3_lowerToLeast_4 rfl rfl rfl ?_
    refine g_aload_n (pc' := 6) (i := 0) hC dX3_lowerToLeast_5 rfl rfl rfl ?_
    refine al_la (pc' := 7) hC hv0 dX3_lowerToLeast_6 rfl ?_
    refine g_icmp_ge (pc' := 10) (tgt := 16) hC dX3_lowerToLeast_7 (by decide) rfl h (fun h => ?_) (fun h => ?_)
    · refine g_aload_n (pc' := 11) (i := 0) hC dX3_lowerToLeast_10 rfl rfl rfl ?_
      refine g_iload_n (pc' := 12) (i := 1) hC dX3_lowerToLeast_11 rfl rfl rfl ?_
      obtain ⟨g_6, h⟩ := gd_some h
      refine ld_la (pc' := 13) hC hv0 g_6 dX3_lowerToLeast_12 rfl ?_
      refine g_goto (tgt := 17) hC dX3_lowerToLeast_13 (by decide) ?_
      refine g_lstore (pc' := 19) (i := 4) (lo' := [some (.ref (ea E (32 + v0))), some (.int v1), some (.int v2), some (.int v3), some (.long (la v0 (ix v1))), none, none, none, none]) hC dX3_lowerToLeast_17 rfl rfl rfl rfl ?_
      refine g_iload_n (pc' := 20) (i := 1) hC dX3_lowerToLeast_19 rfl rfl rfl ?_
      refine g_iconst (pc' := 21) (v := (0 : Int32)) hC dX3_lowerToLeast_20 (by decide) rfl ?_
      refine g_imax (pc' := 24) hC math_X3_29 (by decide) dX3_lowerToLeast_21 rfl rfl ?_
      refine g_istore (pc' := 26) (i := 6) (lo' := [some (.ref (ea E (32 + v0))), some (.int v1), some (.int v2), some (.int v3), some (.long (la v0 (ix v1))), none, some (.int (imax v1 (0 : Int32))), none, none]) hC dX3_lowerToLeast_24 rfl rfl rfl rfl ?_
      refine w_X3_lowerToLeast_L26 hC hv0 ?_ _ _ _ h
      · intro v4_7 h
        refine g_iload_n (pc' := 57) (i := 1) hC dX3_lowerToLeast_56 rfl rfl rfl ?_
        refine g_iconst (pc' := 58) (v := (0 : Int32)) hC dX3_lowerToLeast_57 (by decide) rfl ?_
        refine g_imax (pc' := 61) hC math_X3_29 (by decide) dX3_lowerToLeast_58 rfl rfl ?_
        refine g_istore (pc' := 63) (i := 6) (lo' := [some (.ref (ea E (32 + v0))), some (.int v1), some (.int v2), some (.int v3), some (.long v4_7), none, some (.int (imax v1 (0 : Int32))), none, none]) hC dX3_lowerToLeast_61 rfl rfl rfl rfl ?_
        refine g_weak (lo' := [some (.ref (ea E (32 + v0))), none, some (.int v2), some (.int v3), some (.long v4_7), none, some (.int (imax v1 (0 : Int32))), none, none]) rfl ?_
        refine w_X3_lowerToLeast_L63 hC hv0  _ _ _ h
    · refine g_lconst (pc' := 17) (v := (0 : Int64)) hC dX3_lowerToLeast_16 (by decide) rfl ?_
      refine g_lstore (pc' := 19) (i := 4) (lo' := [some (.ref (ea E (32 + v0))), some (.int v1), some (.int v2), some (.int v3), some (.long (0 : Int64)), none, none, none, none]) hC dX3_lowerToLeast_17 rfl rfl rfl rfl ?_
      refine g_iload_n (pc' := 20) (i := 1) hC dX3_lowerToLeast_19 rfl rfl rfl ?_
      refine g_iconst (pc' := 21) (v := (0 : Int32)) hC dX3_lowerToLeast_20 (by decide) rfl ?_
      refine g_imax (pc' := 24) hC math_X3_29 (by decide) dX3_lowerToLeast_21 rfl rfl ?_
      refine g_istore (pc' := 26) (i := 6) (lo' := [some (.ref (ea E (32 + v0))), some (.int v1), some (.int v2), some (.int v3), some (.long (0 : Int64)), none, some (.int (imax v1 (0 : Int32))), none, none]) hC dX3_lowerToLeast_24 rfl rfl rfl rfl ?_
      refine w_X3_lowerToLeast_L26 hC hv0 ?_ _ _ _ h
      · intro v4_8 h
        refine g_iload_n (pc' := 57) (i := 1) hC dX3_lowerToLeast_56 rfl rfl rfl ?_
        refine g_iconst (pc' := 58) (v := (0 : Int32)) hC dX3_lowerToLeast_57 (by decide) rfl ?_
        refine g_imax (pc' := 61) hC math_X3_29 (by decide) dX3_lowerToLeast_58 rfl rfl ?_
        refine g_istore (pc' := 63) (i := 6) (lo' := [some (.ref (ea E (32 + v0))), some (.int v1), some (.int v2), some (.int v3), some (.long v4_8), none, some (.int (imax v1 (0 : Int32))), none, none]) hC dX3_lowerToLeast_61 rfl rfl rfl rfl ?_
        refine g_weak (lo' := [some (.ref (ea E (32 + v0))), none, some (.int v2), some (.int v3), some (.long v4_8), none, some (.int (imax v1 (0 : Int32))), none, none]) rfl ?_
        refine w_X3_lowerToLeast_L63 hC hv0  _ _ _ h
set_option maxRecDepth 200000 in
theorem w_X3_partWidth_L9 {κ : GK} {E : GE} {rr : Int32} {v0 : Nat} {v1 : Int32} {v2 : Int32}  (hC : gC κ E cX3_partWidth RX3 (some .int) rm_X3_partWidth 6) (hv0 : v0 < 3)  : ∀ (n : Nat) (v3 : Int64) (v5 : Int32), itr2 (p_X3_partWidth_L9 v0 v1 v2 la) n v3 v5 = some rr → GG κ E (xws E xk xo xc xt xn xl rc rv rb la wch wcc wpl wun srow ssp sen str stp swd rwp rdr rpd rpv rpc rzp, some (.int rr)) (xws E xk xo xc xt xn xl rc rv rb la wch wcc wpl wun srow ssp sen str stp swd rwp rdr rpd rpv rpc rzp) 9 [some (.ref (ea E (32 + v0))), some (.int v1), some (.int v2), some (.long v3), none, some (.int v5)] [] :=
  itr2_ind (fun k9 hk9 v3 v5 h => by
    unfold p_X3_partWidth_L9 at h
    refine g_iload (pc' := 11) (i := 5) hC dX3_partWidth_9 rfl rfl ?_
    refine g_iload_n (pc' := 12) (i := 1) hC dX3_partWidth_11 rfl rfl rfl ?_
    refine g_bipush (pc' := 14) (v := (32 : Int32)) hC dX3_partWidth_12 (by decide) rfl ?_
    refine g_iadd (pc' := 15) hC dX3_partWidth_14 rfl ?_
    refine g_icmp_ge (pc' := 18) (tgt := 44) hC dX3_partWidth_15 (by decide) rfl h (fun h => ?_) (fun h => ?_)
    · refine g_iload (pc' := 20) (i := 5) hC dX3_partWidth_18 rfl rfl ?_
      refine g_iload_n (pc' := 21) (i := 2) hC dX3_partWidth_20 rfl rfl rfl ?_
      refine g_icmp_ge (pc' := 24) (tgt := 44) hC dX3_partWidth_21 (by decide) rfl h (fun h => ?_) (fun h => ?_)
      · refine g_iload (pc' := 26) (i := 5) hC dX3_partWidth_24 rfl rfl ?_
        refine g_aload_n (pc' := 27) (i := 0) hC dX3_partWidth_26 rfl rfl rfl ?_
        refine al_la (pc' := 28) hC hv0 dX3_partWidth_27 rfl ?_
        refine g_icmp_ge (pc' := 31) (tgt := 44) hC dX3_partWidth_28 (by decide) rfl h (fun h => ?_) (fun h => ?_)
        · refine g_lload_n (pc' := 32) (i := 3) hC dX3_partWidth_31 rfl rfl rfl ?_
          refine g_aload_n (pc' := 33) (i := 0) hC dX3_partWidth_32 rfl rfl rfl ?_
          refine g_iload (pc' := 35) (i := 5) hC dX3_partWidth_33 rfl rfl ?_
          obtain ⟨g_1, h⟩ := gd_some h
          refine ld_la (pc' := 36) hC hv0 g_1 dX3_partWidth_35 rfl ?_
          refine g_lor (pc' := 37) hC dX3_partWidth_36 rfl ?_
          refine g_lstore_n (pc' := 38) (i := 3) (lo' := [some (.ref (ea E (32 + v0))), some (.int v1), some (.int v2), some (.long (v3 ||| (la v0 (ix v5)))), none, some (.int v5)]) hC dX3_partWidth_37 rfl rfl rfl rfl rfl ?_
          refine g_iinc (pc' := 41) (i := 5) (x := v5) (k := (1 : Int32)) (lo' := [some (.ref (ea E (32 + v0))), some (.int v1), some (.int v2), some (.long (v3 ||| (la v0 (ix v5)))), none, some (.int (v5 + (1 : Int32)))]) hC dX3_partWidth_38 rfl (by decide) rfl rfl rfl rfl ?_
          refine g_goto (tgt := 9) hC dX3_partWidth_41 (by decide) ?_
          exact hk9 _ _ h
        · refine g_lload_n (pc' := 45) (i := 3) hC dX3_partWidth_44 rfl rfl rfl ?_
          obtain ⟨a_2, hc_3, h⟩ := bd1_some h
          refine g_callN (pc' := 48) hC (c_X5_bitsOf _ hc_3) ml_X3_94  (by decide) rfl rfl rfl dX3_partWidth_45 rfl ?_
          obtain rfl := inj1 h; exact g_iret hC dX3_partWidth_48
      · refine g_lload_n (pc' := 45) (i := 3) hC dX3_partWidth_44 rfl rfl rfl ?_
        obtain ⟨a_4, hc_5, h⟩ := bd1_some h
        refine g_callN (pc' := 48) hC (c_X5_bitsOf _ hc_5) ml_X3_94  (by decide) rfl rfl rfl dX3_partWidth_45 rfl ?_
        obtain rfl := inj1 h; exact g_iret hC dX3_partWidth_48
    · refine g_lload_n (pc' := 45) (i := 3) hC dX3_partWidth_44 rfl rfl rfl ?_
      obtain ⟨a_6, hc_7, h⟩ := bd1_some h
      refine g_callN (pc' := 48) hC (c_X5_bitsOf _ hc_7) ml_X3_94  (by decide) rfl rfl rfl dX3_partWidth_45 rfl ?_
      obtain rfl := inj1 h; exact g_iret hC dX3_partWidth_48)
set_option maxRecDepth 200000 in
theorem c_X3_partWidth (l : Launch) {E : GE} {rr : Int32} {v0 : Nat} {v1 : Int32} {v2 : Int32} (hv0 : v0 < 3) (h : p_X3_partWidth v0 v1 v2 la = some rr) : Met l yX3_partWidth (.code yX3_partWidth cX3_partWidth 6 (some .int) :: gU) rm_X3_partWidth (gP E (xws E xk xo xc xt xn xl rc rv rb la wch wcc wpl wun srow ssp sen str stp swd rwp rdr rpd rpv rpc rzp) [.ref (ea E (32 + v0)), .int v1, .int v2]) (gQ E (xws E xk xo xc xt xn xl rc rv rb la wch wcc wpl wun srow ssp sen str stp swd rwp rdr rpd rpv rpc rzp) (some (.int rr))) 0 0 E.2.2.1 := by
  refine met_of (y := yX3_partWidth) (own := RX3) (lo := [some (.ref (ea E (32 + v0))), some (.int v1), some (.int v2), none, none, none]) (by decide) rfl rfl rfl (fun κ hl hC => ?_)
  subst hl
  unfold p_X3_partWidth at h
  refine g_lconst (pc' := 1) (v := (0 : Int64)) hC dX3_partWidth_0 (by decide) rfl ?_
  refine g_lstore_n (pc' := 2) (i := 3) (lo' := [some (.ref (ea E (32 + v0))), some (.int v1), some (.int v2), some (.long (0 : Int64)), none, none]) hC dX3_partWidth_1 rfl rfl rfl rfl rfl ?_
  refine g_iload_n (pc' := 3) (i := 1) hC dX3_partWidth_2 rfl rfl rfl ?_
  refine g_iconst (pc' := 4) (v := (0 : Int32)) hC dX3_partWidth_3 (by decide) rfl ?_
  refine g_imax (pc' := 7) hC math_X3_29 (by decide) dX3_partWidth_4 rfl rfl ?_
  refine g_istore (pc' := 9) (i := 5) (lo' := [some (.ref (ea E (32 + v0))), some (.int v1), some (.int v2), some (.long (0 : Int64)), none, some (.int (imax v1 (0 : Int32)))]) hC dX3_partWidth_7 rfl rfl rfl rfl ?_
  refine w_X3_partWidth_L9 hC hv0  _ _ _ h
set_option maxRecDepth 200000 in
theorem w_X3_pushBlock_L22 {κ : GK} {E : GE} {rcz : Nat → Int32} {rvz : Nat → Int32} {rbz : Nat → Nat → Int32} {laz : Nat → Nat → Int64} {v0 : Nat} {v1 : Nat} {v2 : Int32} {v3 : Int32} {k50 : (Nat → Int32) → (Nat → Int32) → (Nat → Nat → Int32) → Option ((Nat → Int32) × (Nat → Int32) × (Nat → Nat → Int32) × (Nat → Nat → Int64))} (hC : gC κ E cX3_pushBlock RX3 none rm_X3_pushBlock 9) (hv0 : v0 < 4) (hv1 : v1 < 3) (hk50 : ∀ (rc : Nat → Int32) (rv : Nat → Int32) (rb : Nat → Nat → Int32), k50 rc rv rb = some (rcz, rvz, rbz, laz) → GG κ E (xws E xk xo xc xt xn xl rcz rvz rbz laz wch wcc wpl wun srow ssp sen str stp swd rwp rdr rpd rpv rpc rzp, none) (xws E xk xo xc xt xn xl rc rv rb la wch wcc wpl wun srow ssp sen str stp swd rwp rdr rpd rpv rpc rzp) 50 [some (.ref (ea E (24 + 2 * v0))), some (.ref (ea E (32 + v1))), some (.int v2), some (.int v3), none, none, none, none, none] []) : ∀ (n : Nat) (v7 : Int32) (rc : Nat → Int32) (rv : Nat → Int32) (rb : Nat → Nat → Int32), itr4 (p_X3_pushBlock_L22 v0 v1 v2 v3 la k50) n v7 rc rv rb = some (rcz, rvz, rbz, laz) → GG κ E (xws E xk xo xc xt xn xl rcz rvz rbz laz wch wcc wpl wun srow ssp sen str stp swd rwp rdr rpd rpv rpc rzp, none) (xws E xk xo xc xt xn xl rc rv rb la wch wcc wpl wun srow ssp sen str stp swd rwp rdr rpd rpv rpc rzp) 22 [some (.ref (ea E (24 + 2 * v0))), some (.ref (ea E (32 + v1))), some (.int v2), some (.int v3), none, none, none, some (.int v7), none] [] :=
  itr4_ind (fun k22 hk22 v7 rc rv rb h => by
    unfold p_X3_pushBlock_L22 at h
    refine g_iload (pc' := 24) (i := 7) hC dX3_pushBlock_22 rfl rfl ?_
    refine g_iconst (pc' := 25) (v := (4 : Int32)) hC dX3_pushBlock_24 (by decide) rfl ?_
    refine g_icmp_ge (pc' := 28) (tgt := 50) hC dX3_pushBlock_25 (by decide) rfl h (fun h => ?_) (fun h => ?_)
    · refine g_aload_n (pc' := 29) (i := 0) hC dX3_pushBlock_28 rfl rfl rfl ?_
      refine g_aload_n (pc' := 30) (i := 1) hC dX3_pushBlock_29 rfl rfl rfl ?_
      refine g_iload_n (pc' := 31) (i := 2) hC dX3_pushBlock_30 rfl rfl rfl ?_
      refine g_iload (pc' := 33) (i := 7) hC dX3_pushBlock_31 rfl rfl ?_
      refine g_bipush (pc' := 35) (v := (32 : Int32)) hC dX3_pushBlock_33 (by decide) rfl ?_
      refine g_imul (pc' := 36) hC dX3_pushBlock_35 rfl ?_
      refine g_iadd (pc' := 37) hC dX3_pushBlock_36 rfl ?_
      refine g_iload_n (pc' := 38) (i := 3) hC dX3_pushBlock_37 rfl rfl rfl ?_
      obtain ⟨a_10, hc_11, h⟩ := bd1_some h
      refine g_callS (pc' := 41) hC (c_X3_partWidth _ hv1 hc_11) ml_X3_86  (by decide) rfl rfl rfl dX3_pushBlock_38 rfl ?_
      obtain ⟨rc_12, rv_13, rb_14, hc_15, h⟩ := bd3_some h
      refine g_callV (pc' := 44) hC (c_X3_push _ hv0 hc_15) ml_X3_36 (rc_Row hv0) (by decide) rfl rfl rfl rfl dX3_pushBlock_41 rfl ?_
      refine g_iinc (pc' := 47) (i := 7) (x := v7) (k := (1 : Int32)) (lo' := [some (.ref (ea E (24 + 2 * v0))), some (.ref (ea E (32 + v1))), some (.int v2), some (.int v3), none, none, none, some (.int (v7 + (1 : Int32))), none]) hC dX3_pushBlock_44 rfl (by decide) rfl rfl rfl rfl ?_
      refine g_goto (tgt := 22) hC dX3_pushBlock_47 (by decide) ?_
      exact hk22 _ _ _ _ h
    · refine g_weak (lo' := [some (.ref (ea E (24 + 2 * v0))), some (.ref (ea E (32 + v1))), some (.int v2), some (.int v3), none, none, none, none, none]) rfl ?_
      exact hk50 _ _ _ h)
set_option maxRecDepth 200000 in
theorem w_X3_pushBlock_L53 {κ : GK} {E : GE} {rcz : Nat → Int32} {rvz : Nat → Int32} {rbz : Nat → Nat → Int32} {laz : Nat → Nat → Int64} {v0 : Nat} {v1 : Nat} {v2 : Int32} {v3 : Int32}  (hC : gC κ E cX3_pushBlock RX3 none rm_X3_pushBlock 9) (hv0 : v0 < 4) (hv1 : v1 < 3)  : ∀ (n : Nat) (v7 : Int32) (rc : Nat → Int32) (rv : Nat → Int32) (rb : Nat → Nat → Int32), itr4 (p_X3_pushBlock_L53 v0 v1 v2 v3 la) n v7 rc rv rb = some (rcz, rvz, rbz, laz) → GG κ E (xws E xk xo xc xt xn xl rcz rvz rbz laz wch wcc wpl wun srow ssp sen str stp swd rwp rdr rpd rpv rpc rzp, none) (xws E xk xo xc xt xn xl rc rv rb la wch wcc wpl wun srow ssp sen str stp swd rwp rdr rpd rpv rpc rzp) 53 [some (.ref (ea E (24 + 2 * v0))), some (.ref (ea E (32 + v1))), some (.int v2), some (.int v3), none, none, none, some (.int v7), none] [] :=
  itr4_ind (fun k53 hk53 v7 rc rv rb h => by
    unfold p_X3_pushBlock_L53 at h
    refine g_iload (pc' := 55) (i := 7) hC dX3_pushBlock_53 rfl rfl ?_
    refine g_iconst (pc' := 56) (v := (4 : Int32)) hC dX3_pushBlock_55 (by decide) rfl ?_
    refine g_icmp_ge (pc' := 59) (tgt := 97) hC dX3_pushBlock_56 (by decide) rfl h (fun h => ?_) (fun h => ?_)
    · refine g_iload_n (pc' := 60) (i := 2) hC dX3_pushBlock_59 rfl rfl rfl ?_
      refine g_iload (pc' := 62) (i := 7) hC dX3_pushBlock_60 rfl rfl ?_
      refine g_bipush (pc' := 64) (v := (32 : Int32)) hC dX3_pushBlock_62 (by decide) rfl ?_
      refine g_imul (pc' := 65) hC dX3_pushBlock_64 rfl ?_
      refine g_iadd (pc' := 66) hC dX3_pushBlock_65 rfl ?_
      refine g_istore (pc' := 68) (i := 8) (lo' := [some (.ref (ea E (24 + 2 * v0))), some (.ref (ea E (32 + v1))), some (.int v2), some (.int v3), none, none, none, some (.int v7), some (.int (v2 + (v7 * (32 : Int32))))]) hC dX3_pushBlock_66 rfl rfl rfl rfl ?_
      refine g_iload (pc' := 70) (i := 8) hC dX3_pushBlock_68 rfl rfl ?_
      refine g_iload_n (pc' := 71) (i := 3) hC dX3_pushBlock_70 rfl rfl rfl ?_
      refine g_icmp_ge (pc' := 74) (tgt := 91) hC dX3_pushBlock_71 (by decide) rfl h (fun h => ?_) (fun h => ?_)
      · refine g_aload_n (pc' := 75) (i := 0) hC dX3_pushBlock_74 rfl rfl rfl ?_
        refine g_aload_n (pc' := 76) (i := 1) hC dX3_pushBlock_75 rfl rfl rfl ?_
        refine g_iload (pc' := 78) (i := 8) hC dX3_pushBlock_76 rfl rfl ?_
        refine g_iload_n (pc' := 79) (i := 3) hC dX3_pushBlock_78 rfl rfl rfl ?_
        refine g_bipush (pc' := 81) (v := (32 : Int32)) hC dX3_pushBlock_79 (by decide) rfl ?_
        refine g_aload_n (pc' := 82) (i := 1) hC dX3_pushBlock_81 rfl rfl rfl ?_
        refine g_iload (pc' := 84) (i := 8) hC dX3_pushBlock_82 rfl rfl ?_
        refine g_iload_n (pc' := 85) (i := 3) hC dX3_pushBlock_84 rfl rfl rfl ?_
        obtain ⟨a_19, hc_20, h⟩ := bd1_some h
        refine g_callS (pc' := 88) hC (c_X3_partWidth _ hv1 hc_20) ml_X3_86  (by decide) rfl rfl rfl dX3_pushBlock_85 rfl ?_
        obtain ⟨rc_21, rv_22, rb_23, hc_24, h⟩ := bd3_some h
        refine g_callV (pc' := 91) hC (c_X3_pushPacked _ hv0 hv1 hc_24) ml_X3_66 (rc_Row hv0) (by decide) rfl rfl rfl rfl dX3_pushBlock_88 rfl ?_
        refine g_iinc (pc' := 94) (i := 7) (x := v7) (k := (1 : Int32)) (lo' := [some (.ref (ea E (24 + 2 * v0))), some (.ref (ea E (32 + v1))), some (.int v2), some (.int v3), none, none, none, some (.int (v7 + (1 : Int32))), some (.int (v2 + (v7 * (32 : Int32))))]) hC dX3_pushBlock_91 rfl (by decide) rfl rfl rfl rfl ?_
        refine g_goto (tgt := 53) hC dX3_pushBlock_94 (by decide) ?_
        refine g_weak (lo' := [some (.ref (ea E (24 + 2 * v0))), some (.ref (ea E (32 + v1))), some (.int v2), some (.int v3), none, none, none, some (.int (v7 + (1 : Int32))), none]) rfl ?_
        exact hk53 _ _ _ _ h
      · refine g_iinc (pc' := 94) (i := 7) (x := v7) (k := (1 : Int32)) (lo' := [some (.ref (ea E (24 + 2 * v0))), some (.ref (ea E (32 + v1))), some (.int v2), some (.int v3), none, none, none, some (.int (v7 + (1 : Int32))), some (.int (v2 + (v7 * (32 : Int32))))]) hC dX3_pushBlock_91 rfl (by decide) rfl rfl rfl rfl ?_
        refine g_goto (tgt := 53) hC dX3_pushBlock_94 (by decide) ?_
        refine g_weak (lo' := [some (.ref (ea E (24 + 2 * v0))), some (.ref (ea E (32 + v1))), some (.int v2), some (.int v3), none, none, none, some (.int (v7 + (1 : Int32))), none]) rfl ?_
        exact hk53 _ _ _ _ h
    · obtain ⟨rfl, rfl, rfl, rfl⟩ := inj4 h; exact g_vret hC dX3_pushBlock_97)
set_option maxRecDepth 200000 in
theorem c_X3_pushBlock (l : Launch) {E : GE} {rcz : Nat → Int32} {rvz : Nat → Int32} {rbz : Nat → Nat → Int32} {laz : Nat → Nat → Int64} {v0 : Nat} {v1 : Nat} {v2 : Int32} {v3 : Int32} {v4 : Int32} (hv0 : v0 < 4) (hv1 : v1 < 3) (h : p_X3_pushBlock v0 v1 v2 v3 v4 rc rv rb la = some (rcz, rvz, rbz, laz)) : Met l yX3_pushBlock (.code yX3_pushBlock cX3_pushBlock 9 none :: gU) rm_X3_pushBlock (gP E (xws E xk xo xc xt xn xl rc rv rb la wch wcc wpl wun srow ssp sen str stp swd rwp rdr rpd rpv rpc rzp) [.ref (ea E (24 + 2 * v0)), .ref (ea E (32 + v1)), .int v2, .int v3, .int v4]) (gQ E (xws E xk xo xc xt xn xl rcz rvz rbz laz wch wcc wpl wun srow ssp sen str stp swd rwp rdr rpd rpv rpc rzp) none) 0 0 E.2.2.1 := by
  refine met_of (y := yX3_pushBlock) (own := RX3) (lo := [some (.ref (ea E (24 + 2 * v0))), some (.ref (ea E (32 + v1))), some (.int v2), some (.int v3), some (.int v4), none, none, none, none]) (by decide) rfl rfl rfl (fun κ hl hC => ?_)
  subst hl
  unfold p_X3_pushBlock at h
  refine g_aload_n (pc' := 1) (i := 1) hC dX3_pushBlock_0 rfl rfl rfl ?_
  refine g_iload_n (pc' := 2) (i := 2) hC dX3_pushBlock_1 rfl rfl rfl ?_
  refine g_iload_n (pc' := 3) (i := 3) hC dX3_pushBlock_2 rfl rfl rfl ?_
  refine g_iload (pc' := 5) (i := 4) hC dX3_pushBlock_3 rfl rfl ?_
  obtain ⟨a_1, la_2, hc_3, h⟩ := bd2_some h
  refine g_callS (pc' := 8) hC (c_X3_lowerToLeast _ hv1 hc_3) ml_X3_82  (by decide) rfl rfl rfl dX3_pushBlock_5 rfl ?_
  refine g_lstore (pc' := 10) (i := 5) (lo' := [some (.ref (ea E (24 + 2 * v0))), some (.ref (ea E (32 + v1))), some (.int v2), some (.int v3), some (.int v4), some (.long a_1), none, none, none]) hC dX3_pushBlock_8 rfl rfl rfl rfl ?_
  refine g_aload_n (pc' := 11) (i := 0) hC dX3_pushBlock_10 rfl rfl rfl ?_
  refine g_lload (pc' := 13) (i := 5) hC dX3_pushBlock_11 rfl rfl ?_
  obtain ⟨a_4, hc_5, h⟩ := bd1_some h
  refine g_callN (pc' := 16) hC (c_X5_zigged _ hc_5) ml_X3_74  (by decide) rfl rfl rfl dX3_pushBlock_13 rfl ?_
  obtain ⟨rc_6, rv_7, rb_8, hc_9, h⟩ := bd3_some h
  refine g_callV (pc' := 19) hC (c_X3_pushVar _ hv0 hc_9) ml_X3_52 (rc_Row hv0) (by decide) rfl rfl rfl rfl dX3_pushBlock_16 rfl ?_
  refine g_iconst (pc' := 20) (v := (0 : Int32)) hC dX3_pushBlock_19 (by decide) rfl ?_
  refine g_istore (pc' := 22) (i := 7) (lo' := [some (.ref (ea E (24 + 2 * v0))), some (.ref (ea E (32 + v1))), some (.int v2), some (.int v3), some (.int v4), some (.long a_1), none, some (.int (0 : Int32)), none]) hC dX3_pushBlock_20 rfl rfl rfl rfl ?_
  refine g_weak (lo' := [some (.ref (ea E (24 + 2 * v0))), some (.ref (ea E (32 + v1))), some (.int v2), some (.int v3), none, none, none, some (.int (0 : Int32)), none]) rfl ?_
  refine w_X3_pushBlock_L22 hC hv0 hv1 ?_ _ _ _ _ _ h
  · intro rc_16 rv_17 rb_18 h
    refine g_iconst (pc' := 51) (v := (0 : Int32)) hC dX3_pushBlock_50 (by decide) rfl ?_
    refine g_istore (pc' := 53) (i := 7) (lo' := [some (.ref (ea E (24 + 2 * v0))), some (.ref (ea E (32 + v1))), some (.int v2), some (.int v3), none, none, none, some (.int (0 : Int32)), none]) hC dX3_pushBlock_51 rfl rfl rfl rfl ?_
    refine w_X3_pushBlock_L53 hC hv0 hv1  _ _ _ _ _ h
set_option maxRecDepth 200000 in
theorem w_X3_pushDifferences_L53 {κ : GK} {E : GE} {rcz : Nat → Int32} {rvz : Nat → Int32} {rbz : Nat → Nat → Int32} {laz : Nat → Nat → Int64} {v0 : Nat} {v1 : Nat} {v2 : Int32} {v3 : Int32} {k94 : (Nat → Nat → Int64) → Option ((Nat → Int32) × (Nat → Int32) × (Nat → Nat → Int32) × (Nat → Nat → Int64))} (hC : gC κ E cX3_pushDifferences RX3 none rm_X3_pushDifferences 7) (hv0 : v0 < 4) (hv1 : v1 < 3) (hk94 : ∀ (la : Nat → Nat → Int64), k94 la = some (rcz, rvz, rbz, laz) → GG κ E (xws E xk xo xc xt xn xl rcz rvz rbz laz wch wcc wpl wun srow ssp sen str stp swd rwp rdr rpd rpv rpc rzp, none) (xws E xk xo xc xt xn xl rc rv rb la wch wcc wpl wun srow ssp sen str stp swd rwp rdr rpd rpv rpc rzp) 94 [some (.ref (ea E (24 + 2 * v0))), some (.ref (ea E (32 + v1))), some (.int v2), some (.int v3), none, none, none] []) : ∀ (n : Nat) (v4 : Int32) (la : Nat → Nat → Int64), itr2 (p_X3_pushDifferences_L53 v1 v3 k94) n v4 la = some (rcz, rvz, rbz, laz) → GG κ E (xws E xk xo xc xt xn xl rcz rvz rbz laz wch wcc wpl wun srow ssp sen str stp swd rwp rdr rpd rpv rpc rzp, none) (xws E xk xo xc xt xn xl rc rv rb la wch wcc wpl wun srow ssp sen str stp swd rwp rdr rpd rpv rpc rzp) 53 [some (.ref (ea E (24 + 2 * v0))), some (.ref (ea E (32 + v1))), some (.int v2), some (.int v3), some (.int v4), none, none] [] :=
  itr2_ind (fun k53 hk53 v4 la h => by
    unfold p_X3_pushDifferences_L53 at h
    refine g_iload (pc' := 55) (i := 4) hC dX3_pushDifferences_53 rfl rfl ?_
    refine g_if_le (pc' := 58) (tgt := 94) hC dX3_pushDifferences_55 (by decide) rfl h (fun h => ?_) (fun h => ?_)
    · refine g_aload_n (pc' := 59) (i := 1) hC dX3_pushDifferences_58 rfl rfl rfl ?_
      refine g_iload (pc' := 61) (i := 4) hC dX3_pushDifferences_59 rfl rfl ?_
      obtain ⟨g_20, h⟩ := gd_some h
      refine ld_la (pc' := 62) hC hv1 g_20 dX3_pushDifferences_61 rfl ?_
      refine g_aload_n (pc' := 63) (i := 1) hC dX3_pushDifferences_62 rfl rfl rfl ?_
      refine g_iload (pc' := 65) (i := 4) hC dX3_pushDifferences_63 rfl rfl ?_
      refine g_iconst (pc' := 66) (v := (1 : Int32)) hC dX3_pushDifferences_65 (by decide) rfl ?_
      refine g_isub (pc' := 67) hC dX3_pushDifferences_66 rfl ?_
      obtain ⟨g_21, h⟩ := gd_some h
      refine ld_la (pc' := 68) hC hv1 g_21 dX3_pushDifferences_67 rfl ?_
      refine g_lsub (pc' := 69) hC dX3_pushDifferences_68 rfl ?_
      refine g_lstore (pc' := 71) (i := 5) (lo' := [some (.ref (ea E (24 + 2 * v0))), some (.ref (ea E (32 + v1))), some (.int v2), some (.int v3), some (.int v4), some (.long ((la v1 (ix v4)) - (la v1 (ix (v4 - (1 : Int32)))))), none]) hC dX3_pushDifferences_69 rfl rfl rfl rfl ?_
      refine g_aload_n (pc' := 72) (i := 1) hC dX3_pushDifferences_71 rfl rfl rfl ?_
      refine g_iload (pc' := 74) (i := 4) hC dX3_pushDifferences_72 rfl rfl ?_
      refine g_iload_n (pc' := 75) (i := 3) hC dX3_pushDifferences_74 rfl rfl rfl ?_
      refine g_if_eq (pc' := 78) (tgt := 85) hC dX3_pushDifferences_75 (by decide) rfl h (fun h => ?_) (fun h => ?_)
      · refine g_lload (pc' := 87) (i := 5) hC dX3_pushDifferences_85 rfl rfl ?_
        obtain ⟨g_22, h⟩ := gd_some h
        refine st_la (pc' := 88) hC hv1 g_22 dX3_pushDifferences_87 rfl ?_
        refine g_iinc (pc' := 91) (i := 4) (x := v4) (k := (-1 : Int32)) (lo' := [some (.ref (ea E (24 + 2 * v0))), some (.ref (ea E (32 + v1))), some (.int v2), some (.int v3), some (.int (v4 + (-1 : Int32))), some (.long ((la v1 (ix v4)) - (la v1 (ix (v4 - (1 : Int32)))))), none]) hC dX3_pushDifferences_88 rfl (by decide) rfl rfl rfl rfl ?_
        refine g_goto (tgt := 53) hC dX3_pushDifferences_91 (by decide) ?_
        refine g_weak (lo' := [some (.ref (ea E (24 + 2 * v0))), some (.ref (ea E (32 + v1))), some (.int v2), some (.int v3), some (.int (v4 + (-1 : Int32))), none, none]) rfl ?_
        exact hk53 _ _ h
      · refine g_lload (pc' := 80) (i := 5) hC dX3_pushDifferences_78 rfl rfl ?_
        refine g_l2i (pc' := 81) hC dX3_pushDifferences_80 rfl ?_
        refine g_i2l (pc' := 82) hC dX3_pushDifferences_81 rfl ?_
        refine g_goto (tgt := 87) hC dX3_pushDifferences_82 (by decide) ?_
        obtain ⟨g_23, h⟩ := gd_some h
        refine st_la (pc' := 88) hC hv1 g_23 dX3_pushDifferences_87 rfl ?_
        refine g_iinc (pc' := 91) (i := 4) (x := v4) (k := (-1 : Int32)) (lo' := [some (.ref (ea E (24 + 2 * v0))), some (.ref (ea E (32 + v1))), some (.int v2), some (.int v3), some (.int (v4 + (-1 : Int32))), some (.long ((la v1 (ix v4)) - (la v1 (ix (v4 - (1 : Int32)))))), none]) hC dX3_pushDifferences_88 rfl (by decide) rfl rfl rfl rfl ?_
        refine g_goto (tgt := 53) hC dX3_pushDifferences_91 (by decide) ?_
        refine g_weak (lo' := [some (.ref (ea E (24 + 2 * v0))), some (.ref (ea E (32 + v1))), some (.int v2), some (.int v3), some (.int (v4 + (-1 : Int32))), none, none]) rfl ?_
        exact hk53 _ _ h
    · refine g_weak (lo' := [some (.ref (ea E (24 + 2 * v0))), some (.ref (ea E (32 + v1))), some (.int v2), some (.int v3), none, none, none]) rfl ?_
      exact hk94 _ h)
set_option maxRecDepth 200000 in
theorem w_X3_pushDifferences_L97 {κ : GK} {E : GE} {rcz : Nat → Int32} {rvz : Nat → Int32} {rbz : Nat → Nat → Int32} {laz : Nat → Nat → Int64} {v0 : Nat} {v1 : Nat} {v2 : Int32} {v3 : Int32}  (hC : gC κ E cX3_pushDifferences RX3 none rm_X3_pushDifferences 7) (hv0 : v0 < 4) (hv1 : v1 < 3)  : ∀ (n : Nat) (v4 : Int32) (rc : Nat → Int32) (rv : Nat → Int32) (rb : Nat → Nat → Int32) (la : Nat → Nat → Int64), itr5 (p_X3_pushDifferences_L97 v0 v1 v2 v3) n v4 rc rv rb la = some (rcz, rvz, rbz, laz) → GG κ E (xws E xk xo xc xt xn xl rcz rvz rbz laz wch wcc wpl wun srow ssp sen str stp swd rwp rdr rpd rpv rpc rzp, none) (xws E xk xo xc xt xn xl rc rv rb la wch wcc wpl wun srow ssp sen str stp swd rwp rdr rpd rpv rpc rzp) 97 [some (.ref (ea E (24 + 2 * v0))), some (.ref (ea E (32 + v1))), some (.int v2), some (.int v3), some (.int v4), none, none] [] :=
  itr5_ind (fun k97 hk97 v4 rc rv rb la h => by
    unfold p_X3_pushDifferences_L97 at h
    refine g_iload (pc' := 99) (i := 4) hC dX3_pushDifferences_97 rfl rfl ?_
    refine g_iload_n (pc' := 100) (i := 2) hC dX3_pushDifferences_99 rfl rfl rfl ?_
    refine g_icmp_ge (pc' := 103) (tgt := 135) hC dX3_pushDifferences_100 (by decide) rfl h (fun h => ?_) (fun h => ?_)
    · refine g_aload_n (pc' := 104) (i := 0) hC dX3_pushDifferences_103 rfl rfl rfl ?_
      refine g_aload_n (pc' := 105) (i := 1) hC dX3_pushDifferences_104 rfl rfl rfl ?_
      refine g_iload (pc' := 107) (i := 4) hC dX3_pushDifferences_105 rfl rfl ?_
      refine g_iload (pc' := 109) (i := 4) hC dX3_pushDifferences_107 rfl rfl ?_
      refine g_sipush (pc' := 112) (v := (128 : Int32)) hC dX3_pushDifferences_109 (by decide) rfl ?_
      refine g_iadd (pc' := 113) hC dX3_pushDifferences_112 rfl ?_
      refine g_iload_n (pc' := 114) (i := 2) hC dX3_pushDifferences_113 rfl rfl rfl ?_
      refine g_imin (pc' := 117) hC math_X3_23 (by decide) dX3_pushDifferences_114 rfl rfl ?_
      refine g_aload_n (pc' := 118) (i := 1) hC dX3_pushDifferences_117 rfl rfl rfl ?_
      refine al_la (pc' := 119) hC hv1 dX3_pushDifferences_118 rfl ?_
      refine g_imin (pc' := 122) hC math_X3_23 (by decide) dX3_pushDifferences_119 rfl rfl ?_
      refine g_iload_n (pc' := 123) (i := 3) hC dX3_pushDifferences_122 rfl rfl rfl ?_
      obtain ⟨rc_25, rv_26, rb_27, la_28, hc_29, h⟩ := bd4_some h
      refine g_callV (pc' := 126) hC (c_X3_pushBlock _ hv0 hv1 hc_29) ml_X3_78 (rc_Row hv0) (by decide) rfl rfl rfl rfl dX3_pushDifferences_123 rfl ?_
      refine g_iincW (pc' := 132) (i := 4) (x := v4) (k := (128 : Int32)) (lo' := [some (.ref (ea E (24 + 2 * v0))), some (.ref (ea E (32 + v1))), some (.int v2), some (.int v3), some (.int (v4 + (128 : Int32))), none, none]) hC dX3_pushDifferences_126 rfl (by decide) rfl rfl rfl rfl ?_
      refine g_goto (tgt := 97) hC dX3_pushDifferences_132 (by decide) ?_
      exact hk97 _ _ _ _ _ h
    · obtain ⟨rfl, rfl, rfl, rfl⟩ := inj4 h; exact g_vret hC dX3_pushDifferences_135)
set_option maxRecDepth 200000 in
theorem w_X3_pushDifferences_J37 {κ : GK} {E : GE} {rcz : Nat → Int32} {rvz : Nat → Int32} {rbz : Nat → Nat → Int32} {laz : Nat → Nat → Int64} {v0 : Nat} {v1 : Nat} {v2 : Int32} {v3 : Int32} {s0 : Nat} {s1 : Int64}  (hC : gC κ E cX3_pushDifferences RX3 none rm_X3_pushDifferences 7) (hv0 : v0 < 4) (hv1 : v1 < 3) (hs0 : s0 < 4)  (h : p_X3_pushDifferences_J37 v0 v1 v2 v3 s0 s1 rc rv rb la = some (rcz, rvz, rbz, laz)) : GG κ E (xws E xk xo xc xt xn xl rcz rvz rbz laz wch wcc wpl wun srow ssp sen str stp swd rwp rdr rpd rpv rpc rzp, none) (xws E xk xo xc xt xn xl rc rv rb la wch wcc wpl wun srow ssp sen str stp swd rwp rdr rpd rpv rpc rzp) 37 [some (.ref (ea E (24 + 2 * v0))), some (.ref (ea E (32 + v1))), some (.int v2), some (.int v3), none, none, none] [.long s1, .ref (ea E (24 + 2 * s0))] := by
  unfold p_X3_pushDifferences_J37 at h
  obtain ⟨a_14, hc_15, h⟩ := bd1_some h
  refine g_callN (pc' := 40) hC (c_X5_zigged _ hc_15) ml_X3_74  (by decide) rfl rfl rfl dX3_pushDifferences_37 rfl ?_
  obtain ⟨rc_16, rv_17, rb_18, hc_19, h⟩ := bd3_some h
  refine g_callV (pc' := 43) hC (c_X3_pushVar _ hs0 hc_19) ml_X3_52 (rc_Row hs0) (by decide) rfl rfl rfl rfl dX3_pushDifferences_40 rfl ?_
  refine g_iload_n (pc' := 44) (i := 2) hC dX3_pushDifferences_43 rfl rfl rfl ?_
  refine g_aload_n (pc' := 45) (i := 1) hC dX3_pushDifferences_44 rfl rfl rfl ?_
  refine al_la (pc' := 46) hC hv1 dX3_pushDifferences_45 rfl ?_
  refine g_imin (pc' := 49) hC math_X3_23 (by decide) dX3_pushDifferences_46 rfl rfl ?_
  refine g_iconst (pc' := 50) (v := (1 : Int32)) hC dX3_pushDifferences_49 (by decide) rfl ?_
  refine g_isub (pc' := 51) hC dX3_pushDifferences_50 rfl ?_
  refine g_istore (pc' := 53) (i := 4) (lo' := [some (.ref (ea E (24 + 2 * v0))), some (.ref (ea E (32 + v1))), some (.int v2), some (.int v3), some (.int ((imin v2 (nI 200)) - (1 : Int32))), none, none]) hC dX3_pushDifferences_51 rfl rfl rfl rfl ?_
  refine w_X3_pushDifferences_L53 hC hv0 hv1 ?_ _ _ _ h
  · intro la_24 h
    refine g_iconst (pc' := 95) (v := (1 : Int32)) hC dX3_pushDifferences_94 (by decide) rfl ?_
    refine g_istore (pc' := 97) (i := 4) (lo' := [some (.ref (ea E (24 + 2 * v0))), some (.ref (ea E (32 + v1))), some (.int v2), some (.int v3), some (.int (1 : Int32)), none, none]) hC dX3_pushDifferences_95 rfl rfl rfl rfl ?_
    refine w_X3_pushDifferences_L97 hC hv0 hv1  _ _ _ _ _ _ h
set_option maxRecDepth 200000 in
theorem w_X3_pushDifferences_J36 {κ : GK} {E : GE} {rcz : Nat → Int32} {rvz : Nat → Int32} {rbz : Nat → Nat → Int32} {laz : Nat → Nat → Int64} {v0 : Nat} {v1 : Nat} {v2 : Int32} {v3 : Int32} {s0 : Nat}  (hC : gC κ E cX3_pushDifferences RX3 none rm_X3_pushDifferences 7) (hv0 : v0 < 4) (hv1 : v1 < 3) (hs0 : s0 < 4)  (h : p_X3_pushDifferences_J36 v0 v1 v2 v3 s0 rc rv rb la = some (rcz, rvz, rbz, laz)) : GG κ E (xws E xk xo xc xt xn xl rcz rvz rbz laz wch wcc wpl wun srow ssp sen str stp swd rwp rdr rpd rpv rpc rzp, none) (xws E xk xo xc xt xn xl rc rv rb la wch wcc wpl wun srow ssp sen str stp swd rwp rdr rpd rpv rpc rzp) 36 [some (.ref (ea E (24 + 2 * v0))), some (.ref (ea E (32 + v1))), some (.int v2), some (.int v3), none, none, none] [.ref (ea E (24 + 2 * s0))] := by
  unfold p_X3_pushDifferences_J36 at h
  refine g_lconst (pc' := 37) (v := (0 : Int64)) hC dX3_pushDifferences_36 (by decide) rfl ?_
  exact w_X3_pushDifferences_J37 hC hv0 hv1 hs0  h
set_option maxRecDepth 200000 in
theorem c_X3_pushDifferences (l : Launch) {E : GE} {rcz : Nat → Int32} {rvz : Nat → Int32} {rbz : Nat → Nat → Int32} {laz : Nat → Nat → Int64} {v0 : Nat} {v1 : Nat} {v2 : Int32} {v3 : Int32} (hv0 : v0 < 4) (hv1 : v1 < 3) (h : p_X3_pushDifferences v0 v1 v2 v3 rc rv rb la = some (rcz, rvz, rbz, laz)) : Met l yX3_pushDifferences (.code yX3_pushDifferences cX3_pushDifferences 7 none :: gU) rm_X3_pushDifferences (gP E (xws E xk xo xc xt xn xl rc rv rb la wch wcc wpl wun srow ssp sen str stp swd rwp rdr rpd rpv rpc rzp) [.ref (ea E (24 + 2 * v0)), .ref (ea E (32 + v1)), .int v2, .int v3]) (gQ E (xws E xk xo xc xt xn xl rcz rvz rbz laz wch wcc wpl wun srow ssp sen str stp swd rwp rdr rpd rpv rpc rzp) none) 0 0 E.2.2.1 := by
  refine met_of (y := yX3_pushDifferences) (own := RX3) (lo := [some (.ref (ea E (24 + 2 * v0))), some (.ref (ea E (32 + v1))), some (.int v2), some (.int v3), none, none, none]) (by decide) rfl rfl rfl (fun κ hl hC => ?_)
  subst hl
  unfold p_X3_pushDifferences at h
  refine g_aload_n (pc' := 1) (i := 0) hC dX3_pushDifferences_0 rfl rfl rfl ?_
  refine g_ldc2_w (pc' := 4) (v := (128 : Int64)) hC u_11 dX3_pushDifferences_1 rfl ?_
  obtain ⟨rc_1, rv_2, rb_3, hc_4, h⟩ := bd3_some h
  refine g_callV (pc' := 7) hC (c_X3_pushVar _ hv0 hc_4) ml_X3_52 (rc_Row hv0) (by decide) rfl rfl rfl rfl dX3_pushDifferences_4 rfl ?_
  refine g_aload_n (pc' := 8) (i := 0) hC dX3_pushDifferences_7 rfl rfl rfl ?_
  refine g_ldc2_w (pc' := 11) (v := (4 : Int64)) hC u_12 dX3_pushDifferences_8 rfl ?_
  obtain ⟨rc_5, rv_6, rb_7, hc_8, h⟩ := bd3_some h
  refine g_callV (pc' := 14) hC (c_X3_pushVar _ hv0 hc_8) ml_X3_52 (rc_Row hv0) (by decide) rfl rfl rfl rfl dX3_pushDifferences_11 rfl ?_
  refine g_aload_n (pc' := 15) (i := 0) hC dX3_pushDifferences_14 rfl rfl rfl ?_
  refine g_iload_n (pc' := 16) (i := 2) hC dX3_pushDifferences_15 rfl rfl rfl ?_
  refine g_i2l (pc' := 17) hC dX3_pushDifferences_16 rfl ?_
  obtain ⟨rc_9, rv_10, rb_11, hc_12, h⟩ := bd3_some h
  refine g_callV (pc' := 20) hC (c_X3_pushVar _ hv0 hc_12) ml_X3_52 (rc_Row hv0) (by decide) rfl rfl rfl rfl dX3_pushDifferences_17 rfl ?_
  refine g_aload_n (pc' := 21) (i := 0) hC dX3_pushDifferences_20 rfl rfl rfl ?_
  refine g_iload_n (pc' := 22) (i := 2) hC dX3_pushDifferences_21 rfl rfl rfl ?_
  refine g_if_le (pc' := 25) (tgt := 36) hC dX3_pushDifferences_22 (by decide) rfl h (fun h => ?_) (fun h => ?_)
  · refine g_aload_n (pc' := 26) (i := 1) hC dX3_pushDifferences_25 rfl rfl rfl ?_
    refine al_la (pc' := 27) hC hv1 dX3_pushDifferences_26 rfl ?_
    refine g_if_le (pc' := 30) (tgt := 36) hC dX3_pushDifferences_27 (by decide) rfl h (fun h => ?_) (fun h => ?_)
    · refine g_aload_n (pc' := 31) (i := 1) hC dX3_pushDifferences_30 rfl rfl rfl ?_
      refine g_iconst (pc' := 32) (v := (0 : Int32)) hC dX3_pushDifferences_31 (by decide) rfl ?_
      obtain ⟨g_13, h⟩ := gd_some h
      refine ld_la (pc' := 33) hC hv1 g_13 dX3_pushDifferences_32 rfl ?_
      refine g_goto (tgt := 37) hC dX3_pushDifferences_33 (by decide) ?_
      exact w_X3_pushDifferences_J37 hC hv0 hv1 hv0  h
    · exact w_X3_pushDifferences_J36 hC hv0 hv1 hv0  h
  · exact w_X3_pushDifferences_J36 hC hv0 hv1 hv0  h
end WALK
