section WALK
variable {xk : Nat → Int32} {xo : Nat → Int32} {xc : Nat → Int32} {xt : Nat → Nat → Int32} {xn : Nat → Nat → Int64} {xl : Nat → Nat → Int32} {rc : Nat → Int32} {rv : Nat → Int32} {rb : Nat → Nat → Int32} {la : Nat → Nat → Int64} {wch : Nat → Int32} {wcc : Int32} {wpl : Nat → Int32} {wun : Int32} {srow : Option Nat} {ssp : Int32} {sen : Int32} {str : Int32} {stp : Int32} {swd : Nat → Int32} {rwp : Int32} {rdr : Int32} {rpd : Int32} {rpv : Int32} {rpc : Int32} {rzp : Int32}
set_option maxRecDepth 200000 in
theorem w_X1_readPages_J136 {κ : GK} {E : GE} {xkz : Nat → Int32} {xoz : Nat → Int32} {xcz : Nat → Int32} {xtz : Nat → Nat → Int32} {xnz : Nat → Nat → Int64} {xlz : Nat → Nat → Int32} {laz : Nat → Nat → Int64} {srowz : Option Nat} {sspz : Int32} {senz : Int32} {strz : Int32} {stpz : Int32} {swdz : Nat → Int32} {rwpz : Int32} {rdrz : Int32} {rpdz : Int32} {rpvz : Int32} {rpcz : Int32} {rzpz : Int32} {v1 : Nat} {v4 : Int32} {s1 : Int32} {s2 : Int32} {k39 : Int32 → (Nat → Int32) → (Nat → Nat → Int32) → (Nat → Nat → Int64) → (Nat → Nat → Int32) → (Nat → Nat → Int64) → Int32 → Int32 → Int32 → Int32 → (Nat → Int32) → Int32 → Int32 → Int32 → Int32 → Int32 → Int32 → Option ((Nat → Int32) × (Nat → Int32) × (Nat → Int32) × (Nat → Nat → Int32) × (Nat → Nat → Int64) × (Nat → Nat → Int32) × (Nat → Nat → Int64) × (Option Nat) × Int32 × Int32 × Int32 × Int32 × (Nat → Int32) × Int32 × Int32 × Int32 × Int32 × Int32 × Int32)} (hC : gC κ E cX1_readPages RX1 none rm_X1_readPages 5) (hv1 : v1 < 4) (hk39 : ∀ (v4 : Int32) (xc : Nat → Int32) (xt : Nat → Nat → Int32) (xn : Nat → Nat → Int64) (xl : Nat → Nat → Int32) (la : Nat → Nat → Int64) (ssp : Int32) (sen : Int32) (str : Int32) (stp : Int32) (swd : Nat → Int32) (rwp : Int32) (rdr : Int32) (rpd : Int32) (rpv : Int32) (rpc : Int32) (rzp : Int32), k39 v4 xc xt xn xl la ssp sen str stp swd rwp rdr rpd rpv rpc rzp = some (xkz, xoz, xcz, xtz, xnz, xlz, laz, srowz, sspz, senz, strz, stpz, swdz, rwpz, rdrz, rpdz, rpvz, rpcz, rzpz) → GG κ E (xws E xkz xoz xcz xtz xnz xlz rc rv rb laz wch wcc wpl wun srowz sspz senz strz stpz swdz rwpz rdrz rpdz rpvz rpcz rzpz, none) (xws E xk xo xc xt xn xl rc rv rb la wch wcc wpl wun srow ssp sen str stp swd rwp rdr rpd rpv rpc rzp) 39 [some (.ref (ea E 42)), some (.ref (ea E (24 + 2 * v1))), none, none, some (.int v4)] []) (h : p_X1_readPages_J136 v1 v4 s1 s2 xc xt xn xl rc la ssp str stp swd rdr rpd rpv rpc rzp k39 = some (xkz, xoz, xcz, xtz, xnz, xlz, laz, srowz, sspz, senz, strz, stpz, swdz, rwpz, rdrz, rpdz, rpvz, rpcz, rzpz)) : GG κ E (xws E xkz xoz xcz xtz xnz xlz rc rv rb laz wch wcc wpl wun srowz sspz senz strz stpz swdz rwpz rdrz rpdz rpvz rpcz rzpz, none) (xws E xk xo xc xt xn xl rc rv rb la wch wcc wpl wun srow ssp sen str stp swd rwp rdr rpd rpv rpc rzp) 136 [some (.ref (ea E 42)), some (.ref (ea E (24 + 2 * v1))), none, none, some (.int v4)] [.int s2, .int s1, .ref (ea E 42)] := by
  unfold p_X1_readPages_J136 at h
  refine g_iadd (pc' := 137) hC dX1_readPages_136 rfl ?_
  refine pf_X1_42 (pc' := 140) hC dX1_readPages_137 rfl ?_
  refine g_aload_n (pc' := 141) (i := 0) hC dX1_readPages_140 rfl rfl rfl ?_
  refine gf_X1_12 (pc' := 144) hC dX1_readPages_141 rfl ?_
  refine g_aload_n (pc' := 145) (i := 1) hC dX1_readPages_144 rfl rfl rfl ?_
  refine gf_X1_73 (pc' := 148) hC hv1 dX1_readPages_145 rfl ?_
  refine pf_X1_78 (pc' := 151) hC dX1_readPages_148 rfl ?_
  refine g_iinc (pc' := 154) (i := 4) (x := v4) (k := (nI 1)) (lo' := [some (.ref (ea E 42)), some (.ref (ea E (24 + 2 * v1))), none, none, some (.int (v4 + (nI 1)))]) hC dX1_readPages_151 rfl (by decide) rfl rfl rfl rfl ?_
  refine g_goto (tgt := 39) hC dX1_readPages_154 (by decide) ?_
  exact hk39 _ _ _ _ _ _ _ _ _ _ _ _ _ _ _ _ _ h
set_option maxRecDepth 200000 in
theorem w_X1_readPages_J109 {κ : GK} {E : GE} {xkz : Nat → Int32} {xoz : Nat → Int32} {xcz : Nat → Int32} {xtz : Nat → Nat → Int32} {xnz : Nat → Nat → Int64} {xlz : Nat → Nat → Int32} {laz : Nat → Nat → Int64} {srowz : Option Nat} {sspz : Int32} {senz : Int32} {strz : Int32} {stpz : Int32} {swdz : Nat → Int32} {rwpz : Int32} {rdrz : Int32} {rpdz : Int32} {rpvz : Int32} {rpcz : Int32} {rzpz : Int32} {v1 : Nat} {v4 : Int32} {k39 : Int32 → (Nat → Int32) → (Nat → Nat → Int32) → (Nat → Nat → Int64) → (Nat → Nat → Int32) → (Nat → Nat → Int64) → Int32 → Int32 → Int32 → Int32 → (Nat → Int32) → Int32 → Int32 → Int32 → Int32 → Int32 → Int32 → Option ((Nat → Int32) × (Nat → Int32) × (Nat → Int32) × (Nat → Nat → Int32) × (Nat → Nat → Int64) × (Nat → Nat → Int32) × (Nat → Nat → Int64) × (Option Nat) × Int32 × Int32 × Int32 × Int32 × (Nat → Int32) × Int32 × Int32 × Int32 × Int32 × Int32 × Int32)} (hC : gC κ E cX1_readPages RX1 none rm_X1_readPages 5) (hv1 : v1 < 4) (hk39 : ∀ (v4 : Int32) (xc : Nat → Int32) (xt : Nat → Nat → Int32) (xn : Nat → Nat → Int64) (xl : Nat → Nat → Int32) (la : Nat → Nat → Int64) (ssp : Int32) (sen : Int32) (str : Int32) (stp : Int32) (swd : Nat → Int32) (rwp : Int32) (rdr : Int32) (rpd : Int32) (rpv : Int32) (rpc : Int32) (rzp : Int32), k39 v4 xc xt xn xl la ssp sen str stp swd rwp rdr rpd rpv rpc rzp = some (xkz, xoz, xcz, xtz, xnz, xlz, laz, srowz, sspz, senz, strz, stpz, swdz, rwpz, rdrz, rpdz, rpvz, rpcz, rzpz) → GG κ E (xws E xkz xoz xcz xtz xnz xlz rc rv rb laz wch wcc wpl wun srowz sspz senz strz stpz swdz rwpz rdrz rpdz rpvz rpcz rzpz, none) (xws E xk xo xc xt xn xl rc rv rb la wch wcc wpl wun srow ssp sen str stp swd rwp rdr rpd rpv rpc rzp) 39 [some (.ref (ea E 42)), some (.ref (ea E (24 + 2 * v1))), none, none, some (.int v4)] []) (h : p_X1_readPages_J109 v1 v4 xc xt xn xl rc la ssp sen str stp swd rwp rdr rpd rpv rpc rzp k39 = some (xkz, xoz, xcz, xtz, xnz, xlz, laz, srowz, sspz, senz, strz, stpz, swdz, rwpz, rdrz, rpdz, rpvz, rpcz, rzpz)) : GG κ E (xws E xkz xoz xcz xtz xnz xlz rc rv rb laz wch wcc wpl wun srowz sspz senz strz stpz swdz rwpz rdrz rpdz rpvz rpcz rzpz, none) (xws E xk xo xc xt xn xl rc rv rb la wch wcc wpl wun srow ssp sen str stp swd rwp rdr rpd rpv rpc rzp) 109 [some (.ref (ea E 42)), some (.ref (ea E (24 + 2 * v1))), none, none, some (.int v4)] [] := by
  unfold p_X1_readPages_J109 at h
  refine g_aload_n (pc' := 110) (i := 0) hC dX1_readPages_109 rfl rfl rfl ?_
  refine gf_X1_12 (pc' := 113) hC dX1_readPages_110 rfl ?_
  obtain ⟨str_32, stp_33, hc_34, h⟩ := bd2_some h
  refine g_callV (pc' := 116) hC (c_X4_demandNothingLeft _ hc_34) ml_X1_70 (rc_Src) (by decide) rfl rfl rfl rfl dX1_readPages_113 rfl ?_
  refine g_aload_n (pc' := 117) (i := 0) hC dX1_readPages_116 rfl rfl rfl ?_
  refine g_dup (pc' := 118) hC dX1_readPages_117 rfl rfl ?_
  refine gf_X1_42 (pc' := 121) hC dX1_readPages_118 rfl ?_
  refine g_aload_n (pc' := 122) (i := 0) hC dX1_readPages_121 rfl rfl rfl ?_
  refine gf_X1_12 (pc' := 125) hC dX1_readPages_122 rfl ?_
  obtain ⟨a_35, hc_36, h⟩ := bd1_some h
  refine g_callV (pc' := 128) hC (c_X4_isSound _ hc_36) ml_X1_50 (rc_Src) (by decide) rfl rfl rfl rfl dX1_readPages_125 rfl ?_
  refine g_if_eq (pc' := 131) (tgt := 135) hC dX1_readPages_128 (by decide) rfl h (fun h => ?_) (fun h => ?_)
  · refine g_iconst (pc' := 136) (v := (nI 0)) hC dX1_readPages_135 (by decide) rfl ?_
    exact w_X1_readPages_J136 hC hv1 hk39 h
  · refine g_iconst (pc' := 132) (v := (nI 1)) hC dX1_readPages_131 (by decide) rfl ?_
    refine g_goto (tgt := 136) hC dX1_readPages_132 (by decide) ?_
    exact w_X1_readPages_J136 hC hv1 hk39 h
set_option maxRecDepth 200000 in
theorem w_X1_readPages_J95 {κ : GK} {E : GE} {xkz : Nat → Int32} {xoz : Nat → Int32} {xcz : Nat → Int32} {xtz : Nat → Nat → Int32} {xnz : Nat → Nat → Int64} {xlz : Nat → Nat → Int32} {laz : Nat → Nat → Int64} {srowz : Option Nat} {sspz : Int32} {senz : Int32} {strz : Int32} {stpz : Int32} {swdz : Nat → Int32} {rwpz : Int32} {rdrz : Int32} {rpdz : Int32} {rpvz : Int32} {rpcz : Int32} {rzpz : Int32} {v1 : Nat} {v4 : Int32} {k39 : Int32 → (Nat → Int32) → (Nat → Nat → Int32) → (Nat → Nat → Int64) → (Nat → Nat → Int32) → (Nat → Nat → Int64) → Int32 → Int32 → Int32 → Int32 → (Nat → Int32) → Int32 → Int32 → Int32 → Int32 → Int32 → Int32 → Option ((Nat → Int32) × (Nat → Int32) × (Nat → Int32) × (Nat → Nat → Int32) × (Nat → Nat → Int64) × (Nat → Nat → Int32) × (Nat → Nat → Int64) × (Option Nat) × Int32 × Int32 × Int32 × Int32 × (Nat → Int32) × Int32 × Int32 × Int32 × Int32 × Int32 × Int32)} (hC : gC κ E cX1_readPages RX1 none rm_X1_readPages 5) (hv1 : v1 < 4) (hk39 : ∀ (v4 : Int32) (xc : Nat → Int32) (xt : Nat → Nat → Int32) (xn : Nat → Nat → Int64) (xl : Nat → Nat → Int32) (la : Nat → Nat → Int64) (ssp : Int32) (sen : Int32) (str : Int32) (stp : Int32) (swd : Nat → Int32) (rwp : Int32) (rdr : Int32) (rpd : Int32) (rpv : Int32) (rpc : Int32) (rzp : Int32), k39 v4 xc xt xn xl la ssp sen str stp swd rwp rdr rpd rpv rpc rzp = some (xkz, xoz, xcz, xtz, xnz, xlz, laz, srowz, sspz, senz, strz, stpz, swdz, rwpz, rdrz, rpdz, rpvz, rpcz, rzpz) → GG κ E (xws E xkz xoz xcz xtz xnz xlz rc rv rb laz wch wcc wpl wun srowz sspz senz strz stpz swdz rwpz rdrz rpdz rpvz rpcz rzpz, none) (xws E xk xo xc xt xn xl rc rv rb la wch wcc wpl wun srow ssp sen str stp swd rwp rdr rpd rpv rpc rzp) 39 [some (.ref (ea E 42)), some (.ref (ea E (24 + 2 * v1))), none, none, some (.int v4)] []) (h : p_X1_readPages_J95 v1 v4 xk xo xc xt xn xl rc rb la srow ssp sen str stp swd rwp rdr rpd rpv rpc rzp k39 = some (xkz, xoz, xcz, xtz, xnz, xlz, laz, srowz, sspz, senz, strz, stpz, swdz, rwpz, rdrz, rpdz, rpvz, rpcz, rzpz)) : GG κ E (xws E xkz xoz xcz xtz xnz xlz rc rv rb laz wch wcc wpl wun srowz sspz senz strz stpz swdz rwpz rdrz rpdz rpvz rpcz rzpz, none) (xws E xk xo xc xt xn xl rc rv rb la wch wcc wpl wun srow ssp sen str stp swd rwp rdr rpd rpv rpc rzp) 95 [some (.ref (ea E 42)), some (.ref (ea E (24 + 2 * v1))), none, none, some (.int v4)] [] := by
  unfold p_X1_readPages_J95 at h
  refine g_aload_n (pc' := 96) (i := 0) hC dX1_readPages_95 rfl rfl rfl ?_
  refine gf_X1_12 (pc' := 99) hC dX1_readPages_96 rfl ?_
  obtain ⟨a_30, hc_31, h⟩ := bd1_some h
  refine g_callV (pc' := 102) hC (c_X4_isSound _ hc_31) ml_X1_50 (rc_Src) (by decide) rfl rfl rfl rfl dX1_readPages_99 rfl ?_
  refine g_if_eq (pc' := 105) (tgt := 109) hC dX1_readPages_102 (by decide) rfl h (fun h => ?_) (fun h => ?_)
  · exact w_X1_readPages_J109 hC hv1 hk39 h
  · refine g_aload_n (pc' := 106) (i := 0) hC dX1_readPages_105 rfl rfl rfl ?_
    obtain ⟨xc_37, xt_38, xn_39, xl_40, la_41, ssp_42, sen_43, str_44, stp_45, swd_46, hc_47, h⟩ := bd10_some h
    refine g_callV (pc' := 109) hC (c_X1_readData _ hc_47) ml_X1_67 (rc_Rd) (by decide) rfl rfl rfl rfl dX1_readPages_106 rfl ?_
    exact w_X1_readPages_J109 hC hv1 hk39 h
set_option maxRecDepth 200000 in
theorem w_X1_readPages_L39 {κ : GK} {E : GE} {xkz : Nat → Int32} {xoz : Nat → Int32} {xcz : Nat → Int32} {xtz : Nat → Nat → Int32} {xnz : Nat → Nat → Int64} {xlz : Nat → Nat → Int32} {laz : Nat → Nat → Int64} {srowz : Option Nat} {sspz : Int32} {senz : Int32} {strz : Int32} {stpz : Int32} {swdz : Nat → Int32} {rwpz : Int32} {rdrz : Int32} {rpdz : Int32} {rpvz : Int32} {rpcz : Int32} {rzpz : Int32} {v1 : Nat}  (hC : gC κ E cX1_readPages RX1 none rm_X1_readPages 5) (hv1 : v1 < 4)  : ∀ (n : Nat) (v4 : Int32) (xc : Nat → Int32) (xt : Nat → Nat → Int32) (xn : Nat → Nat → Int64) (xl : Nat → Nat → Int32) (la : Nat → Nat → Int64) (ssp : Int32) (sen : Int32) (str : Int32) (stp : Int32) (swd : Nat → Int32) (rwp : Int32) (rdr : Int32) (rpd : Int32) (rpv : Int32) (rpc : Int32) (rzp : Int32), itr17 (p_X1_readPages_L39 v1 xk xo rc rb srow) n v4 xc xt xn xl la ssp sen str stp swd rwp rdr rpd rpv rpc rzp = some (xkz, xoz, xcz, xtz, xnz, xlz, laz, srowz, sspz, senz, strz, stpz, swdz, rwpz, rdrz, rpdz, rpvz, rpcz, rzpz) → GG κ E (xws E xkz xoz xcz xtz xnz xlz rc rv rb laz wch wcc wpl wun srowz sspz senz strz stpz swdz rwpz rdrz rpdz rpvz rpcz rzpz, none) (xws E xk xo xc xt xn xl rc rv rb la wch wcc wpl wun srow ssp sen str stp swd rwp rdr rpd rpv rpc rzp) 39 [some (.ref (ea E 42)), some (.ref (ea E (24 + 2 * v1))), none, none, some (.int v4)] [] :=
  itr17_ind (fun k39 hk39 v4 xc xt xn xl la ssp sen str stp swd rwp rdr rpd rpv rpc rzp h => by
    unfold p_X1_readPages_L39 at h
    refine g_iload (pc' := 41) (i := 4) hC dX1_readPages_39 rfl rfl ?_
    refine g_sipush (pc' := 44) (v := (nI 12000)) hC dX1_readPages_41 (by decide) rfl ?_
    refine g_icmp_ge (pc' := 47) (tgt := 157) hC dX1_readPages_44 (by decide) rfl h (fun h => ?_) (fun h => ?_)
    · refine g_aload_n (pc' := 48) (i := 0) hC dX1_readPages_47 rfl rfl rfl ?_
      refine gf_X1_12 (pc' := 51) hC dX1_readPages_48 rfl ?_
      obtain ⟨a_15, hc_16, h⟩ := bd1_some h
      refine g_callV (pc' := 54) hC (c_X4_isSound _ hc_16) ml_X1_50 (rc_Src) (by decide) rfl rfl rfl rfl dX1_readPages_51 rfl ?_
      refine g_if_eq (pc' := 57) (tgt := 157) hC dX1_readPages_54 (by decide) rfl h (fun h => ?_) (fun h => ?_)
      · obtain ⟨rfl, rfl, rfl, rfl, rfl, rfl, rfl, rfl, rfl, rfl, rfl, rfl, rfl, rfl, rfl, rfl, rfl, rfl, rfl⟩ := inj19 h; exact g_vret hC dX1_readPages_157
      · refine g_aload_n (pc' := 58) (i := 0) hC dX1_readPages_57 rfl rfl rfl ?_
        refine gf_X1_12 (pc' := 61) hC dX1_readPages_58 rfl ?_
        obtain ⟨a_17, hc_18, h⟩ := bd1_some h
        refine g_callV (pc' := 64) hC (c_X4_left _ hc_18) ml_X1_54 (rc_Src) (by decide) rfl rfl rfl rfl dX1_readPages_61 rfl ?_
        refine g_if_le (pc' := 67) (tgt := 157) hC dX1_readPages_64 (by decide) rfl h (fun h => ?_) (fun h => ?_)
        · refine g_aload_n (pc' := 68) (i := 0) hC dX1_readPages_67 rfl rfl rfl ?_
          obtain ⟨ssp_19, sen_20, str_21, stp_22, rpd_23, rpv_24, rpc_25, rzp_26, hc_27, h⟩ := bd8_some h
          refine g_callV (pc' := 71) hC (c_X1_readHead _ hc_27) ml_X1_58 (rc_Rd) (by decide) rfl rfl rfl rfl dX1_readPages_68 rfl ?_
          refine g_aload_n (pc' := 72) (i := 0) hC dX1_readPages_71 rfl rfl rfl ?_
          refine gf_X1_12 (pc' := 75) hC dX1_readPages_72 rfl ?_
          obtain ⟨a_28, hc_29, h⟩ := bd1_some h
          refine g_callV (pc' := 78) hC (c_X4_isSound _ hc_29) ml_X1_50 (rc_Src) (by decide) rfl rfl rfl rfl dX1_readPages_75 rfl ?_
          refine g_if_eq (pc' := 81) (tgt := 95) hC dX1_readPages_78 (by decide) rfl h (fun h => ?_) (fun h => ?_)
          · exact w_X1_readPages_J95 hC hv1 hk39 h
          · refine g_aload_n (pc' := 82) (i := 0) hC dX1_readPages_81 rfl rfl rfl ?_
            refine gf_X1_61 (pc' := 85) hC dX1_readPages_82 rfl ?_
            refine g_if_eq (pc' := 88) (tgt := 95) hC dX1_readPages_85 (by decide) rfl h (fun h => ?_) (fun h => ?_)
            · exact w_X1_readPages_J95 hC hv1 hk39 h
            · refine g_aload_n (pc' := 89) (i := 0) hC dX1_readPages_88 rfl rfl rfl ?_
              obtain ⟨xc_48, xt_49, xn_50, xl_51, la_52, ssp_53, str_54, stp_55, rdr_56, hc_57, h⟩ := bd9_some h
              refine g_callV (pc' := 92) hC (c_X1_readDictionary _ hc_57) ml_X1_64 (rc_Rd) (by decide) rfl rfl rfl rfl dX1_readPages_89 rfl ?_
              refine g_goto (tgt := 109) hC dX1_readPages_92 (by decide) ?_
              exact w_X1_readPages_J109 hC hv1 hk39 h
        · obtain ⟨rfl, rfl, rfl, rfl, rfl, rfl, rfl, rfl, rfl, rfl, rfl, rfl, rfl, rfl, rfl, rfl, rfl, rfl, rfl⟩ := inj19 h; exact g_vret hC dX1_readPages_157
    · obtain ⟨rfl, rfl, rfl, rfl, rfl, rfl, rfl, rfl, rfl, rfl, rfl, rfl, rfl, rfl, rfl, rfl, rfl, rfl, rfl⟩ := inj19 h; exact g_vret hC dX1_readPages_157)
set_option maxRecDepth 200000 in
theorem c_X1_readPages (l : Launch) {E : GE} {xkz : Nat → Int32} {xoz : Nat → Int32} {xcz : Nat → Int32} {xtz : Nat → Nat → Int32} {xnz : Nat → Nat → Int64} {xlz : Nat → Nat → Int32} {laz : Nat → Nat → Int64} {srowz : Option Nat} {sspz : Int32} {senz : Int32} {strz : Int32} {stpz : Int32} {swdz : Nat → Int32} {rwpz : Int32} {rdrz : Int32} {rpdz : Int32} {rpvz : Int32} {rpcz : Int32} {rzpz : Int32} {v1 : Nat} {v2 : Int32} {v3 : Int32} (hv1 : v1 < 4) (h : p_X1_readPages v1 v2 v3 xk xo xc xt xn xl rc rb la srow ssp sen str stp swd rwp rdr rpd rpv rpc rzp = some (xkz, xoz, xcz, xtz, xnz, xlz, laz, srowz, sspz, senz, strz, stpz, swdz, rwpz, rdrz, rpdz, rpvz, rpcz, rzpz)) : Met l yX1_readPages (.code yX1_readPages cX1_readPages 5 none :: gU) rm_X1_readPages (gP E (xws E xk xo xc xt xn xl rc rv rb la wch wcc wpl wun srow ssp sen str stp swd rwp rdr rpd rpv rpc rzp) [.ref (ea E 42), .ref (ea E (24 + 2 * v1)), .int v2, .int v3]) (gQ E (xws E xkz xoz xcz xtz xnz xlz rc rv rb laz wch wcc wpl wun srowz sspz senz strz stpz swdz rwpz rdrz rpdz rpvz rpcz rzpz) none) 0 0 E.2.2.1 := by
  refine met_of (y := yX1_readPages) (own := RX1) (lo := [some (.ref (ea E 42)), some (.ref (ea E (24 + 2 * v1))), some (.int v2), some (.int v3), none]) (by decide) rfl rfl rfl (fun κ hl hC => ?_)
  subst hl
  unfold p_X1_readPages at h
  refine g_aload_n (pc' := 1) (i := 0) hC dX1_readPages_0 rfl rfl rfl ?_
  refine gf_X1_12 (pc' := 4) hC dX1_readPages_1 rfl ?_
  refine g_aload_n (pc' := 5) (i := 1) hC dX1_readPages_4 rfl rfl rfl ?_
  obtain ⟨srow_1, ssp_2, sen_3, str_4, stp_5, hc_6, h⟩ := bd5_some h
  refine g_callV (pc' := 8) hC (c_X4_begin _ hv1 hc_6) ml_X1_35 (rc_Src) (by decide) rfl rfl rfl rfl dX1_readPages_5 rfl ?_
  refine g_aload_n (pc' := 9) (i := 0) hC dX1_readPages_8 rfl rfl rfl ?_
  refine gf_X1_21 (pc' := 12) hC dX1_readPages_9 rfl ?_
  refine g_iload_n (pc' := 13) (i := 2) hC dX1_readPages_12 rfl rfl rfl ?_
  refine g_iload_n (pc' := 14) (i := 3) hC dX1_readPages_13 rfl rfl rfl ?_
  obtain ⟨xk_7, xo_8, xc_9, hc_10, h⟩ := bd3_some h
  refine g_callV (pc' := 17) hC (c_X0_begin _ (by decide) hc_10) ml_X1_39 (rc_Col (by decide)) (by decide) rfl rfl rfl rfl dX1_readPages_14 rfl ?_
  refine g_aload_n (pc' := 18) (i := 0) hC dX1_readPages_17 rfl rfl rfl ?_
  refine gf_X1_25 (pc' := 21) hC dX1_readPages_18 rfl ?_
  refine g_iload_n (pc' := 22) (i := 2) hC dX1_readPages_21 rfl rfl rfl ?_
  refine g_iconst (pc' := 23) (v := (nI 0)) hC dX1_readPages_22 (by decide) rfl ?_
  obtain ⟨xk_11, xo_12, xc_13, hc_14, h⟩ := bd3_some h
  refine g_callV (pc' := 26) hC (c_X0_begin _ (by decide) hc_14) ml_X1_39 (rc_Col (by decide)) (by decide) rfl rfl rfl rfl dX1_readPages_23 rfl ?_
  refine g_aload_n (pc' := 27) (i := 0) hC dX1_readPages_26 rfl rfl rfl ?_
  refine g_iconst (pc' := 28) (v := (nI 0)) hC dX1_readPages_27 (by decide) rfl ?_
  refine pf_X1_42 (pc' := 31) hC dX1_readPages_28 rfl ?_
  refine g_aload_n (pc' := 32) (i := 0) hC dX1_readPages_31 rfl rfl rfl ?_
  refine g_iconst (pc' := 33) (v := (nI 0)) hC dX1_readPages_32 (by decide) rfl ?_
  refine pf_X1_46 (pc' := 36) hC (by decide) dX1_readPages_33 rfl ?_
  refine g_iconst (pc' := 37) (v := (nI 0)) hC dX1_readPages_36 (by decide) rfl ?_
  refine g_istore (pc' := 39) (i := 4) (lo' := [some (.ref (ea E 42)), some (.ref (ea E (24 + 2 * v1))), some (.int v2), some (.int v3), some (.int (nI 0))]) hC dX1_readPages_37 rfl rfl rfl rfl ?_
  refine g_weak (lo' := [some (.ref (ea E 42)), some (.ref (ea E (24 + 2 * v1))), none, none, some (.int (nI 0))]) rfl ?_
  refine w_X1_readPages_L39 hC hv1  _ _ _ _ _ _ _ _ _ _ _ _ _ _ _ _ _ _ h
set_option maxRecDepth 200000 in
theorem c_X2_codeOf (l : Launch) {E : GE} {rr : Int32} {v0 : Int32} {v1 : Int32}  (h : p_X2_codeOf v0 v1 = some rr) : Met l yX2_codeOf (.code yX2_codeOf cX2_codeOf 2 (some .int) :: gU) rm_X2_codeOf (gP E (xws E xk xo xc xt xn xl rc rv rb la wch wcc wpl wun srow ssp sen str stp swd rwp rdr rpd rpv rpc rzp) [.int v0, .int v1]) (gQ E (xws E xk xo xc xt xn xl rc rv rb la wch wcc wpl wun srow ssp sen str stp swd rwp rdr rpd rpv rpc rzp) (some (.int rr))) 0 0 E.2.2.1 := by
  refine met_of (y := yX2_codeOf) (own := RX2) (lo := [some (.int v0), some (.int v1)]) (by decide) rfl rfl rfl (fun κ hl hC => ?_)
  subst hl
  unfold p_X2_codeOf at h
  refine g_iload_n (pc' := 1) (i := 1) hC dX2_codeOf_0 rfl rfl rfl ?_
  refine g_if_ne (pc' := 4) (tgt := 6) hC dX2_codeOf_1 (by decide) rfl h (fun h => ?_) (fun h => ?_)
  · refine g_iconst (pc' := 5) (v := (nI 0)) hC dX2_codeOf_4 (by decide) rfl ?_
    obtain rfl := inj1 h; exact g_iret hC dX2_codeOf_5
  · refine g_iload_n (pc' := 7) (i := 1) hC dX2_codeOf_6 rfl rfl rfl ?_
    refine g_iconst (pc' := 8) (v := (nI 1)) hC dX2_codeOf_7 (by decide) rfl ?_
    refine g_icmp_ne (pc' := 11) (tgt := 14) hC dX2_codeOf_8 (by decide) rfl h (fun h => ?_) (fun h => ?_)
    · refine g_bipush (pc' := 13) (v := (nI 8)) hC dX2_codeOf_11 (by decide) rfl ?_
      obtain rfl := inj1 h; exact g_iret hC dX2_codeOf_13
    · refine g_iload_n (pc' := 15) (i := 0) hC dX2_codeOf_14 rfl rfl rfl ?_
      refine g_iconst (pc' := 16) (v := (nI 2)) hC dX2_codeOf_15 (by decide) rfl ?_
      refine g_icmp_ne (pc' := 19) (tgt := 24) hC dX2_codeOf_16 (by decide) rfl h (fun h => ?_) (fun h => ?_)
      · refine g_bipush (pc' := 21) (v := (nI 6)) hC dX2_codeOf_19 (by decide) rfl ?_
        refine g_goto (tgt := 34) hC dX2_codeOf_21 (by decide) ?_
        obtain rfl := inj1 h; exact g_iret hC dX2_codeOf_34
      · refine g_iload_n (pc' := 25) (i := 0) hC dX2_codeOf_24 rfl rfl rfl ?_
        refine g_iconst (pc' := 26) (v := (nI 3)) hC dX2_codeOf_25 (by decide) rfl ?_
        refine g_icmp_ne (pc' := 29) (tgt := 33) hC dX2_codeOf_26 (by decide) rfl h (fun h => ?_) (fun h => ?_)
        · refine g_iconst (pc' := 30) (v := (nI 3)) hC dX2_codeOf_29 (by decide) rfl ?_
          refine g_goto (tgt := 34) hC dX2_codeOf_30 (by decide) ?_
          obtain rfl := inj1 h; exact g_iret hC dX2_codeOf_34
        · refine g_iconst (pc' := 34) (v := (nI 5)) hC dX2_codeOf_33 (by decide) rfl ?_
          obtain rfl := inj1 h; exact g_iret hC dX2_codeOf_34
set_option maxRecDepth 200000 in
theorem w_X2_chooseThere_L8 {κ : GK} {E : GE} {wchz : Nat → Int32} {wccz : Int32} {v1 : Nat} {v3 : Int32}  (hC : gC κ E cX2_chooseThere RX2 none rm_X2_chooseThere 5) (hv1 : v1 < 6)  : ∀ (n : Nat) (v4 : Int32) (wch : Nat → Int32) (wcc : Int32), itr3 (p_X2_chooseThere_L8 v1 v3 xt) n v4 wch wcc = some (wchz, wccz) → GG κ E (xws E xk xo xc xt xn xl rc rv rb la wchz wccz wpl wun srow ssp sen str stp swd rwp rdr rpd rpv rpc rzp, none) (xws E xk xo xc xt xn xl rc rv rb la wch wcc wpl wun srow ssp sen str stp swd rwp rdr rpd rpv rpc rzp) 8 [some (.ref (ea E 37)), some (.ref (ea E (4 * v1))), none, some (.int v3), some (.int v4)] [] :=
  itr3_ind (fun k8 hk8 v4 wch wcc h => by
    unfold p_X2_chooseThere_L8 at h
    refine g_iload (pc' := 10) (i := 4) hC dX2_chooseThere_8 rfl rfl ?_
    refine g_iload_n (pc' := 11) (i := 3) hC dX2_chooseThere_10 rfl rfl rfl ?_
    refine g_icmp_ge (pc' := 14) (tgt := 69) hC dX2_chooseThere_11 (by decide) rfl h (fun h => ?_) (fun h => ?_)
    · refine g_aload_n (pc' := 15) (i := 1) hC dX2_chooseThere_14 rfl rfl rfl ?_
      refine g_iload (pc' := 17) (i := 4) hC dX2_chooseThere_15 rfl rfl ?_
      obtain ⟨a_1, hc_2, h⟩ := bd1_some h
      refine g_callV (pc' := 20) hC (c_X0_isThere _ hv1 hc_2) ml_X2_125 (rc_Col hv1) (by decide) rfl rfl rfl rfl dX2_chooseThere_17 rfl ?_
      refine g_if_eq (pc' := 23) (tgt := 63) hC dX2_chooseThere_20 (by decide) rfl h (fun h => ?_) (fun h => ?_)
      · refine g_iinc (pc' := 66) (i := 4) (x := v4) (k := (nI 1)) (lo' := [some (.ref (ea E 37)), some (.ref (ea E (4 * v1))), none, some (.int v3), some (.int (v4 + (nI 1)))]) hC dX2_chooseThere_63 rfl (by decide) rfl rfl rfl rfl ?_
        refine g_goto (tgt := 8) hC dX2_chooseThere_66 (by decide) ?_
        exact hk8 _ _ _ h
      · refine g_aload_n (pc' := 24) (i := 0) hC dX2_chooseThere_23 rfl rfl rfl ?_
        refine gf_X2_100 (pc' := 27) hC dX2_chooseThere_24 rfl ?_
        refine g_if_lt (pc' := 30) (tgt := 63) hC dX2_chooseThere_27 (by decide) rfl h (fun h => ?_) (fun h => ?_)
        · refine g_iinc (pc' := 66) (i := 4) (x := v4) (k := (nI 1)) (lo' := [some (.ref (ea E 37)), some (.ref (ea E (4 * v1))), none, some (.int v3), some (.int (v4 + (nI 1)))]) hC dX2_chooseThere_63 rfl (by decide) rfl rfl rfl rfl ?_
          refine g_goto (tgt := 8) hC dX2_chooseThere_66 (by decide) ?_
          exact hk8 _ _ _ h
        · refine g_aload_n (pc' := 31) (i := 0) hC dX2_chooseThere_30 rfl rfl rfl ?_
          refine gf_X2_100 (pc' := 34) hC dX2_chooseThere_31 rfl ?_
          refine g_aload_n (pc' := 35) (i := 0) hC dX2_chooseThere_34 rfl rfl rfl ?_
          refine gf_X2_23 (pc' := 38) hC dX2_chooseThere_35 rfl ?_
          refine al_wch (pc' := 39) hC dX2_chooseThere_38 rfl ?_
          refine g_icmp_ge (pc' := 42) (tgt := 63) hC dX2_chooseThere_39 (by decide) rfl h (fun h => ?_) (fun h => ?_)
          · refine g_aload_n (pc' := 43) (i := 0) hC dX2_chooseThere_42 rfl rfl rfl ?_
            refine gf_X2_23 (pc' := 46) hC dX2_chooseThere_43 rfl ?_
            refine g_aload_n (pc' := 47) (i := 0) hC dX2_chooseThere_46 rfl rfl rfl ?_
            refine gf_X2_100 (pc' := 50) hC dX2_chooseThere_47 rfl ?_
            refine g_iload (pc' := 52) (i := 4) hC dX2_chooseThere_50 rfl rfl ?_
            obtain ⟨g_3, h⟩ := gd_some h
            refine st_wch (pc' := 53) hC g_3 dX2_chooseThere_52 rfl ?_
            refine g_aload_n (pc' := 54) (i := 0) hC dX2_chooseThere_53 rfl rfl rfl ?_
            refine g_dup (pc' := 55) hC dX2_chooseThere_54 rfl rfl ?_
            refine gf_X2_100 (pc' := 58) hC dX2_chooseThere_55 rfl ?_
            refine g_iconst (pc' := 59) (v := (nI 1)) hC dX2_chooseThere_58 (by decide) rfl ?_
            refine g_iadd (pc' := 60) hC dX2_chooseThere_59 rfl ?_
            refine pf_X2_100 (pc' := 63) hC dX2_chooseThere_60 rfl ?_
            refine g_iinc (pc' := 66) (i := 4) (x := v4) (k := (nI 1)) (lo' := [some (.ref (ea E 37)), some (.ref (ea E (4 * v1))), none, some (.int v3), some (.int (v4 + (nI 1)))]) hC dX2_chooseThere_63 rfl (by decide) rfl rfl rfl rfl ?_
            refine g_goto (tgt := 8) hC dX2_chooseThere_66 (by decide) ?_
            exact hk8 _ _ _ h
          · refine g_iinc (pc' := 66) (i := 4) (x := v4) (k := (nI 1)) (lo' := [some (.ref (ea E 37)), some (.ref (ea E (4 * v1))), none, some (.int v3), some (.int (v4 + (nI 1)))]) hC dX2_chooseThere_63 rfl (by decide) rfl rfl rfl rfl ?_
            refine g_goto (tgt := 8) hC dX2_chooseThere_66 (by decide) ?_
            exact hk8 _ _ _ h
    · obtain ⟨rfl, rfl⟩ := inj2 h; exact g_vret hC dX2_chooseThere_69)
set_option maxRecDepth 200000 in
theorem c_X2_chooseThere (l : Launch) {E : GE} {wchz : Nat → Int32} {wccz : Int32} {v1 : Nat} {v2 : Int32} {v3 : Int32} (hv1 : v1 < 6) (h : p_X2_chooseThere v1 v2 v3 xt wch wcc = some (wchz, wccz)) : Met l yX2_chooseThere (.code yX2_chooseThere cX2_chooseThere 5 none :: gU) rm_X2_chooseThere (gP E (xws E xk xo xc xt xn xl rc rv rb la wch wcc wpl wun srow ssp sen str stp swd rwp rdr rpd rpv rpc rzp) [.ref (ea E 37), .ref (ea E (4 * v1)), .int v2, .int v3]) (gQ E (xws E xk xo xc xt xn xl rc rv rb la wchz wccz wpl wun srow ssp sen str stp swd rwp rdr rpd rpv rpc rzp) none) 0 0 E.2.2.1 := by
  refine met_of (y := yX2_chooseThere) (own := RX2) (lo := [some (.ref (ea E 37)), some (.ref (ea E (4 * v1))), some (.int v2), some (.int v3), none]) (by decide) rfl rfl rfl (fun κ hl hC => ?_)
  subst hl
  unfold p_X2_chooseThere at h
  refine g_aload_n (pc' := 1) (i := 0) hC dX2_chooseThere_0 rfl rfl rfl ?_
  refine g_iconst (pc' := 2) (v := (nI 0)) hC dX2_chooseThere_1 (by decide) rfl ?_
  refine pf_X2_100 (pc' := 5) hC dX2_chooseThere_2 rfl ?_
  refine g_iload_n (pc' := 6) (i := 2) hC dX2_chooseThere_5 rfl rfl rfl ?_
  refine g_istore (pc' := 8) (i := 4) (lo' := [some (.ref (ea E 37)), some (.ref (ea E (4 * v1))), some (.int v2), some (.int v3), some (.int v2)]) hC dX2_chooseThere_6 rfl rfl rfl rfl ?_
  refine g_weak (lo' := [some (.ref (ea E 37)), some (.ref (ea E (4 * v1))), none, some (.int v3), some (.int v2)]) rfl ?_
  refine w_X2_chooseThere_L8 hC hv1  _ _ _ _ h
set_option maxRecDepth 200000 in
theorem w_X2_gatherLevels_L3 {κ : GK} {E : GE} {laz : Nat → Nat → Int64} {v1 : Nat} {v2 : Int32} {v3 : Int32}  (hC : gC κ E cX2_gatherLevels RX2 none rm_X2_gatherLevels 5) (hv1 : v1 < 6)  : ∀ (n : Nat) (v4 : Int32) (la : Nat → Nat → Int64), itr2 (p_X2_gatherLevels_L3 v1 v2 v3 xt) n v4 la = some laz → GG κ E (xws E xk xo xc xt xn xl rc rv rb laz wch wcc wpl wun srow ssp sen str stp swd rwp rdr rpd rpv rpc rzp, none) (xws E xk xo xc xt xn xl rc rv rb la wch wcc wpl wun srow ssp sen str stp swd rwp rdr rpd rpv rpc rzp) 3 [some (.ref (ea E 37)), some (.ref (ea E (4 * v1))), some (.int v2), some (.int v3), some (.int v4)] [] :=
  itr2_ind (fun k3 hk3 v4 la h => by
    unfold p_X2_gatherLevels_L3 at h
    refine g_iload (pc' := 5) (i := 4) hC dX2_gatherLevels_3 rfl rfl ?_
    refine g_if_lt (pc' := 8) (tgt := 55) hC dX2_gatherLevels_5 (by decide) rfl h (fun h => ?_) (fun h => ?_)
    · obtain rfl := inj1 h; exact g_vret hC dX2_gatherLevels_55
    · refine g_iload (pc' := 10) (i := 4) hC dX2_gatherLevels_8 rfl rfl ?_
      refine g_iload_n (pc' := 11) (i := 3) hC dX2_gatherLevels_10 rfl rfl rfl ?_
      refine g_icmp_ge (pc' := 14) (tgt := 55) hC dX2_gatherLevels_11 (by decide) rfl h (fun h => ?_) (fun h => ?_)
      · refine g_iload (pc' := 16) (i := 4) hC dX2_gatherLevels_14 rfl rfl ?_
        refine g_iload_n (pc' := 17) (i := 2) hC dX2_gatherLevels_16 rfl rfl rfl ?_
        refine g_isub (pc' := 18) hC dX2_gatherLevels_17 rfl ?_
        refine g_aload_n (pc' := 19) (i := 0) hC dX2_gatherLevels_18 rfl rfl rfl ?_
        refine gf_X2_30 (pc' := 22) hC dX2_gatherLevels_19 rfl ?_
        refine al_la (pc' := 23) hC (by decide) dX2_gatherLevels_22 rfl ?_
        refine g_icmp_ge (pc' := 26) (tgt := 55) hC dX2_gatherLevels_23 (by decide) rfl h (fun h => ?_) (fun h => ?_)
        · refine g_aload_n (pc' := 27) (i := 0) hC dX2_gatherLevels_26 rfl rfl rfl ?_
          refine gf_X2_30 (pc' := 30) hC dX2_gatherLevels_27 rfl ?_
          refine g_iload (pc' := 32) (i := 4) hC dX2_gatherLevels_30 rfl rfl ?_
          refine g_iload_n (pc' := 33) (i := 2) hC dX2_gatherLevels_32 rfl rfl rfl ?_
          refine g_isub (pc' := 34) hC dX2_gatherLevels_33 rfl ?_
          refine g_aload_n (pc' := 35) (i := 1) hC dX2_gatherLevels_34 rfl rfl rfl ?_
          refine g_iload (pc' := 37) (i := 4) hC dX2_gatherLevels_35 rfl rfl ?_
          obtain ⟨a_1, hc_2, h⟩ := bd1_some h
          refine g_callV (pc' := 40) hC (c_X0_isThere _ hv1 hc_2) ml_X2_125 (rc_Col hv1) (by decide) rfl rfl rfl rfl dX2_gatherLevels_37 rfl ?_
          refine g_if_eq (pc' := 43) (tgt := 47) hC dX2_gatherLevels_40 (by decide) rfl h (fun h => ?_) (fun h => ?_)
          · refine g_lconst (pc' := 48) (v := (lN 0)) hC dX2_gatherLevels_47 (by decide) rfl ?_
            obtain ⟨g_3, h⟩ := gd_some h
            refine st_la (pc' := 49) hC (by decide) g_3 dX2_gatherLevels_48 rfl ?_
            refine g_iinc (pc' := 52) (i := 4) (x := v4) (k := (nI 1)) (lo' := [some (.ref (ea E 37)), some (.ref (ea E (4 * v1))), some (.int v2), some (.int v3), some (.int (v4 + (nI 1)))]) hC dX2_gatherLevels_49 rfl (by decide) rfl rfl rfl rfl ?_
            refine g_goto (tgt := 3) hC dX2_gatherLevels_52 (by decide) ?_
            exact hk3 _ _ h
          · refine g_lconst (pc' := 44) (v := (lN 1)) hC dX2_gatherLevels_43 (by decide) rfl ?_
            refine g_goto (tgt := 48) hC dX2_gatherLevels_44 (by decide) ?_
            obtain ⟨g_4, h⟩ := gd_some h
            refine st_la (pc' := 49) hC (by decide) g_4 dX2_gatherLevels_48 rfl ?_
            refine g_iinc (pc' := 52) (i := 4) (x := v4) (k := (nI 1)) (lo' := [some (.ref (ea E 37)), some (.ref (ea E (4 * v1))), some (.int v2), some (.int v3), some (.int (v4 + (nI 1)))]) hC dX2_gatherLevels_49 rfl (by decide) rfl rfl rfl rfl ?_
            refine g_goto (tgt := 3) hC dX2_gatherLevels_52 (by decide) ?_
            exact hk3 _ _ h
        · obtain rfl := inj1 h; exact g_vret hC dX2_gatherLevels_55
      · obtain rfl := inj1 h; exact g_vret hC dX2_gatherLevels_55)
set_option maxRecDepth 200000 in
theorem c_X2_gatherLevels (l : Launch) {E : GE} {laz : Nat → Nat → Int64} {v1 : Nat} {v2 : Int32} {v3 : Int32} (hv1 : v1 < 6) (h : p_X2_gatherLevels v1 v2 v3 xt la = some laz) : Met l yX2_gatherLevels (.code yX2_gatherLevels cX2_gatherLevels 5 none :: gU) rm_X2_gatherLevels (gP E (xws E xk xo xc xt xn xl rc rv rb la wch wcc wpl wun srow ssp sen str stp swd rwp rdr rpd rpv rpc rzp) [.ref (ea E 37), .ref (ea E (4 * v1)), .int v2, .int v3]) (gQ E (xws E xk xo xc xt xn xl rc rv rb laz wch wcc wpl wun srow ssp sen str stp swd rwp rdr rpd rpv rpc rzp) none) 0 0 E.2.2.1 := by
  refine met_of (y := yX2_gatherLevels) (own := RX2) (lo := [some (.ref (ea E 37)), some (.ref (ea E (4 * v1))), some (.int v2), some (.int v3), none]) (by decide) rfl rfl rfl (fun κ hl hC => ?_)
  subst hl
  unfold p_X2_gatherLevels at h
  refine g_iload_n (pc' := 1) (i := 2) hC dX2_gatherLevels_0 rfl rfl rfl ?_
  refine g_istore (pc' := 3) (i := 4) (lo' := [some (.ref (ea E 37)), some (.ref (ea E (4 * v1))), some (.int v2), some (.int v3), some (.int v2)]) hC dX2_gatherLevels_1 rfl rfl rfl rfl ?_
  refine w_X2_gatherLevels_L3 hC hv1  _ _ _ h
set_option maxRecDepth 200000 in
theorem w_X2_gatherNumbers_L2 {κ : GK} {E : GE} {laz : Nat → Nat → Int64} {v1 : Nat}  (hC : gC κ E cX2_gatherNumbers RX2 none rm_X2_gatherNumbers 3) (hv1 : v1 < 6)  : ∀ (n : Nat) (v2 : Int32) (la : Nat → Nat → Int64), itr2 (p_X2_gatherNumbers_L2 v1 xn wch wcc) n v2 la = some laz → GG κ E (xws E xk xo xc xt xn xl rc rv rb laz wch wcc wpl wun srow ssp sen str stp swd rwp rdr rpd rpv rpc rzp, none) (xws E xk xo xc xt xn xl rc rv rb la wch wcc wpl wun srow ssp sen str stp swd rwp rdr rpd rpv rpc rzp) 2 [some (.ref (ea E 37)), some (.ref (ea E (4 * v1))), some (.int v2)] [] :=
  itr2_ind (fun k2 hk2 v2 la h => by
    unfold p_X2_gatherNumbers_L2 at h
    refine g_iload_n (pc' := 3) (i := 2) hC dX2_gatherNumbers_2 rfl rfl rfl ?_
    refine g_aload_n (pc' := 4) (i := 0) hC dX2_gatherNumbers_3 rfl rfl rfl ?_
    refine gf_X2_100 (pc' := 7) hC dX2_gatherNumbers_4 rfl ?_
    refine g_icmp_ge (pc' := 10) (tgt := 50) hC dX2_gatherNumbers_7 (by decide) rfl h (fun h => ?_) (fun h => ?_)
    · refine g_iload_n (pc' := 11) (i := 2) hC dX2_gatherNumbers_10 rfl rfl rfl ?_
      refine g_aload_n (pc' := 12) (i := 0) hC dX2_gatherNumbers_11 rfl rfl rfl ?_
      refine gf_X2_23 (pc' := 15) hC dX2_gatherNumbers_12 rfl ?_
      refine al_wch (pc' := 16) hC dX2_gatherNumbers_15 rfl ?_
      refine g_icmp_ge (pc' := 19) (tgt := 50) hC dX2_gatherNumbers_16 (by decide) rfl h (fun h => ?_) (fun h => ?_)
      · refine g_iload_n (pc' := 20) (i := 2) hC dX2_gatherNumbers_19 rfl rfl rfl ?_
        refine g_aload_n (pc' := 21) (i := 0) hC dX2_gatherNumbers_20 rfl rfl rfl ?_
        refine gf_X2_30 (pc' := 24) hC dX2_gatherNumbers_21 rfl ?_
        refine al_la (pc' := 25) hC (by decide) dX2_gatherNumbers_24 rfl ?_
        refine g_icmp_ge (pc' := 28) (tgt := 50) hC dX2_gatherNumbers_25 (by decide) rfl h (fun h => ?_) (fun h => ?_)
        · refine g_aload_n (pc' := 29) (i := 0) hC dX2_gatherNumbers_28 rfl rfl rfl ?_
          refine gf_X2_30 (pc' := 32) hC dX2_gatherNumbers_29 rfl ?_
          refine g_iload_n (pc' := 33) (i := 2) hC dX2_gatherNumbers_32 rfl rfl rfl ?_
          refine g_aload_n (pc' := 34) (i := 1) hC dX2_gatherNumbers_33 rfl rfl rfl ?_
          refine g_aload_n (pc' := 35) (i := 0) hC dX2_gatherNumbers_34 rfl rfl rfl ?_
          refine gf_X2_23 (pc' := 38) hC dX2_gatherNumbers_35 rfl ?_
          refine g_iload_n (pc' := 39) (i := 2) hC dX2_gatherNumbers_38 rfl rfl rfl ?_
          obtain ⟨g_1, h⟩ := gd_some h
          refine ld_wch (pc' := 40) hC g_1 dX2_gatherNumbers_39 rfl ?_
          obtain ⟨a_2, hc_3, h⟩ := bd1_some h
          refine g_callV (pc' := 43) hC (c_X0_numberAt _ hv1 hc_3) ml_X2_133 (rc_Col hv1) (by decide) rfl rfl rfl rfl dX2_gatherNumbers_40 rfl ?_
          obtain ⟨g_4, h⟩ := gd_some h
          refine st_la (pc' := 44) hC (by decide) g_4 dX2_gatherNumbers_43 rfl ?_
          refine g_iinc (pc' := 47) (i := 2) (x := v2) (k := (nI 1)) (lo' := [some (.ref (ea E 37)), some (.ref (ea E (4 * v1))), some (.int (v2 + (nI 1)))]) hC dX2_gatherNumbers_44 rfl (by decide) rfl rfl rfl rfl ?_
          refine g_goto (tgt := 2) hC dX2_gatherNumbers_47 (by decide) ?_
          exact hk2 _ _ h
        · obtain rfl := inj1 h; exact g_vret hC dX2_gatherNumbers_50
      · obtain rfl := inj1 h; exact g_vret hC dX2_gatherNumbers_50
    · obtain rfl := inj1 h; exact g_vret hC dX2_gatherNumbers_50)
set_option maxRecDepth 200000 in
theorem c_X2_gatherNumbers (l : Launch) {E : GE} {laz : Nat → Nat → Int64} {v1 : Nat} (hv1 : v1 < 6) (h : p_X2_gatherNumbers v1 xn la wch wcc = some laz) : Met l yX2_gatherNumbers (.code yX2_gatherNumbers cX2_gatherNumbers 3 none :: gU) rm_X2_gatherNumbers (gP E (xws E xk xo xc xt xn xl rc rv rb la wch wcc wpl wun srow ssp sen str stp swd rwp rdr rpd rpv rpc rzp) [.ref (ea E 37), .ref (ea E (4 * v1))]) (gQ E (xws E xk xo xc xt xn xl rc rv rb laz wch wcc wpl wun srow ssp sen str stp swd rwp rdr rpd rpv rpc rzp) none) 0 0 E.2.2.1 := by
  refine met_of (y := yX2_gatherNumbers) (own := RX2) (lo := [some (.ref (ea E 37)), some (.ref (ea E (4 * v1))), none]) (by decide) rfl rfl rfl (fun κ hl hC => ?_)
  subst hl
  unfold p_X2_gatherNumbers at h
  refine g_iconst (pc' := 1) (v := (nI 0)) hC dX2_gatherNumbers_0 (by decide) rfl ?_
  refine g_istore_n (pc' := 2) (i := 2) (lo' := [some (.ref (ea E 37)), some (.ref (ea E (4 * v1))), some (.int (nI 0))]) hC dX2_gatherNumbers_1 rfl rfl rfl rfl rfl ?_
  refine w_X2_gatherNumbers_L2 hC hv1  _ _ _ h
set_option maxRecDepth 200000 in
theorem c_X3_push (l : Launch) {E : GE} {rcz : Nat → Int32} {rvz : Nat → Int32} {rbz : Nat → Nat → Int32} {v0 : Nat} {v1 : Int32} (hv0 : v0 < 4) (h : p_X3_push v0 v1 rc rv rb = some (rcz, rvz, rbz)) : Met l yX3_push (.code yX3_push cX3_push 2 none :: gU) rm_X3_push (gP E (xws E xk xo xc xt xn xl rc rv rb la wch wcc wpl wun srow ssp sen str stp swd rwp rdr rpd rpv rpc rzp) [.ref (ea E (24 + 2 * v0)), .int v1]) (gQ E (xws E xk xo xc xt xn xl rcz rvz rbz la wch wcc wpl wun srow ssp sen str stp swd rwp rdr rpd rpv rpc rzp) none) 0 0 E.2.2.1 := by
  refine met_of (y := yX3_push) (own := RX3) (lo := [some (.ref (ea E (24 + 2 * v0))), some (.int v1)]) (by decide) rfl rfl rfl (fun κ hl hC => ?_)
  subst hl
  unfold p_X3_push at h
  refine g_aload_n (pc' := 1) (i := 0) hC dX3_push_0 rfl rfl rfl ?_
  refine gf_X3_15 (pc' := 4) hC hv0 dX3_push_1 rfl ?_
  refine g_if_lt (pc' := 7) (tgt := 19) hC dX3_push_4 (by decide) rfl h (fun h => ?_) (fun h => ?_)
  · refine g_aload_n (pc' := 20) (i := 0) hC dX3_push_19 rfl rfl rfl ?_
    refine g_iconst (pc' := 21) (v := (nI 1)) hC dX3_push_20 (by decide) rfl ?_
    refine pf_X3_19 (pc' := 24) hC hv0 (by decide) dX3_push_21 rfl ?_
    obtain ⟨rfl, rfl, rfl⟩ := inj3 h; exact g_vret hC dX3_push_24
  · refine g_aload_n (pc' := 8) (i := 0) hC dX3_push_7 rfl rfl rfl ?_
    refine gf_X3_15 (pc' := 11) hC hv0 dX3_push_8 rfl ?_
    refine g_aload_n (pc' := 12) (i := 0) hC dX3_push_11 rfl rfl rfl ?_
    refine gf_X3_9 (pc' := 15) hC hv0 dX3_push_12 rfl ?_
    refine al_rb (pc' := 16) hC hv0 dX3_push_15 rfl ?_
    refine g_icmp_lt (pc' := 19) (tgt := 25) hC dX3_push_16 (by decide) rfl h (fun h => ?_) (fun h => ?_)
    · refine g_aload_n (pc' := 26) (i := 0) hC dX3_push_25 rfl rfl rfl ?_
      refine gf_X3_9 (pc' := 29) hC hv0 dX3_push_26 rfl ?_
      refine g_aload_n (pc' := 30) (i := 0) hC dX3_push_29 rfl rfl rfl ?_
      refine gf_X3_15 (pc' := 33) hC hv0 dX3_push_30 rfl ?_
      refine g_iload_n (pc' := 34) (i := 1) hC dX3_push_33 rfl rfl rfl ?_
      refine g_i2b (pc' := 35) hC dX3_push_34 rfl ?_
      obtain ⟨g_1, h⟩ := gd_some h
      refine st_rbb (pc' := 36) hC hv0 g_1 dX3_push_35 rfl ?_
      refine g_aload_n (pc' := 37) (i := 0) hC dX3_push_36 rfl rfl rfl ?_
      refine g_dup (pc' := 38) hC dX3_push_37 rfl rfl ?_
      refine gf_X3_15 (pc' := 41) hC hv0 dX3_push_38 rfl ?_
      refine g_iconst (pc' := 42) (v := (nI 1)) hC dX3_push_41 (by decide) rfl ?_
      refine g_iadd (pc' := 43) hC dX3_push_42 rfl ?_
      refine pf_X3_15 (pc' := 46) hC hv0 dX3_push_43 rfl ?_
      obtain ⟨rfl, rfl, rfl⟩ := inj3 h; exact g_vret hC dX3_push_46
    · refine g_aload_n (pc' := 20) (i := 0) hC dX3_push_19 rfl rfl rfl ?_
      refine g_iconst (pc' := 21) (v := (nI 1)) hC dX3_push_20 (by decide) rfl ?_
      refine pf_X3_19 (pc' := 24) hC hv0 (by decide) dX3_push_21 rfl ?_
      obtain ⟨rfl, rfl, rfl⟩ := inj3 h; exact g_vret hC dX3_push_24
set_option maxRecDepth 200000 in
theorem w_X2_pushLetters_L9 {κ : GK} {E : GE} {rcz : Nat → Int32} {rvz : Nat → Int32} {rbz : Nat → Nat → Int32} {v1 : Nat} {v2 : Int32} {v3 : Int64}  (hC : gC κ E cX2_pushLetters RX2 none rm_X2_pushLetters 6) (hv1 : v1 < 6)  : ∀ (n : Nat) (v5 : Int32) (rc : Nat → Int32) (rv : Nat → Int32) (rb : Nat → Nat → Int32), itr4 (p_X2_pushLetters_L9 v1 v2 v3 xl) n v5 rc rv rb = some (rcz, rvz, rbz) → GG κ E (xws E xk xo xc xt xn xl rcz rvz rbz la wch wcc wpl wun srow ssp sen str stp swd rwp rdr rpd rpv rpc rzp, none) (xws E xk xo xc xt xn xl rc rv rb la wch wcc wpl wun srow ssp sen str stp swd rwp rdr rpd rpv rpc rzp) 9 [some (.ref (ea E 37)), some (.ref (ea E (4 * v1))), some (.int v2), some (.long v3), none, some (.int v5)] [] :=
  itr4_ind (fun k9 hk9 v5 rc rv rb h => by
    unfold p_X2_pushLetters_L9 at h
    refine g_iload (pc' := 11) (i := 5) hC dX2_pushLetters_9 rfl rfl ?_
    refine g_bipush (pc' := 13) (v := (nI 40)) hC dX2_pushLetters_11 (by decide) rfl ?_
    refine g_icmp_ge (pc' := 16) (tgt := 44) hC dX2_pushLetters_13 (by decide) rfl h (fun h => ?_) (fun h => ?_)
    · refine g_iload (pc' := 18) (i := 5) hC dX2_pushLetters_16 rfl rfl ?_
      refine g_i2l (pc' := 19) hC dX2_pushLetters_18 rfl ?_
      refine g_lload_n (pc' := 20) (i := 3) hC dX2_pushLetters_19 rfl rfl rfl ?_
      refine g_lcmp_ge (pc' := 24) (tgt := 44) hC dX2_pushLetters_20 dX2_pushLetters_21 rfl (by decide) rfl h (fun h => ?_) (fun h => ?_)
      · refine g_aload_n (pc' := 25) (i := 0) hC dX2_pushLetters_24 rfl rfl rfl ?_
        refine gf_X2_20 (pc' := 28) hC dX2_pushLetters_25 rfl ?_
        refine g_aload_n (pc' := 29) (i := 1) hC dX2_pushLetters_28 rfl rfl rfl ?_
        refine g_iload_n (pc' := 30) (i := 2) hC dX2_pushLetters_29 rfl rfl rfl ?_
        refine g_iload (pc' := 32) (i := 5) hC dX2_pushLetters_30 rfl rfl ?_
        obtain ⟨a_3, hc_4, h⟩ := bd1_some h
        refine g_callV (pc' := 35) hC (c_X0_letterAt _ hv1 hc_4) ml_X2_159 (rc_Col hv1) (by decide) rfl rfl rfl rfl dX2_pushLetters_32 rfl ?_
        obtain ⟨rc_5, rv_6, rb_7, hc_8, h⟩ := bd3_some h
        refine g_callV (pc' := 38) hC (c_X3_push _ (by decide) hc_8) ml_X2_113 (rc_Row (by decide)) (by decide) rfl rfl rfl rfl dX2_pushLetters_35 rfl ?_
        refine g_iinc (pc' := 41) (i := 5) (x := v5) (k := (nI 1)) (lo' := [some (.ref (ea E 37)), some (.ref (ea E (4 * v1))), some (.int v2), some (.long v3), none, some (.int (v5 + (nI 1)))]) hC dX2_pushLetters_38 rfl (by decide) rfl rfl rfl rfl ?_
        refine g_goto (tgt := 9) hC dX2_pushLetters_41 (by decide) ?_
        exact hk9 _ _ _ _ h
      · obtain ⟨rfl, rfl, rfl⟩ := inj3 h; exact g_vret hC dX2_pushLetters_44
    · obtain ⟨rfl, rfl, rfl⟩ := inj3 h; exact g_vret hC dX2_pushLetters_44)
set_option maxRecDepth 200000 in
theorem c_X2_pushLetters (l : Launch) {E : GE} {rcz : Nat → Int32} {rvz : Nat → Int32} {rbz : Nat → Nat → Int32} {v1 : Nat} {v2 : Int32} (hv1 : v1 < 6) (h : p_X2_pushLetters v1 v2 xn xl rc rv rb = some (rcz, rvz, rbz)) : Met l yX2_pushLetters (.code yX2_pushLetters cX2_pushLetters 6 none :: gU) rm_X2_pushLetters (gP E (xws E xk xo xc xt xn xl rc rv rb la wch wcc wpl wun srow ssp sen str stp swd rwp rdr rpd rpv rpc rzp) [.ref (ea E 37), .ref (ea E (4 * v1)), .int v2]) (gQ E (xws E xk xo xc xt xn xl rcz rvz rbz la wch wcc wpl wun srow ssp sen str stp swd rwp rdr rpd rpv rpc rzp) none) 0 0 E.2.2.1 := by
  refine met_of (y := yX2_pushLetters) (own := RX2) (lo := [some (.ref (ea E 37)), some (.ref (ea E (4 * v1))), some (.int v2), none, none, none]) (by decide) rfl rfl rfl (fun κ hl hC => ?_)
  subst hl
  unfold p_X2_pushLetters at h
  refine g_aload_n (pc' := 1) (i := 1) hC dX2_pushLetters_0 rfl rfl rfl ?_
  refine g_iload_n (pc' := 2) (i := 2) hC dX2_pushLetters_1 rfl rfl rfl ?_
  obtain ⟨a_1, hc_2, h⟩ := bd1_some h
  refine g_callV (pc' := 5) hC (c_X0_numberAt _ hv1 hc_2) ml_X2_133 (rc_Col hv1) (by decide) rfl rfl rfl rfl dX2_pushLetters_2 rfl ?_
  refine g_lstore_n (pc' := 6) (i := 3) (lo' := [some (.ref (ea E 37)), some (.ref (ea E (4 * v1))), some (.int v2), some (.long a_1), none, none]) hC dX2_pushLetters_5 rfl rfl rfl rfl rfl ?_
  refine g_iconst (pc' := 7) (v := (nI 0)) hC dX2_pushLetters_6 (by decide) rfl ?_
  refine g_istore (pc' := 9) (i := 5) (lo' := [some (.ref (ea E 37)), some (.ref (ea E (4 * v1))), some (.int v2), some (.long a_1), none, some (.int (nI 0))]) hC dX2_pushLetters_7 rfl rfl rfl rfl ?_
  refine w_X2_pushLetters_L9 hC hv1  _ _ _ _ _ h
set_option maxRecDepth 200000 in
theorem w_X2_pushAllLetters_L2 {κ : GK} {E : GE} {rcz : Nat → Int32} {rvz : Nat → Int32} {rbz : Nat → Nat → Int32} {v1 : Nat}  (hC : gC κ E cX2_pushAllLetters RX2 none rm_X2_pushAllLetters 3) (hv1 : v1 < 6)  : ∀ (n : Nat) (v2 : Int32) (rc : Nat → Int32) (rv : Nat → Int32) (rb : Nat → Nat → Int32), itr4 (p_X2_pushAllLetters_L2 v1 xn xl wch wcc) n v2 rc rv rb = some (rcz, rvz, rbz) → GG κ E (xws E xk xo xc xt xn xl rcz rvz rbz la wch wcc wpl wun srow ssp sen str stp swd rwp rdr rpd rpv rpc rzp, none) (xws E xk xo xc xt xn xl rc rv rb la wch wcc wpl wun srow ssp sen str stp swd rwp rdr rpd rpv rpc rzp) 2 [some (.ref (ea E 37)), some (.ref (ea E (4 * v1))), some (.int v2)] [] :=
  itr4_ind (fun k2 hk2 v2 rc rv rb h => by
    unfold p_X2_pushAllLetters_L2 at h
    refine g_iload_n (pc' := 3) (i := 2) hC dX2_pushAllLetters_2 rfl rfl rfl ?_
    refine g_aload_n (pc' := 4) (i := 0) hC dX2_pushAllLetters_3 rfl rfl rfl ?_
    refine gf_X2_100 (pc' := 7) hC dX2_pushAllLetters_4 rfl ?_
    refine g_icmp_ge (pc' := 10) (tgt := 36) hC dX2_pushAllLetters_7 (by decide) rfl h (fun h => ?_) (fun h => ?_)
    · refine g_iload_n (pc' := 11) (i := 2) hC dX2_pushAllLetters_10 rfl rfl rfl ?_
      refine g_aload_n (pc' := 12) (i := 0) hC dX2_pushAllLetters_11 rfl rfl rfl ?_
      refine gf_X2_23 (pc' := 15) hC dX2_pushAllLetters_12 rfl ?_
      refine al_wch (pc' := 16) hC dX2_pushAllLetters_15 rfl ?_
      refine g_icmp_ge (pc' := 19) (tgt := 36) hC dX2_pushAllLetters_16 (by decide) rfl h (fun h => ?_) (fun h => ?_)
      · refine g_aload_n (pc' := 20) (i := 0) hC dX2_pushAllLetters_19 rfl rfl rfl ?_
        refine g_aload_n (pc' := 21) (i := 1) hC dX2_pushAllLetters_20 rfl rfl rfl ?_
        refine g_aload_n (pc' := 22) (i := 0) hC dX2_pushAllLetters_21 rfl rfl rfl ?_
        refine gf_X2_23 (pc' := 25) hC dX2_pushAllLetters_22 rfl ?_
        refine g_iload_n (pc' := 26) (i := 2) hC dX2_pushAllLetters_25 rfl rfl rfl ?_
        obtain ⟨g_1, h⟩ := gd_some h
        refine ld_wch (pc' := 27) hC g_1 dX2_pushAllLetters_26 rfl ?_
        obtain ⟨rc_2, rv_3, rb_4, hc_5, h⟩ := bd3_some h
        refine g_callV (pc' := 30) hC (c_X2_pushLetters _ hv1 hc_5) ml_X2_155 (rc_Wr) (by decide) rfl rfl rfl rfl dX2_pushAllLetters_27 rfl ?_
        refine g_iinc (pc' := 33) (i := 2) (x := v2) (k := (nI 1)) (lo' := [some (.ref (ea E 37)), some (.ref (ea E (4 * v1))), some (.int (v2 + (nI 1)))]) hC dX2_pushAllLetters_30 rfl (by decide) rfl rfl rfl rfl ?_
        refine g_goto (tgt := 2) hC dX2_pushAllLetters_33 (by decide) ?_
        exact hk2 _ _ _ _ h
      · obtain ⟨rfl, rfl, rfl⟩ := inj3 h; exact g_vret hC dX2_pushAllLetters_36
    · obtain ⟨rfl, rfl, rfl⟩ := inj3 h; exact g_vret hC dX2_pushAllLetters_36)
set_option maxRecDepth 200000 in
theorem c_X2_pushAllLetters (l : Launch) {E : GE} {rcz : Nat → Int32} {rvz : Nat → Int32} {rbz : Nat → Nat → Int32} {v1 : Nat} (hv1 : v1 < 6) (h : p_X2_pushAllLetters v1 xn xl rc rv rb wch wcc = some (rcz, rvz, rbz)) : Met l yX2_pushAllLetters (.code yX2_pushAllLetters cX2_pushAllLetters 3 none :: gU) rm_X2_pushAllLetters (gP E (xws E xk xo xc xt xn xl rc rv rb la wch wcc wpl wun srow ssp sen str stp swd rwp rdr rpd rpv rpc rzp) [.ref (ea E 37), .ref (ea E (4 * v1))]) (gQ E (xws E xk xo xc xt xn xl rcz rvz rbz la wch wcc wpl wun srow ssp sen str stp swd rwp rdr rpd rpv rpc rzp) none) 0 0 E.2.2.1 := by
  refine met_of (y := yX2_pushAllLetters) (own := RX2) (lo := [some (.ref (ea E 37)), some (.ref (ea E (4 * v1))), none]) (by decide) rfl rfl rfl (fun κ hl hC => ?_)
  subst hl
  unfold p_X2_pushAllLetters at h
  refine g_iconst (pc' := 1) (v := (nI 0)) hC dX2_pushAllLetters_0 (by decide) rfl ?_
  refine g_istore_n (pc' := 2) (i := 2) (lo' := [some (.ref (ea E 37)), some (.ref (ea E (4 * v1))), some (.int (nI 0))]) hC dX2_pushAllLetters_1 rfl rfl rfl rfl rfl ?_
  refine w_X2_pushAllLetters_L2 hC hv1  _ _ _ _ _ h
set_option maxRecDepth 200000 in
theorem w_X3_pushVar_L5 {κ : GK} {E : GE} {rcz : Nat → Int32} {rvz : Nat → Int32} {rbz : Nat → Nat → Int32} {v0 : Nat}  (hC : gC κ E cX3_pushVar RX3 none rm_X3_pushVar 6) (hv0 : v0 < 4)  : ∀ (n : Nat) (v3 : Int64) (v5 : Int32) (rc : Nat → Int32) (rv : Nat → Int32) (rb : Nat → Nat → Int32), itr5 (p_X3_pushVar_L5 v0) n v3 v5 rc rv rb = some (rcz, rvz, rbz) → GG κ E (xws E xk xo xc xt xn xl rcz rvz rbz la wch wcc wpl wun srow ssp sen str stp swd rwp rdr rpd rpv rpc rzp, none) (xws E xk xo xc xt xn xl rc rv rb la wch wcc wpl wun srow ssp sen str stp swd rwp rdr rpd rpv rpc rzp) 5 [some (.ref (ea E (24 + 2 * v0))), none, none, some (.long v3), none, some (.int v5)] [] :=
  itr5_ind (fun k5 hk5 v3 v5 rc rv rb h => by
    unfold p_X3_pushVar_L5 at h
    refine g_iload (pc' := 7) (i := 5) hC dX3_pushVar_5 rfl rfl ?_
    refine g_bipush (pc' := 9) (v := (nI 9)) hC dX3_pushVar_7 (by decide) rfl ?_
    refine g_icmp_ge (pc' := 12) (tgt := 46) hC dX3_pushVar_9 (by decide) rfl h (fun h => ?_) (fun h => ?_)
    · refine g_lload_n (pc' := 13) (i := 3) hC dX3_pushVar_12 rfl rfl rfl ?_
      refine g_bipush (pc' := 15) (v := (nI 7)) hC dX3_pushVar_13 (by decide) rfl ?_
      refine g_lushr (pc' := 16) hC dX3_pushVar_15 rfl ?_
      refine g_lconst (pc' := 17) (v := (lN 0)) hC dX3_pushVar_16 (by decide) rfl ?_
      refine g_lcmp_eq (pc' := 21) (tgt := 46) hC dX3_pushVar_17 dX3_pushVar_18 rfl (by decide) rfl h (fun h => ?_) (fun h => ?_)
      · refine g_aload_n (pc' := 47) (i := 0) hC dX3_pushVar_46 rfl rfl rfl ?_
        refine g_lload_n (pc' := 48) (i := 3) hC dX3_pushVar_47 rfl rfl rfl ?_
        refine g_l2i (pc' := 49) hC dX3_pushVar_48 rfl ?_
        obtain ⟨rc_1, rv_2, rb_3, hc_4, h⟩ := bd3_some h
        refine g_callV (pc' := 52) hC (c_X3_push _ hv0 hc_4) ml_X3_36 (rc_Row hv0) (by decide) rfl rfl rfl rfl dX3_pushVar_49 rfl ?_
        obtain ⟨rfl, rfl, rfl⟩ := inj3 h; exact g_vret hC dX3_pushVar_52
      · refine g_aload_n (pc' := 22) (i := 0) hC dX3_pushVar_21 rfl rfl rfl ?_
        refine g_lload_n (pc' := 23) (i := 3) hC dX3_pushVar_22 rfl rfl rfl ?_
        refine g_ldc2_w (pc' := 26) (v := (lN 127)) hC u_8 dX3_pushVar_23 rfl ?_
        refine g_land (pc' := 27) hC dX3_pushVar_26 rfl ?_
        refine g_l2i (pc' := 28) hC dX3_pushVar_27 rfl ?_
        refine g_sipush (pc' := 31) (v := (nI 128)) hC dX3_pushVar_28 (by decide) rfl ?_
        refine g_iadd (pc' := 32) hC dX3_pushVar_31 rfl ?_
        obtain ⟨rc_5, rv_6, rb_7, hc_8, h⟩ := bd3_some h
        refine g_callV (pc' := 35) hC (c_X3_push _ hv0 hc_8) ml_X3_36 (rc_Row hv0) (by decide) rfl rfl rfl rfl dX3_pushVar_32 rfl ?_
        refine g_lload_n (pc' := 36) (i := 3) hC dX3_pushVar_35 rfl rfl rfl ?_
        refine g_bipush (pc' := 38) (v := (nI 7)) hC dX3_pushVar_36 (by decide) rfl ?_
        refine g_lushr (pc' := 39) hC dX3_pushVar_38 rfl ?_
        refine g_lstore_n (pc' := 40) (i := 3) (lo' := [some (.ref (ea E (24 + 2 * v0))), none, none, some (.long (lushr v3 (nI 7))), none, some (.int v5)]) hC dX3_pushVar_39 rfl rfl rfl rfl rfl ?_
        refine g_iinc (pc' := 43) (i := 5) (x := v5) (k := (nI 1)) (lo' := [some (.ref (ea E (24 + 2 * v0))), none, none, some (.long (lushr v3 (nI 7))), none, some (.int (v5 + (nI 1)))]) hC dX3_pushVar_40 rfl (by decide) rfl rfl rfl rfl ?_
        refine g_goto (tgt := 5) hC dX3_pushVar_43 (by decide) ?_
        exact hk5 _ _ _ _ _ h
    · refine g_aload_n (pc' := 47) (i := 0) hC dX3_pushVar_46 rfl rfl rfl ?_
      refine g_lload_n (pc' := 48) (i := 3) hC dX3_pushVar_47 rfl rfl rfl ?_
      refine g_l2i (pc' := 49) hC dX3_pushVar_48 rfl ?_
      obtain ⟨rc_9, rv_10, rb_11, hc_12, h⟩ := bd3_some h
      refine g_callV (pc' := 52) hC (c_X3_push _ hv0 hc_12) ml_X3_36 (rc_Row hv0) (by decide) rfl rfl rfl rfl dX3_pushVar_49 rfl ?_
      obtain ⟨rfl, rfl, rfl⟩ := inj3 h; exact g_vret hC dX3_pushVar_52)
set_option maxRecDepth 200000 in
theorem c_X3_pushVar (l : Launch) {E : GE} {rcz : Nat → Int32} {rvz : Nat → Int32} {rbz : Nat → Nat → Int32} {v0 : Nat} {v1 : Int64} (hv0 : v0 < 4) (h : p_X3_pushVar v0 v1 rc rv rb = some (rcz, rvz, rbz)) : Met l yX3_pushVar (.code yX3_pushVar cX3_pushVar 6 none :: gU) rm_X3_pushVar (gP E (xws E xk xo xc xt xn xl rc rv rb la wch wcc wpl wun srow ssp sen str stp swd rwp rdr rpd rpv rpc rzp) [.ref (ea E (24 + 2 * v0)), .long v1]) (gQ E (xws E xk xo xc xt xn xl rcz rvz rbz la wch wcc wpl wun srow ssp sen str stp swd rwp rdr rpd rpv rpc rzp) none) 0 0 E.2.2.1 := by
  refine met_of (y := yX3_pushVar) (own := RX3) (lo := [some (.ref (ea E (24 + 2 * v0))), some (.long v1), none, none, none, none]) (by decide) rfl rfl rfl (fun κ hl hC => ?_)
  subst hl
  unfold p_X3_pushVar at h
  refine g_lload_n (pc' := 1) (i := 1) hC dX3_pushVar_0 rfl rfl rfl ?_
  refine g_lstore_n (pc' := 2) (i := 3) (lo' := [some (.ref (ea E (24 + 2 * v0))), some (.long v1), none, some (.long v1), none, none]) hC dX3_pushVar_1 rfl rfl rfl rfl rfl ?_
  refine g_iconst (pc' := 3) (v := (nI 0)) hC dX3_pushVar_2 (by decide) rfl ?_
  refine g_istore (pc' := 5) (i := 5) (lo' := [some (.ref (ea E (24 + 2 * v0))), some (.long v1), none, some (.long v1), none, some (.int (nI 0))]) hC dX3_pushVar_3 rfl rfl rfl rfl ?_
  refine g_weak (lo' := [some (.ref (ea E (24 + 2 * v0))), none, none, some (.long v1), none, some (.int (nI 0))]) rfl ?_
  refine w_X3_pushVar_L5 hC hv0  _ _ _ _ _ _ h
set_option maxRecDepth 200000 in
theorem c_X5_zigged (l : Launch) {E : GE} {rr : Int64} {v0 : Int64}  (h : p_X5_zigged v0 = some rr) : Met l yX5_zigged (.code yX5_zigged cX5_zigged 2 (some .long) :: gU) rm_X5_zigged (gP E (xws E xk xo xc xt xn xl rc rv rb la wch wcc wpl wun srow ssp sen str stp swd rwp rdr rpd rpv rpc rzp) [.long v0]) (gQ E (xws E xk xo xc xt xn xl rc rv rb la wch wcc wpl wun srow ssp sen str stp swd rwp rdr rpd rpv rpc rzp) (some (.long rr))) 0 0 E.2.2.1 := by
  refine met_of (y := yX5_zigged) (own := RX5) (lo := [some (.long v0), none]) (by decide) rfl rfl rfl (fun κ hl hC => ?_)
  subst hl
  unfold p_X5_zigged at h
  refine g_lload_n (pc' := 1) (i := 0) hC dX5_zigged_0 rfl rfl rfl ?_
  refine g_iconst (pc' := 2) (v := (nI 1)) hC dX5_zigged_1 (by decide) rfl ?_
  refine g_lshl (pc' := 3) hC dX5_zigged_2 rfl ?_
  refine g_lload_n (pc' := 4) (i := 0) hC dX5_zigged_3 rfl rfl rfl ?_
  refine g_bipush (pc' := 6) (v := (nI 63)) hC dX5_zigged_4 (by decide) rfl ?_
  refine g_lshr (pc' := 7) hC dX5_zigged_6 rfl ?_
  refine g_lxor (pc' := 8) hC dX5_zigged_7 rfl ?_
  obtain rfl := inj1 h; exact g_lret hC dX5_zigged_8
set_option maxRecDepth 200000 in
theorem w_X2_pushHead_J90 {κ : GK} {E : GE} {rcz : Nat → Int32} {rvz : Nat → Int32} {rbz : Nat → Nat → Int32} {v2 : Int32} {v3 : Int32} {s1 : Int32}  (hC : gC κ E cX2_pushHead RX2 none rm_X2_pushHead 4)   (h : p_X2_pushHead_J90 v2 v3 s1 rc rv rb = some (rcz, rvz, rbz)) : GG κ E (xws E xk xo xc xt xn xl rcz rvz rbz la wch wcc wpl wun srow ssp sen str stp swd rwp rdr rpd rpv rpc rzp, none) (xws E xk xo xc xt xn xl rc rv rb la wch wcc wpl wun srow ssp sen str stp swd rwp rdr rpd rpv rpc rzp) 90 [some (.ref (ea E 37)), none, some (.int v2), some (.int v3)] [.int s1, .ref (ea E (24 + 2 * 2))] := by
  unfold p_X2_pushHead_J90 at h
  obtain ⟨rc_31, rv_32, rb_33, hc_34, h⟩ := bd3_some h
  refine g_callV (pc' := 93) hC (c_X3_push _ (by decide) hc_34) ml_X2_113 (rc_Row (by decide)) (by decide) rfl rfl rfl rfl dX2_pushHead_90 rfl ?_
  refine g_aload_n (pc' := 94) (i := 0) hC dX2_pushHead_93 rfl rfl rfl ?_
  refine gf_X2_14 (pc' := 97) hC dX2_pushHead_94 rfl ?_
  refine g_bipush (pc' := 99) (v := (nI 21)) hC dX2_pushHead_97 (by decide) rfl ?_
  obtain ⟨rc_35, rv_36, rb_37, hc_38, h⟩ := bd3_some h
  refine g_callV (pc' := 102) hC (c_X3_push _ (by decide) hc_38) ml_X2_113 (rc_Row (by decide)) (by decide) rfl rfl rfl rfl dX2_pushHead_99 rfl ?_
  refine g_aload_n (pc' := 103) (i := 0) hC dX2_pushHead_102 rfl rfl rfl ?_
  refine gf_X2_14 (pc' := 106) hC dX2_pushHead_103 rfl ?_
  refine g_iload_n (pc' := 107) (i := 2) hC dX2_pushHead_106 rfl rfl rfl ?_
  refine g_i2l (pc' := 108) hC dX2_pushHead_107 rfl ?_
  obtain ⟨a_39, hc_40, h⟩ := bd1_some h
  refine g_callN (pc' := 111) hC (c_X5_zigged _ hc_40) ml_X2_116  (by decide) rfl rfl rfl dX2_pushHead_108 rfl ?_
  obtain ⟨rc_41, rv_42, rb_43, hc_44, h⟩ := bd3_some h
  refine g_callV (pc' := 114) hC (c_X3_pushVar _ (by decide) hc_44) ml_X2_120 (rc_Row (by decide)) (by decide) rfl rfl rfl rfl dX2_pushHead_111 rfl ?_
  refine g_aload_n (pc' := 115) (i := 0) hC dX2_pushHead_114 rfl rfl rfl ?_
  refine gf_X2_14 (pc' := 118) hC dX2_pushHead_115 rfl ?_
  refine g_bipush (pc' := 120) (v := (nI 21)) hC dX2_pushHead_118 (by decide) rfl ?_
  obtain ⟨rc_45, rv_46, rb_47, hc_48, h⟩ := bd3_some h
  refine g_callV (pc' := 123) hC (c_X3_push _ (by decide) hc_48) ml_X2_113 (rc_Row (by decide)) (by decide) rfl rfl rfl rfl dX2_pushHead_120 rfl ?_
  refine g_aload_n (pc' := 124) (i := 0) hC dX2_pushHead_123 rfl rfl rfl ?_
  refine gf_X2_14 (pc' := 127) hC dX2_pushHead_124 rfl ?_
  refine g_iload_n (pc' := 128) (i := 3) hC dX2_pushHead_127 rfl rfl rfl ?_
  refine g_i2l (pc' := 129) hC dX2_pushHead_128 rfl ?_
  obtain ⟨a_49, hc_50, h⟩ := bd1_some h
  refine g_callN (pc' := 132) hC (c_X5_zigged _ hc_50) ml_X2_116  (by decide) rfl rfl rfl dX2_pushHead_129 rfl ?_
  obtain ⟨rc_51, rv_52, rb_53, hc_54, h⟩ := bd3_some h
  refine g_callV (pc' := 135) hC (c_X3_pushVar _ (by decide) hc_54) ml_X2_120 (rc_Row (by decide)) (by decide) rfl rfl rfl rfl dX2_pushHead_132 rfl ?_
  refine g_aload_n (pc' := 136) (i := 0) hC dX2_pushHead_135 rfl rfl rfl ?_
  refine gf_X2_14 (pc' := 139) hC dX2_pushHead_136 rfl ?_
  refine g_iconst (pc' := 140) (v := (nI 0)) hC dX2_pushHead_139 (by decide) rfl ?_
  obtain ⟨rc_55, rv_56, rb_57, hc_58, h⟩ := bd3_some h
  refine g_callV (pc' := 143) hC (c_X3_push _ (by decide) hc_58) ml_X2_113 (rc_Row (by decide)) (by decide) rfl rfl rfl rfl dX2_pushHead_140 rfl ?_
  refine g_aload_n (pc' := 144) (i := 0) hC dX2_pushHead_143 rfl rfl rfl ?_
  refine gf_X2_14 (pc' := 147) hC dX2_pushHead_144 rfl ?_
  refine g_iconst (pc' := 148) (v := (nI 0)) hC dX2_pushHead_147 (by decide) rfl ?_
  obtain ⟨rc_59, rv_60, rb_61, hc_62, h⟩ := bd3_some h
  refine g_callV (pc' := 151) hC (c_X3_push _ (by decide) hc_62) ml_X2_113 (rc_Row (by decide)) (by decide) rfl rfl rfl rfl dX2_pushHead_148 rfl ?_
  obtain ⟨rfl, rfl, rfl⟩ := inj3 h; exact g_vret hC dX2_pushHead_151
set_option maxRecDepth 200000 in
theorem c_X2_pushHead (l : Launch) {E : GE} {rcz : Nat → Int32} {rvz : Nat → Int32} {rbz : Nat → Nat → Int32} {v1 : Int32} {v2 : Int32} {v3 : Int32}  (h : p_X2_pushHead v1 v2 v3 rc rv rb = some (rcz, rvz, rbz)) : Met l yX2_pushHead (.code yX2_pushHead cX2_pushHead 4 none :: gU) rm_X2_pushHead (gP E (xws E xk xo xc xt xn xl rc rv rb la wch wcc wpl wun srow ssp sen str stp swd rwp rdr rpd rpv rpc rzp) [.ref (ea E 37), .int v1, .int v2, .int v3]) (gQ E (xws E xk xo xc xt xn xl rcz rvz rbz la wch wcc wpl wun srow ssp sen str stp swd rwp rdr rpd rpv rpc rzp) none) 0 0 E.2.2.1 := by
  refine met_of (y := yX2_pushHead) (own := RX2) (lo := [some (.ref (ea E 37)), some (.int v1), some (.int v2), some (.int v3)]) (by decide) rfl rfl rfl (fun κ hl hC => ?_)
  subst hl
  unfold p_X2_pushHead at h
  refine g_aload_n (pc' := 1) (i := 0) hC dX2_pushHead_0 rfl rfl rfl ?_
  refine gf_X2_14 (pc' := 4) hC dX2_pushHead_1 rfl ?_
  refine g_bipush (pc' := 6) (v := (nI 21)) hC dX2_pushHead_4 (by decide) rfl ?_
  obtain ⟨rc_1, rv_2, rb_3, hc_4, h⟩ := bd3_some h
  refine g_callV (pc' := 9) hC (c_X3_push _ (by decide) hc_4) ml_X2_113 (rc_Row (by decide)) (by decide) rfl rfl rfl rfl dX2_pushHead_6 rfl ?_
  refine g_aload_n (pc' := 10) (i := 0) hC dX2_pushHead_9 rfl rfl rfl ?_
  refine gf_X2_14 (pc' := 13) hC dX2_pushHead_10 rfl ?_
  refine g_iload_n (pc' := 14) (i := 1) hC dX2_pushHead_13 rfl rfl rfl ?_
  refine g_i2l (pc' := 15) hC dX2_pushHead_14 rfl ?_
  obtain ⟨a_5, hc_6, h⟩ := bd1_some h
  refine g_callN (pc' := 18) hC (c_X5_zigged _ hc_6) ml_X2_116  (by decide) rfl rfl rfl dX2_pushHead_15 rfl ?_
  obtain ⟨rc_7, rv_8, rb_9, hc_10, h⟩ := bd3_some h
  refine g_callV (pc' := 21) hC (c_X3_pushVar _ (by decide) hc_10) ml_X2_120 (rc_Row (by decide)) (by decide) rfl rfl rfl rfl dX2_pushHead_18 rfl ?_
  refine g_aload_n (pc' := 22) (i := 0) hC dX2_pushHead_21 rfl rfl rfl ?_
  refine gf_X2_14 (pc' := 25) hC dX2_pushHead_22 rfl ?_
  refine g_bipush (pc' := 27) (v := (nI 21)) hC dX2_pushHead_25 (by decide) rfl ?_
  obtain ⟨rc_11, rv_12, rb_13, hc_14, h⟩ := bd3_some h
  refine g_callV (pc' := 30) hC (c_X3_push _ (by decide) hc_14) ml_X2_113 (rc_Row (by decide)) (by decide) rfl rfl rfl rfl dX2_pushHead_27 rfl ?_
  refine g_aload_n (pc' := 31) (i := 0) hC dX2_pushHead_30 rfl rfl rfl ?_
  refine gf_X2_14 (pc' := 34) hC dX2_pushHead_31 rfl ?_
  refine g_aload_n (pc' := 35) (i := 0) hC dX2_pushHead_34 rfl rfl rfl ?_
  refine gf_X2_20 (pc' := 38) hC dX2_pushHead_35 rfl ?_
  refine gf_X2_124 (pc' := 41) hC (by decide) dX2_pushHead_38 rfl ?_
  refine g_i2l (pc' := 42) hC dX2_pushHead_41 rfl ?_
  obtain ⟨a_15, hc_16, h⟩ := bd1_some h
  refine g_callN (pc' := 45) hC (c_X5_zigged _ hc_16) ml_X2_116  (by decide) rfl rfl rfl dX2_pushHead_42 rfl ?_
  obtain ⟨rc_17, rv_18, rb_19, hc_20, h⟩ := bd3_some h
  refine g_callV (pc' := 48) hC (c_X3_pushVar _ (by decide) hc_20) ml_X2_120 (rc_Row (by decide)) (by decide) rfl rfl rfl rfl dX2_pushHead_45 rfl ?_
  refine g_aload_n (pc' := 49) (i := 0) hC dX2_pushHead_48 rfl rfl rfl ?_
  refine gf_X2_14 (pc' := 52) hC dX2_pushHead_49 rfl ?_
  refine g_bipush (pc' := 54) (v := (nI 21)) hC dX2_pushHead_52 (by decide) rfl ?_
  obtain ⟨rc_21, rv_22, rb_23, hc_24, h⟩ := bd3_some h
  refine g_callV (pc' := 57) hC (c_X3_push _ (by decide) hc_24) ml_X2_113 (rc_Row (by decide)) (by decide) rfl rfl rfl rfl dX2_pushHead_54 rfl ?_
  refine g_aload_n (pc' := 58) (i := 0) hC dX2_pushHead_57 rfl rfl rfl ?_
  refine gf_X2_14 (pc' := 61) hC dX2_pushHead_58 rfl ?_
  refine g_aload_n (pc' := 62) (i := 0) hC dX2_pushHead_61 rfl rfl rfl ?_
  refine gf_X2_20 (pc' := 65) hC dX2_pushHead_62 rfl ?_
  refine gf_X2_124 (pc' := 68) hC (by decide) dX2_pushHead_65 rfl ?_
  refine g_i2l (pc' := 69) hC dX2_pushHead_68 rfl ?_
  obtain ⟨a_25, hc_26, h⟩ := bd1_some h
  refine g_callN (pc' := 72) hC (c_X5_zigged _ hc_26) ml_X2_116  (by decide) rfl rfl rfl dX2_pushHead_69 rfl ?_
  obtain ⟨rc_27, rv_28, rb_29, hc_30, h⟩ := bd3_some h
  refine g_callV (pc' := 75) hC (c_X3_pushVar _ (by decide) hc_30) ml_X2_120 (rc_Row (by decide)) (by decide) rfl rfl rfl rfl dX2_pushHead_72 rfl ?_
  refine g_aload_n (pc' := 76) (i := 0) hC dX2_pushHead_75 rfl rfl rfl ?_
  refine gf_X2_14 (pc' := 79) hC dX2_pushHead_76 rfl ?_
  refine g_iload_n (pc' := 80) (i := 1) hC dX2_pushHead_79 rfl rfl rfl ?_
  refine g_if_ne (pc' := 83) (tgt := 88) hC dX2_pushHead_80 (by decide) rfl h (fun h => ?_) (fun h => ?_)
  · refine g_bipush (pc' := 85) (v := (nI 44)) hC dX2_pushHead_83 (by decide) rfl ?_
    refine g_goto (tgt := 90) hC dX2_pushHead_85 (by decide) ?_
    refine g_weak (lo' := [some (.ref (ea E 37)), none, some (.int v2), some (.int v3)]) rfl ?_
    exact w_X2_pushHead_J90 hC   h
  · refine g_bipush (pc' := 90) (v := (nI 76)) hC dX2_pushHead_88 (by decide) rfl ?_
    refine g_weak (lo' := [some (.ref (ea E 37)), none, some (.int v2), some (.int v3)]) rfl ?_
    exact w_X2_pushHead_J90 hC   h
set_option maxRecDepth 200000 in
theorem w_X3_pushLittle_L3 {κ : GK} {E : GE} {rcz : Nat → Int32} {rvz : Nat → Int32} {rbz : Nat → Nat → Int32} {v0 : Nat} {v1 : Int64} {v3 : Int32}  (hC : gC κ E cX3_pushLittle RX3 none rm_X3_pushLittle 5) (hv0 : v0 < 4)  : ∀ (n : Nat) (v4 : Int32) (rc : Nat → Int32) (rv : Nat → Int32) (rb : Nat → Nat → Int32), itr4 (p_X3_pushLittle_L3 v0 v1 v3) n v4 rc rv rb = some (rcz, rvz, rbz) → GG κ E (xws E xk xo xc xt xn xl rcz rvz rbz la wch wcc wpl wun srow ssp sen str stp swd rwp rdr rpd rpv rpc rzp, none) (xws E xk xo xc xt xn xl rc rv rb la wch wcc wpl wun srow ssp sen str stp swd rwp rdr rpd rpv rpc rzp) 3 [some (.ref (ea E (24 + 2 * v0))), some (.long v1), none, some (.int v3), some (.int v4)] [] :=
  itr4_ind (fun k3 hk3 v4 rc rv rb h => by
    unfold p_X3_pushLittle_L3 at h
    refine g_iload (pc' := 5) (i := 4) hC dX3_pushLittle_3 rfl rfl ?_
    refine g_iload_n (pc' := 6) (i := 3) hC dX3_pushLittle_5 rfl rfl rfl ?_
    refine g_icmp_ge (pc' := 9) (tgt := 27) hC dX3_pushLittle_6 (by decide) rfl h (fun h => ?_) (fun h => ?_)
    · refine g_aload_n (pc' := 10) (i := 0) hC dX3_pushLittle_9 rfl rfl rfl ?_
      refine g_lload_n (pc' := 11) (i := 1) hC dX3_pushLittle_10 rfl rfl rfl ?_
      refine g_bipush (pc' := 13) (v := (nI 8)) hC dX3_pushLittle_11 (by decide) rfl ?_
      refine g_iload (pc' := 15) (i := 4) hC dX3_pushLittle_13 rfl rfl ?_
      refine g_imul (pc' := 16) hC dX3_pushLittle_15 rfl ?_
      refine g_lushr (pc' := 17) hC dX3_pushLittle_16 rfl ?_
      refine g_l2i (pc' := 18) hC dX3_pushLittle_17 rfl ?_
      obtain ⟨rc_1, rv_2, rb_3, hc_4, h⟩ := bd3_some h
      refine g_callV (pc' := 21) hC (c_X3_push _ hv0 hc_4) ml_X3_36 (rc_Row hv0) (by decide) rfl rfl rfl rfl dX3_pushLittle_18 rfl ?_
      refine g_iinc (pc' := 24) (i := 4) (x := v4) (k := (nI 1)) (lo' := [some (.ref (ea E (24 + 2 * v0))), some (.long v1), none, some (.int v3), some (.int (v4 + (nI 1)))]) hC dX3_pushLittle_21 rfl (by decide) rfl rfl rfl rfl ?_
      refine g_goto (tgt := 3) hC dX3_pushLittle_24 (by decide) ?_
      exact hk3 _ _ _ _ h
    · obtain ⟨rfl, rfl, rfl⟩ := inj3 h; exact g_vret hC dX3_pushLittle_27)
set_option maxRecDepth 200000 in
theorem c_X3_pushLittle (l : Launch) {E : GE} {rcz : Nat → Int32} {rvz : Nat → Int32} {rbz : Nat → Nat → Int32} {v0 : Nat} {v1 : Int64} {v3 : Int32} (hv0 : v0 < 4) (h : p_X3_pushLittle v0 v1 v3 rc rv rb = some (rcz, rvz, rbz)) : Met l yX3_pushLittle (.code yX3_pushLittle cX3_pushLittle 5 none :: gU) rm_X3_pushLittle (gP E (xws E xk xo xc xt xn xl rc rv rb la wch wcc wpl wun srow ssp sen str stp swd rwp rdr rpd rpv rpc rzp) [.ref (ea E (24 + 2 * v0)), .long v1, .int v3]) (gQ E (xws E xk xo xc xt xn xl rcz rvz rbz la wch wcc wpl wun srow ssp sen str stp swd rwp rdr rpd rpv rpc rzp) none) 0 0 E.2.2.1 := by
  refine met_of (y := yX3_pushLittle) (own := RX3) (lo := [some (.ref (ea E (24 + 2 * v0))), some (.long v1), none, some (.int v3), none]) (by decide) rfl rfl rfl (fun κ hl hC => ?_)
  subst hl
  unfold p_X3_pushLittle at h
  refine g_iconst (pc' := 1) (v := (nI 0)) hC dX3_pushLittle_0 (by decide) rfl ?_
  refine g_istore (pc' := 3) (i := 4) (lo' := [some (.ref (ea E (24 + 2 * v0))), some (.long v1), none, some (.int v3), some (.int (nI 0))]) hC dX3_pushLittle_1 rfl rfl rfl rfl ?_
  refine w_X3_pushLittle_L3 hC hv0  _ _ _ _ _ h
set_option maxRecDepth 200000 in
theorem w_X3_equalFrom_L4 {κ : GK} {E : GE} {rr : Int32} {v0 : Nat} {v1 : Int32} {v2 : Int32}  (hC : gC κ E cX3_equalFrom RX3 (some .int) rm_X3_equalFrom 4) (hv0 : v0 < 3)  : ∀ (n : Nat) (v3 : Int32), itr1 (p_X3_equalFrom_L4 v0 v1 v2 la) n v3 = some rr → GG κ E (xws E xk xo xc xt xn xl rc rv rb la wch wcc wpl wun srow ssp sen str stp swd rwp rdr rpd rpv rpc rzp, some (.int rr)) (xws E xk xo xc xt xn xl rc rv rb la wch wcc wpl wun srow ssp sen str stp swd rwp rdr rpd rpv rpc rzp) 4 [some (.ref (ea E (32 + v0))), some (.int v1), some (.int v2), some (.int v3)] [] :=
  itr1_ind (fun k4 hk4 v3 h => by
    unfold p_X3_equalFrom_L4 at h
    refine g_iload_n (pc' := 5) (i := 1) hC dX3_equalFrom_4 rfl rfl rfl ?_
    refine g_if_lt (pc' := 8) (tgt := 35) hC dX3_equalFrom_5 (by decide) rfl h (fun h => ?_) (fun h => ?_)
    · refine g_iload_n (pc' := 36) (i := 3) hC dX3_equalFrom_35 rfl rfl rfl ?_
      refine g_iload_n (pc' := 37) (i := 1) hC dX3_equalFrom_36 rfl rfl rfl ?_
      refine g_isub (pc' := 38) hC dX3_equalFrom_37 rfl ?_
      obtain rfl := inj1 h; exact g_iret hC dX3_equalFrom_38
    · refine g_iload_n (pc' := 9) (i := 3) hC dX3_equalFrom_8 rfl rfl rfl ?_
      refine g_iload_n (pc' := 10) (i := 2) hC dX3_equalFrom_9 rfl rfl rfl ?_
      refine g_icmp_ge (pc' := 13) (tgt := 35) hC dX3_equalFrom_10 (by decide) rfl h (fun h => ?_) (fun h => ?_)
      · refine g_iload_n (pc' := 14) (i := 3) hC dX3_equalFrom_13 rfl rfl rfl ?_
        refine g_aload_n (pc' := 15) (i := 0) hC dX3_equalFrom_14 rfl rfl rfl ?_
        refine al_la (pc' := 16) hC hv0 dX3_equalFrom_15 rfl ?_
        refine g_icmp_ge (pc' := 19) (tgt := 35) hC dX3_equalFrom_16 (by decide) rfl h (fun h => ?_) (fun h => ?_)
        · refine g_aload_n (pc' := 20) (i := 0) hC dX3_equalFrom_19 rfl rfl rfl ?_
          refine g_iload_n (pc' := 21) (i := 3) hC dX3_equalFrom_20 rfl rfl rfl ?_
          obtain ⟨g_1, h⟩ := gd_some h
          refine ld_la (pc' := 22) hC hv0 g_1 dX3_equalFrom_21 rfl ?_
          refine g_aload_n (pc' := 23) (i := 0) hC dX3_equalFrom_22 rfl rfl rfl ?_
          refine g_iload_n (pc' := 24) (i := 1) hC dX3_equalFrom_23 rfl rfl rfl ?_
          obtain ⟨g_2, h⟩ := gd_some h
          refine ld_la (pc' := 25) hC hv0 g_2 dX3_equalFrom_24 rfl ?_
          refine g_lcmp_ne (pc' := 29) (tgt := 35) hC dX3_equalFrom_25 dX3_equalFrom_26 rfl (by decide) rfl h (fun h => ?_) (fun h => ?_)
          · refine g_iinc (pc' := 32) (i := 3) (x := v3) (k := (nI 1)) (lo' := [some (.ref (ea E (32 + v0))), some (.int v1), some (.int v2), some (.int (v3 + (nI 1)))]) hC dX3_equalFrom_29 rfl (by decide) rfl rfl rfl rfl ?_
            refine g_goto (tgt := 4) hC dX3_equalFrom_32 (by decide) ?_
            exact hk4 _ h
          · refine g_iload_n (pc' := 36) (i := 3) hC dX3_equalFrom_35 rfl rfl rfl ?_
            refine g_iload_n (pc' := 37) (i := 1) hC dX3_equalFrom_36 rfl rfl rfl ?_
            refine g_isub (pc' := 38) hC dX3_equalFrom_37 rfl ?_
            obtain rfl := inj1 h; exact g_iret hC dX3_equalFrom_38
        · refine g_iload_n (pc' := 36) (i := 3) hC dX3_equalFrom_35 rfl rfl rfl ?_
          refine g_iload_n (pc' := 37) (i := 1) hC dX3_equalFrom_36 rfl rfl rfl ?_
          refine g_isub (pc' := 38) hC dX3_equalFrom_37 rfl ?_
          obtain rfl := inj1 h; exact g_iret hC dX3_equalFrom_38
      · refine g_iload_n (pc' := 36) (i := 3) hC dX3_equalFrom_35 rfl rfl rfl ?_
        refine g_iload_n (pc' := 37) (i := 1) hC dX3_equalFrom_36 rfl rfl rfl ?_
        refine g_isub (pc' := 38) hC dX3_equalFrom_37 rfl ?_
        obtain rfl := inj1 h; exact g_iret hC dX3_equalFrom_38)
set_option maxRecDepth 200000 in
theorem c_X3_equalFrom (l : Launch) {E : GE} {rr : Int32} {v0 : Nat} {v1 : Int32} {v2 : Int32} (hv0 : v0 < 3) (h : p_X3_equalFrom v0 v1 v2 la = some rr) : Met l yX3_equalFrom (.code yX3_equalFrom cX3_equalFrom 4 (some .int) :: gU) rm_X3_equalFrom (gP E (xws E xk xo xc xt xn xl rc rv rb la wch wcc wpl wun srow ssp sen str stp swd rwp rdr rpd rpv rpc rzp) [.ref (ea E (32 + v0)), .int v1, .int v2]) (gQ E (xws E xk xo xc xt xn xl rc rv rb la wch wcc wpl wun srow ssp sen str stp swd rwp rdr rpd rpv rpc rzp) (some (.int rr))) 0 0 E.2.2.1 := by
  refine met_of (y := yX3_equalFrom) (own := RX3) (lo := [some (.ref (ea E (32 + v0))), some (.int v1), some (.int v2), none]) (by decide) rfl rfl rfl (fun κ hl hC => ?_)
  subst hl
  unfold p_X3_equalFrom at h
  refine g_iload_n (pc' := 1) (i := 1) hC dX3_equalFrom_0 rfl rfl rfl ?_
  refine g_iconst (pc' := 2) (v := (nI 1)) hC dX3_equalFrom_1 (by decide) rfl ?_
  refine g_iadd (pc' := 3) hC dX3_equalFrom_2 rfl ?_
  refine g_istore_n (pc' := 4) (i := 3) (lo' := [some (.ref (ea E (32 + v0))), some (.int v1), some (.int v2), some (.int (v1 + (nI 1)))]) hC dX3_equalFrom_3 rfl rfl rfl rfl rfl ?_
  refine w_X3_equalFrom_L4 hC hv0  _ _ h
set_option maxRecDepth 200000 in
theorem w_X3_groupsEnd_L5 {κ : GK} {E : GE} {rr : Int32} {v0 : Nat} {v2 : Int32}  (hC : gC κ E cX3_groupsEnd RX3 (some .int) rm_X3_groupsEnd 4) (hv0 : v0 < 3)  : ∀ (n : Nat) (v3 : Int32), itr1 (p_X3_groupsEnd_L5 v0 v2 la) n v3 = some rr → GG κ E (xws E xk xo xc xt xn xl rc rv rb la wch wcc wpl wun srow ssp sen str stp swd rwp rdr rpd rpv rpc rzp, some (.int rr)) (xws E xk xo xc xt xn xl rc rv rb la wch wcc wpl wun srow ssp sen str stp swd rwp rdr rpd rpv rpc rzp) 5 [some (.ref (ea E (32 + v0))), none, some (.int v2), some (.int v3)] [] :=
  itr1_ind (fun k5 hk5 v3 h => by
    unfold p_X3_groupsEnd_L5 at h
    refine g_iload_n (pc' := 6) (i := 3) hC dX3_groupsEnd_5 rfl rfl rfl ?_
    refine g_iload_n (pc' := 7) (i := 2) hC dX3_groupsEnd_6 rfl rfl rfl ?_
    refine g_icmp_ge (pc' := 10) (tgt := 27) hC dX3_groupsEnd_7 (by decide) rfl h (fun h => ?_) (fun h => ?_)
    · refine g_aload_n (pc' := 11) (i := 0) hC dX3_groupsEnd_10 rfl rfl rfl ?_
      refine g_iload_n (pc' := 12) (i := 3) hC dX3_groupsEnd_11 rfl rfl rfl ?_
      refine g_iload_n (pc' := 13) (i := 2) hC dX3_groupsEnd_12 rfl rfl rfl ?_
      obtain ⟨a_1, hc_2, h⟩ := bd1_some h
      refine g_callS (pc' := 16) hC (c_X3_equalFrom _ hv0 hc_2) ml_X3_46  (by decide) rfl rfl rfl dX3_groupsEnd_13 rfl ?_
      refine g_bipush (pc' := 18) (v := (nI 8)) hC dX3_groupsEnd_16 (by decide) rfl ?_
      refine g_icmp_ge (pc' := 21) (tgt := 27) hC dX3_groupsEnd_18 (by decide) rfl h (fun h => ?_) (fun h => ?_)
      · refine g_iinc (pc' := 24) (i := 3) (x := v3) (k := (nI 8)) (lo' := [some (.ref (ea E (32 + v0))), none, some (.int v2), some (.int (v3 + (nI 8)))]) hC dX3_groupsEnd_21 rfl (by decide) rfl rfl rfl rfl ?_
        refine g_goto (tgt := 5) hC dX3_groupsEnd_24 (by decide) ?_
        exact hk5 _ h
      · refine g_iload_n (pc' := 28) (i := 3) hC dX3_groupsEnd_27 rfl rfl rfl ?_
        refine g_iload_n (pc' := 29) (i := 2) hC dX3_groupsEnd_28 rfl rfl rfl ?_
        refine g_imin (pc' := 32) hC math_X3_23 (by decide) dX3_groupsEnd_29 rfl rfl ?_
        obtain rfl := inj1 h; exact g_iret hC dX3_groupsEnd_32
    · refine g_iload_n (pc' := 28) (i := 3) hC dX3_groupsEnd_27 rfl rfl rfl ?_
      refine g_iload_n (pc' := 29) (i := 2) hC dX3_groupsEnd_28 rfl rfl rfl ?_
      refine g_imin (pc' := 32) hC math_X3_23 (by decide) dX3_groupsEnd_29 rfl rfl ?_
      obtain rfl := inj1 h; exact g_iret hC dX3_groupsEnd_32)
set_option maxRecDepth 200000 in
theorem c_X3_groupsEnd (l : Launch) {E : GE} {rr : Int32} {v0 : Nat} {v1 : Int32} {v2 : Int32} (hv0 : v0 < 3) (h : p_X3_groupsEnd v0 v1 v2 la = some rr) : Met l yX3_groupsEnd (.code yX3_groupsEnd cX3_groupsEnd 4 (some .int) :: gU) rm_X3_groupsEnd (gP E (xws E xk xo xc xt xn xl rc rv rb la wch wcc wpl wun srow ssp sen str stp swd rwp rdr rpd rpv rpc rzp) [.ref (ea E (32 + v0)), .int v1, .int v2]) (gQ E (xws E xk xo xc xt xn xl rc rv rb la wch wcc wpl wun srow ssp sen str stp swd rwp rdr rpd rpv rpc rzp) (some (.int rr))) 0 0 E.2.2.1 := by
  refine met_of (y := yX3_groupsEnd) (own := RX3) (lo := [some (.ref (ea E (32 + v0))), some (.int v1), some (.int v2), none]) (by decide) rfl rfl rfl (fun κ hl hC => ?_)
  subst hl
  unfold p_X3_groupsEnd at h
  refine g_iload_n (pc' := 1) (i := 1) hC dX3_groupsEnd_0 rfl rfl rfl ?_
  refine g_bipush (pc' := 3) (v := (nI 8)) hC dX3_groupsEnd_1 (by decide) rfl ?_
  refine g_iadd (pc' := 4) hC dX3_groupsEnd_3 rfl ?_
  refine g_istore_n (pc' := 5) (i := 3) (lo' := [some (.ref (ea E (32 + v0))), some (.int v1), some (.int v2), some (.int (v1 + (nI 8)))]) hC dX3_groupsEnd_4 rfl rfl rfl rfl rfl ?_
  refine g_weak (lo' := [some (.ref (ea E (32 + v0))), none, some (.int v2), some (.int (v1 + (nI 8)))]) rfl ?_
  refine w_X3_groupsEnd_L5 hC hv0  _ _ h
set_option maxRecDepth 200000 in
theorem w_X3_pushPacked_L49 {κ : GK} {E : GE} {rcz : Nat → Int32} {rvz : Nat → Int32} {rbz : Nat → Nat → Int32} {v0 : Nat} {v1 : Nat} {v2 : Int32} {v3 : Int32} {v4 : Int32} {v5 : Int32} {v8 : Int32} {v9 : Int64} {k100 : Int32 → Int32 → (Nat → Int32) → (Nat → Int32) → (Nat → Nat → Int32) → Option ((Nat → Int32) × (Nat → Int32) × (Nat → Nat → Int32))} (hC : gC κ E cX3_pushPacked RX3 none rm_X3_pushPacked 12) (hv0 : v0 < 4) (hv1 : v1 < 3) (hk100 : ∀ (v6 : Int32) (v7 : Int32) (rc : Nat → Int32) (rv : Nat → Int32) (rb : Nat → Nat → Int32), k100 v6 v7 rc rv rb = some (rcz, rvz, rbz) → GG κ E (xws E xk xo xc xt xn xl rcz rvz rbz la wch wcc wpl wun srow ssp sen str stp swd rwp rdr rpd rpv rpc rzp, none) (xws E xk xo xc xt xn xl rc rv rb la wch wcc wpl wun srow ssp sen str stp swd rwp rdr rpd rpv rpc rzp) 100 [some (.ref (ea E (24 + 2 * v0))), some (.ref (ea E (32 + v1))), some (.int v2), some (.int v3), some (.int v4), some (.int v5), some (.int v6), some (.int v7), some (.int v8), none, none, none] []) : ∀ (n : Nat) (v6 : Int32) (v7 : Int32) (v11 : Int32) (rc : Nat → Int32) (rv : Nat → Int32) (rb : Nat → Nat → Int32), itr6 (p_X3_pushPacked_L49 v0 v5 v9 k100) n v6 v7 v11 rc rv rb = some (rcz, rvz, rbz) → GG κ E (xws E xk xo xc xt xn xl rcz rvz rbz la wch wcc wpl wun srow ssp sen str stp swd rwp rdr rpd rpv rpc rzp, none) (xws E xk xo xc xt xn xl rc rv rb la wch wcc wpl wun srow ssp sen str stp swd rwp rdr rpd rpv rpc rzp) 49 [some (.ref (ea E (24 + 2 * v0))), some (.ref (ea E (32 + v1))), some (.int v2), some (.int v3), some (.int v4), some (.int v5), some (.int v6), some (.int v7), some (.int v8), some (.long v9), none, some (.int v11)] [] :=
  itr6_ind (fun k49 hk49 v6 v7 v11 rc rv rb h => by
    unfold p_X3_pushPacked_L49 at h
    refine g_iload (pc' := 51) (i := 11) hC dX3_pushPacked_49 rfl rfl ?_
    refine g_iload (pc' := 53) (i := 5) hC dX3_pushPacked_51 rfl rfl ?_
    refine g_icmp_ge (pc' := 56) (tgt := 100) hC dX3_pushPacked_53 (by decide) rfl h (fun h => ?_) (fun h => ?_)
    · refine g_iload (pc' := 58) (i := 6) hC dX3_pushPacked_56 rfl rfl ?_
      refine g_lload (pc' := 60) (i := 9) hC dX3_pushPacked_58 rfl rfl ?_
      refine g_iload (pc' := 62) (i := 11) hC dX3_pushPacked_60 rfl rfl ?_
      refine g_lushr (pc' := 63) hC dX3_pushPacked_62 rfl ?_
      refine g_lconst (pc' := 64) (v := (lN 1)) hC dX3_pushPacked_63 (by decide) rfl ?_
      refine g_land (pc' := 65) hC dX3_pushPacked_64 rfl ?_
      refine g_l2i (pc' := 66) hC dX3_pushPacked_65 rfl ?_
      refine g_iload (pc' := 68) (i := 7) hC dX3_pushPacked_66 rfl rfl ?_
      refine g_ishl (pc' := 69) hC dX3_pushPacked_68 rfl ?_
      refine g_ior (pc' := 70) hC dX3_pushPacked_69 rfl ?_
      refine g_istore (pc' := 72) (i := 6) (lo' := [some (.ref (ea E (24 + 2 * v0))), some (.ref (ea E (32 + v1))), some (.int v2), some (.int v3), some (.int v4), some (.int v5), some (.int (v6 ||| (ishl (l2i ((lushr v9 v11) &&& (lN 1))) v7))), some (.int v7), some (.int v8), some (.long v9), none, some (.int v11)]) hC dX3_pushPacked_70 rfl rfl rfl rfl ?_
      refine g_iinc (pc' := 75) (i := 7) (x := v7) (k := (nI 1)) (lo' := [some (.ref (ea E (24 + 2 * v0))), some (.ref (ea E (32 + v1))), some (.int v2), some (.int v3), some (.int v4), some (.int v5), some (.int (v6 ||| (ishl (l2i ((lushr v9 v11) &&& (lN 1))) v7))), some (.int (v7 + (nI 1))), some (.int v8), some (.long v9), none, some (.int v11)]) hC dX3_pushPacked_72 rfl (by decide) rfl rfl rfl rfl ?_
      refine g_iload (pc' := 77) (i := 7) hC dX3_pushPacked_75 rfl rfl ?_
      refine g_bipush (pc' := 79) (v := (nI 8)) hC dX3_pushPacked_77 (by decide) rfl ?_
      refine g_icmp_ne (pc' := 82) (tgt := 94) hC dX3_pushPacked_79 (by decide) rfl h (fun h => ?_) (fun h => ?_)
      · refine g_aload_n (pc' := 83) (i := 0) hC dX3_pushPacked_82 rfl rfl rfl ?_
        refine g_iload (pc' := 85) (i := 6) hC dX3_pushPacked_83 rfl rfl ?_
        obtain ⟨rc_1, rv_2, rb_3, hc_4, h⟩ := bd3_some h
        refine g_callV (pc' := 88) hC (c_X3_push _ hv0 hc_4) ml_X3_36 (rc_Row hv0) (by decide) rfl rfl rfl rfl dX3_pushPacked_85 rfl ?_
        refine g_iconst (pc' := 89) (v := (nI 0)) hC dX3_pushPacked_88 (by decide) rfl ?_
        refine g_istore (pc' := 91) (i := 6) (lo' := [some (.ref (ea E (24 + 2 * v0))), some (.ref (ea E (32 + v1))), some (.int v2), some (.int v3), some (.int v4), some (.int v5), some (.int (nI 0)), some (.int (v7 + (nI 1))), some (.int v8), some (.long v9), none, some (.int v11)]) hC dX3_pushPacked_89 rfl rfl rfl rfl ?_
        refine g_iconst (pc' := 92) (v := (nI 0)) hC dX3_pushPacked_91 (by decide) rfl ?_
        refine g_istore (pc' := 94) (i := 7) (lo' := [some (.ref (ea E (24 + 2 * v0))), some (.ref (ea E (32 + v1))), some (.int v2), some (.int v3), some (.int v4), some (.int v5), some (.int (nI 0)), some (.int (nI 0)), some (.int v8), some (.long v9), none, some (.int v11)]) hC dX3_pushPacked_92 rfl rfl rfl rfl ?_
        refine g_iinc (pc' := 97) (i := 11) (x := v11) (k := (nI 1)) (lo' := [some (.ref (ea E (24 + 2 * v0))), some (.ref (ea E (32 + v1))), some (.int v2), some (.int v3), some (.int v4), some (.int v5), some (.int (nI 0)), some (.int (nI 0)), some (.int v8), some (.long v9), none, some (.int (v11 + (nI 1)))]) hC dX3_pushPacked_94 rfl (by decide) rfl rfl rfl rfl ?_
        refine g_goto (tgt := 49) hC dX3_pushPacked_97 (by decide) ?_
        exact hk49 _ _ _ _ _ _ h
      · refine g_iinc (pc' := 97) (i := 11) (x := v11) (k := (nI 1)) (lo' := [some (.ref (ea E (24 + 2 * v0))), some (.ref (ea E (32 + v1))), some (.int v2), some (.int v3), some (.int v4), some (.int v5), some (.int (v6 ||| (ishl (l2i ((lushr v9 v11) &&& (lN 1))) v7))), some (.int (v7 + (nI 1))), some (.int v8), some (.long v9), none, some (.int (v11 + (nI 1)))]) hC dX3_pushPacked_94 rfl (by decide) rfl rfl rfl rfl ?_
        refine g_goto (tgt := 49) hC dX3_pushPacked_97 (by decide) ?_
        exact hk49 _ _ _ _ _ _ h
    · refine g_weak (lo' := [some (.ref (ea E (24 + 2 * v0))), some (.ref (ea E (32 + v1))), some (.int v2), some (.int v3), some (.int v4), some (.int v5), some (.int v6), some (.int v7), some (.int v8), none, none, none]) rfl ?_
      exact hk100 _ _ _ _ _ h)
set_option maxRecDepth 200000 in
theorem w_X3_pushPacked_L9 {κ : GK} {E : GE} {rcz : Nat → Int32} {rvz : Nat → Int32} {rbz : Nat → Nat → Int32} {v0 : Nat} {v1 : Nat} {v2 : Int32} {v3 : Int32} {v4 : Int32} {v5 : Int32}  (hC : gC κ E cX3_pushPacked RX3 none rm_X3_pushPacked 12) (hv0 : v0 < 4) (hv1 : v1 < 3)  : ∀ (n : Nat) (v6 : Int32) (v7 : Int32) (v8 : Int32) (rc : Nat → Int32) (rv : Nat → Int32) (rb : Nat → Nat → Int32), itr6 (p_X3_pushPacked_L9 v0 v1 v2 v3 v4 v5 la) n v6 v7 v8 rc rv rb = some (rcz, rvz, rbz) → GG κ E (xws E xk xo xc xt xn xl rcz rvz rbz la wch wcc wpl wun srow ssp sen str stp swd rwp rdr rpd rpv rpc rzp, none) (xws E xk xo xc xt xn xl rc rv rb la wch wcc wpl wun srow ssp sen str stp swd rwp rdr rpd rpv rpc rzp) 9 [some (.ref (ea E (24 + 2 * v0))), some (.ref (ea E (32 + v1))), some (.int v2), some (.int v3), some (.int v4), some (.int v5), some (.int v6), some (.int v7), some (.int v8), none, none, none] [] :=
  itr6_ind (fun k9 hk9 v6 v7 v8 rc rv rb h => by
    unfold p_X3_pushPacked_L9 at h
    refine g_iload (pc' := 11) (i := 8) hC dX3_pushPacked_9 rfl rfl ?_
    refine g_iload_n (pc' := 12) (i := 2) hC dX3_pushPacked_11 rfl rfl rfl ?_
    refine g_iload (pc' := 14) (i := 4) hC dX3_pushPacked_12 rfl rfl ?_
    refine g_iadd (pc' := 15) hC dX3_pushPacked_14 rfl ?_
    refine g_icmp_ge (pc' := 18) (tgt := 106) hC dX3_pushPacked_15 (by decide) rfl h (fun h => ?_) (fun h => ?_)
    · refine g_iload (pc' := 20) (i := 8) hC dX3_pushPacked_18 rfl rfl ?_
      refine g_if_lt (pc' := 23) (tgt := 43) hC dX3_pushPacked_20 (by decide) rfl h (fun h => ?_) (fun h => ?_)
      · refine g_lconst (pc' := 44) (v := (lN 0)) hC dX3_pushPacked_43 (by decide) rfl ?_
        refine g_lstore (pc' := 46) (i := 9) (lo' := [some (.ref (ea E (24 + 2 * v0))), some (.ref (ea E (32 + v1))), some (.int v2), some (.int v3), some (.int v4), some (.int v5), some (.int v6), some (.int v7), some (.int v8), some (.long (lN 0)), none, none]) hC dX3_pushPacked_44 rfl rfl rfl rfl ?_
        refine g_iconst (pc' := 47) (v := (nI 0)) hC dX3_pushPacked_46 (by decide) rfl ?_
        refine g_istore (pc' := 49) (i := 11) (lo' := [some (.ref (ea E (24 + 2 * v0))), some (.ref (ea E (32 + v1))), some (.int v2), some (.int v3), some (.int v4), some (.int v5), some (.int v6), some (.int v7), some (.int v8), some (.long (lN 0)), none, some (.int (nI 0))]) hC dX3_pushPacked_47 rfl rfl rfl rfl ?_
        refine w_X3_pushPacked_L49 hC hv0 hv1 ?_ _ _ _ _ _ _ _ h
        · intro v6_5 v7_6 rc_7 rv_8 rb_9 h
          refine g_iinc (pc' := 103) (i := 8) (x := v8) (k := (nI 1)) (lo' := [some (.ref (ea E (24 + 2 * v0))), some (.ref (ea E (32 + v1))), some (.int v2), some (.int v3), some (.int v4), some (.int v5), some (.int v6_5), some (.int v7_6), some (.int (v8 + (nI 1))), none, none, none]) hC dX3_pushPacked_100 rfl (by decide) rfl rfl rfl rfl ?_
          refine g_goto (tgt := 9) hC dX3_pushPacked_103 (by decide) ?_
          exact hk9 _ _ _ _ _ _ h
      · refine g_iload (pc' := 25) (i := 8) hC dX3_pushPacked_23 rfl rfl ?_
        refine g_iload_n (pc' := 26) (i := 3) hC dX3_pushPacked_25 rfl rfl rfl ?_
        refine g_icmp_ge (pc' := 29) (tgt := 43) hC dX3_pushPacked_26 (by decide) rfl h (fun h => ?_) (fun h => ?_)
        · refine g_iload (pc' := 31) (i := 8) hC dX3_pushPacked_29 rfl rfl ?_
          refine g_aload_n (pc' := 32) (i := 1) hC dX3_pushPacked_31 rfl rfl rfl ?_
          refine al_la (pc' := 33) hC hv1 dX3_pushPacked_32 rfl ?_
          refine g_icmp_ge (pc' := 36) (tgt := 43) hC dX3_pushPacked_33 (by decide) rfl h (fun h => ?_) (fun h => ?_)
          · refine g_aload_n (pc' := 37) (i := 1) hC dX3_pushPacked_36 rfl rfl rfl ?_
            refine g_iload (pc' := 39) (i := 8) hC dX3_pushPacked_37 rfl rfl ?_
            obtain ⟨g_10, h⟩ := gd_some h
            refine ld_la (pc' := 40) hC hv1 g_10 dX3_pushPacked_39 rfl ?_
            refine g_goto (tgt := 44) hC dX3_pushPacked_40 (by decide) ?_
            refine g_lstore (pc' := 46) (i := 9) (lo' := [some (.ref (ea E (24 + 2 * v0))), some (.ref (ea E (32 + v1))), some (.int v2), some (.int v3), some (.int v4), some (.int v5), some (.int v6), some (.int v7), some (.int v8), some (.long (la v1 (ix v8))), none, none]) hC dX3_pushPacked_44 rfl rfl rfl rfl ?_
            refine g_iconst (pc' := 47) (v := (nI 0)) hC dX3_pushPacked_46 (by decide) rfl ?_
            refine g_istore (pc' := 49) (i := 11) (lo' := [some (.ref (ea E (24 + 2 * v0))), some (.ref (ea E (32 + v1))), some (.int v2), some (.int v3), some (.int v4), some (.int v5), some (.int v6), some (.int v7), some (.int v8), some (.long (la v1 (ix v8))), none, some (.int (nI 0))]) hC dX3_pushPacked_47 rfl rfl rfl rfl ?_
            refine w_X3_pushPacked_L49 hC hv0 hv1 ?_ _ _ _ _ _ _ _ h
            · intro v6_11 v7_12 rc_13 rv_14 rb_15 h
              refine g_iinc (pc' := 103) (i := 8) (x := v8) (k := (nI 1)) (lo' := [some (.ref (ea E (24 + 2 * v0))), some (.ref (ea E (32 + v1))), some (.int v2), some (.int v3), some (.int v4), some (.int v5), some (.int v6_11), some (.int v7_12), some (.int (v8 + (nI 1))), none, none, none]) hC dX3_pushPacked_100 rfl (by decide) rfl rfl rfl rfl ?_
              refine g_goto (tgt := 9) hC dX3_pushPacked_103 (by decide) ?_
              exact hk9 _ _ _ _ _ _ h
          · refine g_lconst (pc' := 44) (v := (lN 0)) hC dX3_pushPacked_43 (by decide) rfl ?_
            refine g_lstore (pc' := 46) (i := 9) (lo' := [some (.ref (ea E (24 + 2 * v0))), some (.ref (ea E (32 + v1))), some (.int v2), some (.int v3), some (.int v4), some (.int v5), some (.int v6), some (.int v7), some (.int v8), some (.long (lN 0)), none, none]) hC dX3_pushPacked_44 rfl rfl rfl rfl ?_
            refine g_iconst (pc' := 47) (v := (nI 0)) hC dX3_pushPacked_46 (by decide) rfl ?_
            refine g_istore (pc' := 49) (i := 11) (lo' := [some (.ref (ea E (24 + 2 * v0))), some (.ref (ea E (32 + v1))), some (.int v2), some (.int v3), some (.int v4), some (.int v5), some (.int v6), some (.int v7), some (.int v8), some (.long (lN 0)), none, some (.int (nI 0))]) hC dX3_pushPacked_47 rfl rfl rfl rfl ?_
            refine w_X3_pushPacked_L49 hC hv0 hv1 ?_ _ _ _ _ _ _ _ h
            · intro v6_16 v7_17 rc_18 rv_19 rb_20 h
              refine g_iinc (pc' := 103) (i := 8) (x := v8) (k := (nI 1)) (lo' := [some (.ref (ea E (24 + 2 * v0))), some (.ref (ea E (32 + v1))), some (.int v2), some (.int v3), some (.int v4), some (.int v5), some (.int v6_16), some (.int v7_17), some (.int (v8 + (nI 1))), none, none, none]) hC dX3_pushPacked_100 rfl (by decide) rfl rfl rfl rfl ?_
              refine g_goto (tgt := 9) hC dX3_pushPacked_103 (by decide) ?_
              exact hk9 _ _ _ _ _ _ h
        · refine g_lconst (pc' := 44) (v := (lN 0)) hC dX3_pushPacked_43 (by decide) rfl ?_
          refine g_lstore (pc' := 46) (i := 9) (lo' := [some (.ref (ea E (24 + 2 * v0))), some (.ref (ea E (32 + v1))), some (.int v2), some (.int v3), some (.int v4), some (.int v5), some (.int v6), some (.int v7), some (.int v8), some (.long (lN 0)), none, none]) hC dX3_pushPacked_44 rfl rfl rfl rfl ?_
          refine g_iconst (pc' := 47) (v := (nI 0)) hC dX3_pushPacked_46 (by decide) rfl ?_
          refine g_istore (pc' := 49) (i := 11) (lo' := [some (.ref (ea E (24 + 2 * v0))), some (.ref (ea E (32 + v1))), some (.int v2), some (.int v3), some (.int v4), some (.int v5), some (.int v6), some (.int v7), some (.int v8), some (.long (lN 0)), none, some (.int (nI 0))]) hC dX3_pushPacked_47 rfl rfl rfl rfl ?_
          refine w_X3_pushPacked_L49 hC hv0 hv1 ?_ _ _ _ _ _ _ _ h
          · intro v6_21 v7_22 rc_23 rv_24 rb_25 h
            refine g_iinc (pc' := 103) (i := 8) (x := v8) (k := (nI 1)) (lo' := [some (.ref (ea E (24 + 2 * v0))), some (.ref (ea E (32 + v1))), some (.int v2), some (.int v3), some (.int v4), some (.int v5), some (.int v6_21), some (.int v7_22), some (.int (v8 + (nI 1))), none, none, none]) hC dX3_pushPacked_100 rfl (by decide) rfl rfl rfl rfl ?_
            refine g_goto (tgt := 9) hC dX3_pushPacked_103 (by decide) ?_
            exact hk9 _ _ _ _ _ _ h
    · obtain ⟨rfl, rfl, rfl⟩ := inj3 h; exact g_vret hC dX3_pushPacked_106)
set_option maxRecDepth 200000 in
theorem c_X3_pushPacked (l : Launch) {E : GE} {rcz : Nat → Int32} {rvz : Nat → Int32} {rbz : Nat → Nat → Int32} {v0 : Nat} {v1 : Nat} {v2 : Int32} {v3 : Int32} {v4 : Int32} {v5 : Int32} (hv0 : v0 < 4) (hv1 : v1 < 3) (h : p_X3_pushPacked v0 v1 v2 v3 v4 v5 rc rv rb la = some (rcz, rvz, rbz)) : Met l yX3_pushPacked (.code yX3_pushPacked cX3_pushPacked 12 none :: gU) rm_X3_pushPacked (gP E (xws E xk xo xc xt xn xl rc rv rb la wch wcc wpl wun srow ssp sen str stp swd rwp rdr rpd rpv rpc rzp) [.ref (ea E (24 + 2 * v0)), .ref (ea E (32 + v1)), .int v2, .int v3, .int v4, .int v5]) (gQ E (xws E xk xo xc xt xn xl rcz rvz rbz la wch wcc wpl wun srow ssp sen str stp swd rwp rdr rpd rpv rpc rzp) none) 0 0 E.2.2.1 := by
  refine met_of (y := yX3_pushPacked) (own := RX3) (lo := [some (.ref (ea E (24 + 2 * v0))), some (.ref (ea E (32 + v1))), some (.int v2), some (.int v3), some (.int v4), some (.int v5), none, none, none, none, none, none]) (by decide) rfl rfl rfl (fun κ hl hC => ?_)
  subst hl
  unfold p_X3_pushPacked at h
  refine g_iconst (pc' := 1) (v := (nI 0)) hC dX3_pushPacked_0 (by decide) rfl ?_
  refine g_istore (pc' := 3) (i := 6) (lo' := [some (.ref (ea E (24 + 2 * v0))), some (.ref (ea E (32 + v1))), some (.int v2), some (.int v3), some (.int v4), some (.int v5), some (.int (nI 0)), none, none, none, none, none]) hC dX3_pushPacked_1 rfl rfl rfl rfl ?_
  refine g_iconst (pc' := 4) (v := (nI 0)) hC dX3_pushPacked_3 (by decide) rfl ?_
  refine g_istore (pc' := 6) (i := 7) (lo' := [some (.ref (ea E (24 + 2 * v0))), some (.ref (ea E (32 + v1))), some (.int v2), some (.int v3), some (.int v4), some (.int v5), some (.int (nI 0)), some (.int (nI 0)), none, none, none, none]) hC dX3_pushPacked_4 rfl rfl rfl rfl ?_
  refine g_iload_n (pc' := 7) (i := 2) hC dX3_pushPacked_6 rfl rfl rfl ?_
  refine g_istore (pc' := 9) (i := 8) (lo' := [some (.ref (ea E (24 + 2 * v0))), some (.ref (ea E (32 + v1))), some (.int v2), some (.int v3), some (.int v4), some (.int v5), some (.int (nI 0)), some (.int (nI 0)), some (.int v2), none, none, none]) hC dX3_pushPacked_7 rfl rfl rfl rfl ?_
  refine w_X3_pushPacked_L9 hC hv0 hv1  _ _ _ _ _ _ _ h
set_option maxRecDepth 200000 in
theorem w_X3_pushRuns_L6 {κ : GK} {E : GE} {rcz : Nat → Int32} {rvz : Nat → Int32} {rbz : Nat → Nat → Int32} {v0 : Nat} {v1 : Nat} {v2 : Int32} {v3 : Int32}  (hC : gC κ E cX3_pushRuns RX3 none rm_X3_pushRuns 9) (hv0 : v0 < 4) (hv1 : v1 < 3)  : ∀ (n : Nat) (v4 : Int32) (v5 : Int32) (rc : Nat → Int32) (rv : Nat → Int32) (rb : Nat → Nat → Int32), itr5 (p_X3_pushRuns_L6 v0 v1 v2 v3 la) n v4 v5 rc rv rb = some (rcz, rvz, rbz) → GG κ E (xws E xk xo xc xt xn xl rcz rvz rbz la wch wcc wpl wun srow ssp sen str stp swd rwp rdr rpd rpv rpc rzp, none) (xws E xk xo xc xt xn xl rc rv rb la wch wcc wpl wun srow ssp sen str stp swd rwp rdr rpd rpv rpc rzp) 6 [some (.ref (ea E (24 + 2 * v0))), some (.ref (ea E (32 + v1))), some (.int v2), some (.int v3), some (.int v4), some (.int v5), none, none, none] [] :=
  itr5_ind (fun k6 hk6 v4 v5 rc rv rb h => by
    unfold p_X3_pushRuns_L6 at h
    refine g_iload (pc' := 8) (i := 5) hC dX3_pushRuns_6 rfl rfl ?_
    refine g_iload_n (pc' := 9) (i := 2) hC dX3_pushRuns_8 rfl rfl rfl ?_
    refine g_icmp_ge (pc' := 12) (tgt := 140) hC dX3_pushRuns_9 (by decide) rfl h (fun h => ?_) (fun h => ?_)
    · refine g_iload (pc' := 14) (i := 4) hC dX3_pushRuns_12 rfl rfl ?_
      refine g_iload_n (pc' := 15) (i := 2) hC dX3_pushRuns_14 rfl rfl rfl ?_
      refine g_icmp_ge (pc' := 18) (tgt := 140) hC dX3_pushRuns_15 (by decide) rfl h (fun h => ?_) (fun h => ?_)
      · refine g_iload (pc' := 20) (i := 4) hC dX3_pushRuns_18 rfl rfl ?_
        refine g_aload_n (pc' := 21) (i := 1) hC dX3_pushRuns_20 rfl rfl rfl ?_
        refine al_la (pc' := 22) hC hv1 dX3_pushRuns_21 rfl ?_
        refine g_icmp_ge (pc' := 25) (tgt := 140) hC dX3_pushRuns_22 (by decide) rfl h (fun h => ?_) (fun h => ?_)
        · refine g_aload_n (pc' := 26) (i := 1) hC dX3_pushRuns_25 rfl rfl rfl ?_
          refine g_iload (pc' := 28) (i := 4) hC dX3_pushRuns_26 rfl rfl ?_
          refine g_iload_n (pc' := 29) (i := 2) hC dX3_pushRuns_28 rfl rfl rfl ?_
          obtain ⟨a_1, hc_2, h⟩ := bd1_some h
          refine g_callS (pc' := 32) hC (c_X3_equalFrom _ hv1 hc_2) ml_X3_46  (by decide) rfl rfl rfl dX3_pushRuns_29 rfl ?_
          refine g_istore (pc' := 34) (i := 6) (lo' := [some (.ref (ea E (24 + 2 * v0))), some (.ref (ea E (32 + v1))), some (.int v2), some (.int v3), some (.int v4), some (.int v5), some (.int a_1), none, none]) hC dX3_pushRuns_32 rfl rfl rfl rfl ?_
          refine g_iload (pc' := 36) (i := 6) hC dX3_pushRuns_34 rfl rfl ?_
          refine g_bipush (pc' := 38) (v := (nI 8)) hC dX3_pushRuns_36 (by decide) rfl ?_
          refine g_icmp_lt (pc' := 41) (tgt := 77) hC dX3_pushRuns_38 (by decide) rfl h (fun h => ?_) (fun h => ?_)
          · refine g_aload_n (pc' := 78) (i := 1) hC dX3_pushRuns_77 rfl rfl rfl ?_
            refine g_iload (pc' := 80) (i := 4) hC dX3_pushRuns_78 rfl rfl ?_
            refine g_iload_n (pc' := 81) (i := 2) hC dX3_pushRuns_80 rfl rfl rfl ?_
            obtain ⟨a_3, hc_4, h⟩ := bd1_some h
            refine g_callS (pc' := 84) hC (c_X3_groupsEnd _ hv1 hc_4) ml_X3_60  (by decide) rfl rfl rfl dX3_pushRuns_81 rfl ?_
            refine g_istore (pc' := 86) (i := 7) (lo' := [some (.ref (ea E (24 + 2 * v0))), some (.ref (ea E (32 + v1))), some (.int v2), some (.int v3), some (.int v4), some (.int v5), some (.int a_1), some (.int a_3), none]) hC dX3_pushRuns_84 rfl rfl rfl rfl ?_
            refine g_iload (pc' := 88) (i := 7) hC dX3_pushRuns_86 rfl rfl ?_
            refine g_iload (pc' := 90) (i := 4) hC dX3_pushRuns_88 rfl rfl ?_
            refine g_isub (pc' := 91) hC dX3_pushRuns_90 rfl ?_
            obtain ⟨a_5, hc_6, h⟩ := bd1_some h
            refine g_callN (pc' := 94) hC (c_X5_wholeGroups _ hc_6) ml_X3_63  (by decide) rfl rfl rfl dX3_pushRuns_91 rfl ?_
            refine g_istore (pc' := 96) (i := 8) (lo' := [some (.ref (ea E (24 + 2 * v0))), some (.ref (ea E (32 + v1))), some (.int v2), some (.int v3), some (.int v4), some (.int v5), some (.int a_1), some (.int a_3), some (.int a_5)]) hC dX3_pushRuns_94 rfl rfl rfl rfl ?_
            refine g_aload_n (pc' := 97) (i := 0) hC dX3_pushRuns_96 rfl rfl rfl ?_
            refine g_ldc2_w (pc' := 100) (v := (lN 2)) hC u_9 dX3_pushRuns_97 rfl ?_
            refine g_iload (pc' := 102) (i := 8) hC dX3_pushRuns_100 rfl rfl ?_
            refine g_i2l (pc' := 103) hC dX3_pushRuns_102 rfl ?_
            refine g_lmul (pc' := 104) hC dX3_pushRuns_103 rfl ?_
            refine g_lconst (pc' := 105) (v := (lN 1)) hC dX3_pushRuns_104 (by decide) rfl ?_
            refine g_ladd (pc' := 106) hC dX3_pushRuns_105 rfl ?_
            obtain ⟨rc_7, rv_8, rb_9, hc_10, h⟩ := bd3_some h
            refine g_callV (pc' := 109) hC (c_X3_pushVar _ hv0 hc_10) ml_X3_52 (rc_Row hv0) (by decide) rfl rfl rfl rfl dX3_pushRuns_106 rfl ?_
            refine g_aload_n (pc' := 110) (i := 0) hC dX3_pushRuns_109 rfl rfl rfl ?_
            refine g_aload_n (pc' := 111) (i := 1) hC dX3_pushRuns_110 rfl rfl rfl ?_
            refine g_iload (pc' := 113) (i := 4) hC dX3_pushRuns_111 rfl rfl ?_
            refine g_iload (pc' := 115) (i := 7) hC dX3_pushRuns_113 rfl rfl ?_
            refine g_iload (pc' := 117) (i := 8) hC dX3_pushRuns_115 rfl rfl ?_
            refine g_bipush (pc' := 119) (v := (nI 8)) hC dX3_pushRuns_117 (by decide) rfl ?_
            refine g_imul (pc' := 120) hC dX3_pushRuns_119 rfl ?_
            refine g_iload_n (pc' := 121) (i := 3) hC dX3_pushRuns_120 rfl rfl rfl ?_
            obtain ⟨rc_11, rv_12, rb_13, hc_14, h⟩ := bd3_some h
            refine g_callV (pc' := 124) hC (c_X3_pushPacked _ hv0 hv1 hc_14) ml_X3_66 (rc_Row hv0) (by decide) rfl rfl rfl rfl dX3_pushRuns_121 rfl ?_
            refine g_iload (pc' := 126) (i := 4) hC dX3_pushRuns_124 rfl rfl ?_
            refine g_iload (pc' := 128) (i := 8) hC dX3_pushRuns_126 rfl rfl ?_
            refine g_bipush (pc' := 130) (v := (nI 8)) hC dX3_pushRuns_128 (by decide) rfl ?_
            refine g_imul (pc' := 131) hC dX3_pushRuns_130 rfl ?_
            refine g_iadd (pc' := 132) hC dX3_pushRuns_131 rfl ?_
            refine g_istore (pc' := 134) (i := 4) (lo' := [some (.ref (ea E (24 + 2 * v0))), some (.ref (ea E (32 + v1))), some (.int v2), some (.int v3), some (.int (v4 + (a_5 * (nI 8)))), some (.int v5), some (.int a_1), some (.int a_3), some (.int a_5)]) hC dX3_pushRuns_132 rfl rfl rfl rfl ?_
            refine g_iinc (pc' := 137) (i := 5) (x := v5) (k := (nI 1)) (lo' := [some (.ref (ea E (24 + 2 * v0))), some (.ref (ea E (32 + v1))), some (.int v2), some (.int v3), some (.int (v4 + (a_5 * (nI 8)))), some (.int (v5 + (nI 1))), some (.int a_1), some (.int a_3), some (.int a_5)]) hC dX3_pushRuns_134 rfl (by decide) rfl rfl rfl rfl ?_
            refine g_goto (tgt := 6) hC dX3_pushRuns_137 (by decide) ?_
            refine g_weak (lo' := [some (.ref (ea E (24 + 2 * v0))), some (.ref (ea E (32 + v1))), some (.int v2), some (.int v3), some (.int (v4 + (a_5 * (nI 8)))), some (.int (v5 + (nI 1))), none, none, none]) rfl ?_
            exact hk6 _ _ _ _ _ h
          · refine g_aload_n (pc' := 42) (i := 0) hC dX3_pushRuns_41 rfl rfl rfl ?_
            refine g_ldc2_w (pc' := 45) (v := (lN 2)) hC u_9 dX3_pushRuns_42 rfl ?_
            refine g_iload (pc' := 47) (i := 6) hC dX3_pushRuns_45 rfl rfl ?_
            refine g_i2l (pc' := 48) hC dX3_pushRuns_47 rfl ?_
            refine g_lmul (pc' := 49) hC dX3_pushRuns_48 rfl ?_
            obtain ⟨rc_15, rv_16, rb_17, hc_18, h⟩ := bd3_some h
            refine g_callV (pc' := 52) hC (c_X3_pushVar _ hv0 hc_18) ml_X3_52 (rc_Row hv0) (by decide) rfl rfl rfl rfl dX3_pushRuns_49 rfl ?_
            refine g_aload_n (pc' := 53) (i := 0) hC dX3_pushRuns_52 rfl rfl rfl ?_
            refine g_aload_n (pc' := 54) (i := 1) hC dX3_pushRuns_53 rfl rfl rfl ?_
            refine g_iload (pc' := 56) (i := 4) hC dX3_pushRuns_54 rfl rfl ?_
            obtain ⟨g_19, h⟩ := gd_some h
            refine ld_la (pc' := 57) hC hv1 g_19 dX3_pushRuns_56 rfl ?_
            refine g_iload_n (pc' := 58) (i := 3) hC dX3_pushRuns_57 rfl rfl rfl ?_
            refine g_bipush (pc' := 60) (v := (nI 7)) hC dX3_pushRuns_58 (by decide) rfl ?_
            refine g_iadd (pc' := 61) hC dX3_pushRuns_60 rfl ?_
            refine g_bipush (pc' := 63) (v := (nI 8)) hC dX3_pushRuns_61 (by decide) rfl ?_
            refine g_idiv (pc' := 64) hC dX3_pushRuns_63 (by decide) rfl ?_
            obtain ⟨rc_20, rv_21, rb_22, hc_23, h⟩ := bd3_some h
            refine g_callV (pc' := 67) hC (c_X3_pushLittle _ hv0 hc_23) ml_X3_56 (rc_Row hv0) (by decide) rfl rfl rfl rfl dX3_pushRuns_64 rfl ?_
            refine g_iload (pc' := 69) (i := 4) hC dX3_pushRuns_67 rfl rfl ?_
            refine g_iload (pc' := 71) (i := 6) hC dX3_pushRuns_69 rfl rfl ?_
            refine g_iadd (pc' := 72) hC dX3_pushRuns_71 rfl ?_
            refine g_istore (pc' := 74) (i := 4) (lo' := [some (.ref (ea E (24 + 2 * v0))), some (.ref (ea E (32 + v1))), some (.int v2), some (.int v3), some (.int (v4 + a_1)), some (.int v5), some (.int a_1), none, none]) hC dX3_pushRuns_72 rfl rfl rfl rfl ?_
            refine g_goto (tgt := 134) hC dX3_pushRuns_74 (by decide) ?_
            refine g_iinc (pc' := 137) (i := 5) (x := v5) (k := (nI 1)) (lo' := [some (.ref (ea E (24 + 2 * v0))), some (.ref (ea E (32 + v1))), some (.int v2), some (.int v3), some (.int (v4 + a_1)), some (.int (v5 + (nI 1))), some (.int a_1), none, none]) hC dX3_pushRuns_134 rfl (by decide) rfl rfl rfl rfl ?_
            refine g_goto (tgt := 6) hC dX3_pushRuns_137 (by decide) ?_
            refine g_weak (lo' := [some (.ref (ea E (24 + 2 * v0))), some (.ref (ea E (32 + v1))), some (.int v2), some (.int v3), some (.int (v4 + a_1)), some (.int (v5 + (nI 1))), none, none, none]) rfl ?_
            exact hk6 _ _ _ _ _ h
        · obtain ⟨rfl, rfl, rfl⟩ := inj3 h; exact g_vret hC dX3_pushRuns_140
      · obtain ⟨rfl, rfl, rfl⟩ := inj3 h; exact g_vret hC dX3_pushRuns_140
    · obtain ⟨rfl, rfl, rfl⟩ := inj3 h; exact g_vret hC dX3_pushRuns_140)
set_option maxRecDepth 200000 in
theorem c_X3_pushRuns (l : Launch) {E : GE} {rcz : Nat → Int32} {rvz : Nat → Int32} {rbz : Nat → Nat → Int32} {v0 : Nat} {v1 : Nat} {v2 : Int32} {v3 : Int32} (hv0 : v0 < 4) (hv1 : v1 < 3) (h : p_X3_pushRuns v0 v1 v2 v3 rc rv rb la = some (rcz, rvz, rbz)) : Met l yX3_pushRuns (.code yX3_pushRuns cX3_pushRuns 9 none :: gU) rm_X3_pushRuns (gP E (xws E xk xo xc xt xn xl rc rv rb la wch wcc wpl wun srow ssp sen str stp swd rwp rdr rpd rpv rpc rzp) [.ref (ea E (24 + 2 * v0)), .ref (ea E (32 + v1)), .int v2, .int v3]) (gQ E (xws E xk xo xc xt xn xl rcz rvz rbz la wch wcc wpl wun srow ssp sen str stp swd rwp rdr rpd rpv rpc rzp) none) 0 0 E.2.2.1 := by
  refine met_of (y := yX3_pushRuns) (own := RX3) (lo := [some (.ref (ea E (24 + 2 * v0))), some (.ref (ea E (32 + v1))), some (.int v2), some (.int v3), none, none, none, none, none]) (by decide) rfl rfl rfl (fun κ hl hC => ?_)
  subst hl
  unfold p_X3_pushRuns at h
  refine g_iconst (pc' := 1) (v := (nI 0)) hC dX3_pushRuns_0 (by decide) rfl ?_
  refine g_istore (pc' := 3) (i := 4) (lo' := [some (.ref (ea E (24 + 2 * v0))), some (.ref (ea E (32 + v1))), some (.int v2), some (.int v3), some (.int (nI 0)), none, none, none, none]) hC dX3_pushRuns_1 rfl rfl rfl rfl ?_
  refine g_iconst (pc' := 4) (v := (nI 0)) hC dX3_pushRuns_3 (by decide) rfl ?_
  refine g_istore (pc' := 6) (i := 5) (lo' := [some (.ref (ea E (24 + 2 * v0))), some (.ref (ea E (32 + v1))), some (.int v2), some (.int v3), some (.int (nI 0)), some (.int (nI 0)), none, none, none]) hC dX3_pushRuns_4 rfl rfl rfl rfl ?_
  refine w_X3_pushRuns_L6 hC hv0 hv1  _ _ _ _ _ _ h
set_option maxRecDepth 200000 in
theorem c_X3_set (l : Launch) {E : GE} {rbz : Nat → Nat → Int32} {v0 : Nat} {v1 : Int32} {v2 : Int32} (hv0 : v0 < 4) (h : p_X3_set v0 v1 v2 rc rb = some rbz) : Met l yX3_set (.code yX3_set cX3_set 3 none :: gU) rm_X3_set (gP E (xws E xk xo xc xt xn xl rc rv rb la wch wcc wpl wun srow ssp sen str stp swd rwp rdr rpd rpv rpc rzp) [.ref (ea E (24 + 2 * v0)), .int v1, .int v2]) (gQ E (xws E xk xo xc xt xn xl rc rv rbz la wch wcc wpl wun srow ssp sen str stp swd rwp rdr rpd rpv rpc rzp) none) 0 0 E.2.2.1 := by
  refine met_of (y := yX3_set) (own := RX3) (lo := [some (.ref (ea E (24 + 2 * v0))), some (.int v1), some (.int v2)]) (by decide) rfl rfl rfl (fun κ hl hC => ?_)
  subst hl
  unfold p_X3_set at h
  refine g_iload_n (pc' := 1) (i := 1) hC dX3_set_0 rfl rfl rfl ?_
  refine g_if_lt (pc' := 4) (tgt := 29) hC dX3_set_1 (by decide) rfl h (fun h => ?_) (fun h => ?_)
  · obtain rfl := inj1 h; exact g_vret hC dX3_set_29
  · refine g_iload_n (pc' := 5) (i := 1) hC dX3_set_4 rfl rfl rfl ?_
    refine g_aload_n (pc' := 6) (i := 0) hC dX3_set_5 rfl rfl rfl ?_
    refine gf_X3_15 (pc' := 9) hC hv0 dX3_set_6 rfl ?_
    refine g_icmp_ge (pc' := 12) (tgt := 29) hC dX3_set_9 (by decide) rfl h (fun h => ?_) (fun h => ?_)
    · refine g_iload_n (pc' := 13) (i := 1) hC dX3_set_12 rfl rfl rfl ?_
      refine g_aload_n (pc' := 14) (i := 0) hC dX3_set_13 rfl rfl rfl ?_
      refine gf_X3_9 (pc' := 17) hC hv0 dX3_set_14 rfl ?_
      refine al_rb (pc' := 18) hC hv0 dX3_set_17 rfl ?_
      refine g_icmp_ge (pc' := 21) (tgt := 29) hC dX3_set_18 (by decide) rfl h (fun h => ?_) (fun h => ?_)
      · refine g_aload_n (pc' := 22) (i := 0) hC dX3_set_21 rfl rfl rfl ?_
        refine gf_X3_9 (pc' := 25) hC hv0 dX3_set_22 rfl ?_
        refine g_iload_n (pc' := 26) (i := 1) hC dX3_set_25 rfl rfl rfl ?_
        refine g_iload_n (pc' := 27) (i := 2) hC dX3_set_26 rfl rfl rfl ?_
        refine g_i2b (pc' := 28) hC dX3_set_27 rfl ?_
        obtain ⟨g_1, h⟩ := gd_some h
        refine st_rbb (pc' := 29) hC hv0 g_1 dX3_set_28 rfl ?_
        obtain rfl := inj1 h; exact g_vret hC dX3_set_29
      · obtain rfl := inj1 h; exact g_vret hC dX3_set_29
    · obtain rfl := inj1 h; exact g_vret hC dX3_set_29
set_option maxRecDepth 200000 in
theorem w_X3_tellLength_L11 {κ : GK} {E : GE} {rbz : Nat → Nat → Int32} {v0 : Nat} {v1 : Int32} {v2 : Int32}  (hC : gC κ E cX3_tellLength RX3 none rm_X3_tellLength 4) (hv0 : v0 < 4)  : ∀ (n : Nat) (v3 : Int32) (rb : Nat → Nat → Int32), itr2 (p_X3_tellLength_L11 v0 v1 v2 rc) n v3 rb = some rbz → GG κ E (xws E xk xo xc xt xn xl rc rv rbz la wch wcc wpl wun srow ssp sen str stp swd rwp rdr rpd rpv rpc rzp, none) (xws E xk xo xc xt xn xl rc rv rb la wch wcc wpl wun srow ssp sen str stp swd rwp rdr rpd rpv rpc rzp) 11 [some (.ref (ea E (24 + 2 * v0))), some (.int v1), some (.int v2), some (.int v3)] [] :=
  itr2_ind (fun k11 hk11 v3 rb h => by
    unfold p_X3_tellLength_L11 at h
    refine g_iload_n (pc' := 12) (i := 3) hC dX3_tellLength_11 rfl rfl rfl ?_
    refine g_iconst (pc' := 13) (v := (nI 4)) hC dX3_tellLength_12 (by decide) rfl ?_
    refine g_icmp_ge (pc' := 16) (tgt := 35) hC dX3_tellLength_13 (by decide) rfl h (fun h => ?_) (fun h => ?_)
    · refine g_aload_n (pc' := 17) (i := 0) hC dX3_tellLength_16 rfl rfl rfl ?_
      refine g_iload_n (pc' := 18) (i := 1) hC dX3_tellLength_17 rfl rfl rfl ?_
      refine g_iload_n (pc' := 19) (i := 3) hC dX3_tellLength_18 rfl rfl rfl ?_
      refine g_iadd (pc' := 20) hC dX3_tellLength_19 rfl ?_
      refine g_iload_n (pc' := 21) (i := 2) hC dX3_tellLength_20 rfl rfl rfl ?_
      refine g_bipush (pc' := 23) (v := (nI 8)) hC dX3_tellLength_21 (by decide) rfl ?_
      refine g_iload_n (pc' := 24) (i := 3) hC dX3_tellLength_23 rfl rfl rfl ?_
      refine g_imul (pc' := 25) hC dX3_tellLength_24 rfl ?_
      refine g_iushr (pc' := 26) hC dX3_tellLength_25 rfl ?_
      obtain ⟨rb_1, hc_2, h⟩ := bd1_some h
      refine g_callV (pc' := 29) hC (c_X3_set _ hv0 hc_2) ml_X3_42 (rc_Row hv0) (by decide) rfl rfl rfl rfl dX3_tellLength_26 rfl ?_
      refine g_iinc (pc' := 32) (i := 3) (x := v3) (k := (nI 1)) (lo' := [some (.ref (ea E (24 + 2 * v0))), some (.int v1), some (.int v2), some (.int (v3 + (nI 1)))]) hC dX3_tellLength_29 rfl (by decide) rfl rfl rfl rfl ?_
      refine g_goto (tgt := 11) hC dX3_tellLength_32 (by decide) ?_
      exact hk11 _ _ h
    · obtain rfl := inj1 h; exact g_vret hC dX3_tellLength_35)
set_option maxRecDepth 200000 in
theorem c_X3_tellLength (l : Launch) {E : GE} {rbz : Nat → Nat → Int32} {v0 : Nat} {v1 : Int32} (hv0 : v0 < 4) (h : p_X3_tellLength v0 v1 rc rb = some rbz) : Met l yX3_tellLength (.code yX3_tellLength cX3_tellLength 4 none :: gU) rm_X3_tellLength (gP E (xws E xk xo xc xt xn xl rc rv rb la wch wcc wpl wun srow ssp sen str stp swd rwp rdr rpd rpv rpc rzp) [.ref (ea E (24 + 2 * v0)), .int v1]) (gQ E (xws E xk xo xc xt xn xl rc rv rbz la wch wcc wpl wun srow ssp sen str stp swd rwp rdr rpd rpv rpc rzp) none) 0 0 E.2.2.1 := by
  refine met_of (y := yX3_tellLength) (own := RX3) (lo := [some (.ref (ea E (24 + 2 * v0))), some (.int v1), none, none]) (by decide) rfl rfl rfl (fun κ hl hC => ?_)
  subst hl
  unfold p_X3_tellLength at h
  refine g_aload_n (pc' := 1) (i := 0) hC dX3_tellLength_0 rfl rfl rfl ?_
  refine gf_X3_15 (pc' := 4) hC hv0 dX3_tellLength_1 rfl ?_
  refine g_iload_n (pc' := 5) (i := 1) hC dX3_tellLength_4 rfl rfl rfl ?_
  refine g_isub (pc' := 6) hC dX3_tellLength_5 rfl ?_
  refine g_iconst (pc' := 7) (v := (nI 4)) hC dX3_tellLength_6 (by decide) rfl ?_
  refine g_isub (pc' := 8) hC dX3_tellLength_7 rfl ?_
  refine g_istore_n (pc' := 9) (i := 2) (lo' := [some (.ref (ea E (24 + 2 * v0))), some (.int v1), some (.int (((rc v0) - v1) - (nI 4))), none]) hC dX3_tellLength_8 rfl rfl rfl rfl rfl ?_
  refine g_iconst (pc' := 10) (v := (nI 0)) hC dX3_tellLength_9 (by decide) rfl ?_
  refine g_istore_n (pc' := 11) (i := 3) (lo' := [some (.ref (ea E (24 + 2 * v0))), some (.int v1), some (.int (((rc v0) - v1) - (nI 4))), some (.int (nI 0))]) hC dX3_tellLength_10 rfl rfl rfl rfl rfl ?_
  refine w_X3_tellLength_L11 hC hv0  _ _ _ h
set_option maxRecDepth 200000 in
theorem c_X2_pushOwnRuns (l : Launch) {E : GE} {rcz : Nat → Int32} {rvz : Nat → Int32} {rbz : Nat → Nat → Int32} {v1 : Int32}  (h : p_X2_pushOwnRuns v1 rc rv rb la = some (rcz, rvz, rbz)) : Met l yX2_pushOwnRuns (.code yX2_pushOwnRuns cX2_pushOwnRuns 3 none :: gU) rm_X2_pushOwnRuns (gP E (xws E xk xo xc xt xn xl rc rv rb la wch wcc wpl wun srow ssp sen str stp swd rwp rdr rpd rpv rpc rzp) [.ref (ea E 37), .int v1]) (gQ E (xws E xk xo xc xt xn xl rcz rvz rbz la wch wcc wpl wun srow ssp sen str stp swd rwp rdr rpd rpv rpc rzp) none) 0 0 E.2.2.1 := by
  refine met_of (y := yX2_pushOwnRuns) (own := RX2) (lo := [some (.ref (ea E 37)), some (.int v1), none]) (by decide) rfl rfl rfl (fun κ hl hC => ?_)
  subst hl
  unfold p_X2_pushOwnRuns at h
  refine g_aload_n (pc' := 1) (i := 0) hC dX2_pushOwnRuns_0 rfl rfl rfl ?_
  refine gf_X2_20 (pc' := 4) hC dX2_pushOwnRuns_1 rfl ?_
  refine gf_X2_124 (pc' := 7) hC (by decide) dX2_pushOwnRuns_4 rfl ?_
  refine g_istore_n (pc' := 8) (i := 2) (lo' := [some (.ref (ea E 37)), some (.int v1), some (.int (rc 3))]) hC dX2_pushOwnRuns_7 rfl rfl rfl rfl rfl ?_
  refine g_aload_n (pc' := 9) (i := 0) hC dX2_pushOwnRuns_8 rfl rfl rfl ?_
  refine gf_X2_20 (pc' := 12) hC dX2_pushOwnRuns_9 rfl ?_
  refine g_lconst (pc' := 13) (v := (lN 0)) hC dX2_pushOwnRuns_12 (by decide) rfl ?_
  refine g_iconst (pc' := 14) (v := (nI 4)) hC dX2_pushOwnRuns_13 (by decide) rfl ?_
  obtain ⟨rc_1, rv_2, rb_3, hc_4, h⟩ := bd3_some h
  refine g_callV (pc' := 17) hC (c_X3_pushLittle _ (by decide) hc_4) ml_X2_137 (rc_Row (by decide)) (by decide) rfl rfl rfl rfl dX2_pushOwnRuns_14 rfl ?_
  refine g_aload_n (pc' := 18) (i := 0) hC dX2_pushOwnRuns_17 rfl rfl rfl ?_
  refine gf_X2_20 (pc' := 21) hC dX2_pushOwnRuns_18 rfl ?_
  refine g_aload_n (pc' := 22) (i := 0) hC dX2_pushOwnRuns_21 rfl rfl rfl ?_
  refine gf_X2_30 (pc' := 25) hC dX2_pushOwnRuns_22 rfl ?_
  refine g_iload_n (pc' := 26) (i := 1) hC dX2_pushOwnRuns_25 rfl rfl rfl ?_
  refine g_iconst (pc' := 27) (v := (nI 1)) hC dX2_pushOwnRuns_26 (by decide) rfl ?_
  obtain ⟨rc_5, rv_6, rb_7, hc_8, h⟩ := bd3_some h
  refine g_callV (pc' := 30) hC (c_X3_pushRuns _ (by decide) (by decide) hc_8) ml_X2_141 (rc_Row (by decide)) (by decide) rfl rfl rfl rfl dX2_pushOwnRuns_27 rfl ?_
  refine g_aload_n (pc' := 31) (i := 0) hC dX2_pushOwnRuns_30 rfl rfl rfl ?_
  refine gf_X2_20 (pc' := 34) hC dX2_pushOwnRuns_31 rfl ?_
  refine g_iload_n (pc' := 35) (i := 2) hC dX2_pushOwnRuns_34 rfl rfl rfl ?_
  obtain ⟨rb_9, hc_10, h⟩ := bd1_some h
  refine g_callV (pc' := 38) hC (c_X3_tellLength _ (by decide) hc_10) ml_X2_145 (rc_Row (by decide)) (by decide) rfl rfl rfl rfl dX2_pushOwnRuns_35 rfl ?_
  obtain ⟨rfl, rfl, rfl⟩ := inj3 h; exact g_vret hC dX2_pushOwnRuns_38
end WALK
