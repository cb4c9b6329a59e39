section WALK
variable {xk : Nat → Int32} {xo : Nat → Int32} {xc : Nat → Int32} {xt : Nat → Nat → Int32} {xn : Nat → Nat → Int64} {xl : Nat → Nat → Int32} {rc : Nat → Int32} {rv : Nat → Int32} {rb : Nat → Nat → Int32} {la : Nat → Nat → Int64} {wch : Nat → Int32} {wcc : Int32} {wpl : Nat → Int32} {wun : Int32} {srow : Option Nat} {ssp : Int32} {sen : Int32} {str : Int32} {stp : Int32} {swd : Nat → Int32} {rwp : Int32} {rdr : Int32} {rpd : Int32} {rpv : Int32} {rpc : Int32} {rzp : Int32}
set_option maxRecDepth 200000 in
theorem c_X5_put (l : Launch) {E : GE} {rr : Int32} {rcz : Nat → Int32} {rvz : Nat → Int32} {rbz : Nat → Nat → Int32} {v1 : Int64} {v3 : Int32}  (h : p_X5_put v1 v3 rc rv rb = some (rr, rcz, rvz, rbz)) : Met l yX5_put (.code yX5_put cX5_put 4 (some .int) :: gU) rm_X5_put (gP E (xws E xk xo xc xt xn xl rc rv rb la wch wcc wpl wun srow ssp sen str stp swd rwp rdr rpd rpv rpc rzp) [.ref (ea E 35), .long v1, .int v3]) (gQ E (xws E xk xo xc xt xn xl rcz rvz rbz la wch wcc wpl wun srow ssp sen str stp swd rwp rdr rpd rpv rpc rzp) (some (.int rr))) 0 0 E.2.2.1 := by
  refine met_of (y := yX5_put) (own := RX5) (lo := [some (.ref (ea E 35)), some (.long v1), none, some (.int v3)]) (by decide) rfl rfl rfl (fun κ hl hC => ?_)
  subst hl
  unfold p_X5_put at h
  refine g_iload_n (pc' := 1) (i := 3) hC dX5_put_0 rfl rfl rfl ?_
  refine g_iconst (pc' := 2) (v := (1 : Int32)) hC dX5_put_1 (by decide) rfl ?_
  refine g_icmp_lt (pc' := 5) (tgt := 11) hC dX5_put_2 (by decide) rfl h (fun h => ?_) (fun h => ?_)
  · refine g_iconst (pc' := 12) (v := (-1 : Int32)) hC dX5_put_11 (by decide) rfl ?_
    obtain ⟨rfl, rfl, rfl, rfl⟩ := inj4 h; exact g_iret hC dX5_put_12
  · refine g_iload_n (pc' := 6) (i := 3) hC dX5_put_5 rfl rfl rfl ?_
    refine g_bipush (pc' := 8) (v := (8 : Int32)) hC dX5_put_6 (by decide) rfl ?_
    refine g_icmp_le (pc' := 11) (tgt := 13) hC dX5_put_8 (by decide) rfl h (fun h => ?_) (fun h => ?_)
    · refine g_iconst (pc' := 12) (v := (-1 : Int32)) hC dX5_put_11 (by decide) rfl ?_
      obtain ⟨rfl, rfl, rfl, rfl⟩ := inj4 h; exact g_iret hC dX5_put_12
    · refine g_aload_n (pc' := 14) (i := 0) hC dX5_put_13 rfl rfl rfl ?_
      refine gf_X5_25 (pc' := 17) hC dX5_put_14 rfl ?_
      refine gf_X5_61 (pc' := 20) hC (by decide) dX5_put_17 rfl ?_
      refine g_iload_n (pc' := 21) (i := 3) hC dX5_put_20 rfl rfl rfl ?_
      refine g_iadd (pc' := 22) hC dX5_put_21 rfl ?_
      refine g_sipush (pc' := 25) (v := (12000 : Int32)) hC dX5_put_22 (by decide) rfl ?_
      refine g_icmp_le (pc' := 28) (tgt := 31) hC dX5_put_25 (by decide) rfl h (fun h => ?_) (fun h => ?_)
      · refine g_bipush (pc' := 30) (v := (-3 : Int32)) hC dX5_put_28 (by decide) rfl ?_
        obtain ⟨rfl, rfl, rfl, rfl⟩ := inj4 h; exact g_iret hC dX5_put_30
      · refine g_aload_n (pc' := 32) (i := 0) hC dX5_put_31 rfl rfl rfl ?_
        refine gf_X5_25 (pc' := 35) hC dX5_put_32 rfl ?_
        refine g_lload_n (pc' := 36) (i := 1) hC dX5_put_35 rfl rfl rfl ?_
        refine g_iload_n (pc' := 37) (i := 3) hC dX5_put_36 rfl rfl rfl ?_
        obtain ⟨rc_1, rv_2, rb_3, hc_4, h⟩ := bd3_some h
        refine g_callV (pc' := 40) hC (c_X3_pushLittle _ (by decide) hc_4) ml_X5_167 (rc_Row (by decide)) (by decide) rfl rfl rfl rfl dX5_put_37 rfl ?_
        refine g_aload_n (pc' := 41) (i := 0) hC dX5_put_40 rfl rfl rfl ?_
        refine gf_X5_25 (pc' := 44) hC dX5_put_41 rfl ?_
        refine gf_X5_61 (pc' := 47) hC (by decide) dX5_put_44 rfl ?_
        obtain ⟨rfl, rfl, rfl, rfl⟩ := inj4 h; exact g_iret hC dX5_put_47
end WALK
