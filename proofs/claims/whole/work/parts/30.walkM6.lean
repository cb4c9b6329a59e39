section WALK
variable {mk : Nat → Int32} {mo : Nat → Int32} {mm : Nat → Int32} {mt : Nat → Int32} {mv : Nat → Int64} {mx : Nat → Int32} {mp : Nat → Int32} {mtd : Int32} {mf : Nat → Int32} {ms : Int32} {md : Nat → Int32} {mdd : Int32} {mn : Nat → Int64} {mst : Nat → Int64} {mpl : Nat → Int32} {mbb : Nat → Int32} {ma : Int32} {me : Int32} {mb : Int32} {mba : Int32} {mpg : Int32} {mdi : Int32} {mbl : Int32} {mby : Int32} {mw : Nat → Int32} {mz : Int32} {mso : Int32} {mbo : Int32} {mco : Int32} {mcd : Int32} {ml : Nat → Int32} {mr : Int32}
set_option maxRecDepth 200000 in
theorem w_X6_put_L32 {κ : GK} {E : GE} {rr : Int32} {mfz : Nat → Int32} {msz : Int32} {v1 : Int64} {v3 : Int32}  (hC : gC κ E cX6_put RX6 (some .int) rm_X6_put 5)   : ∀ (n : Nat) (v4 : Int32) (mf : Nat → Int32) (ms : Int32), itr3 (p_X6_put_L32 v1 v3) n v4 mf ms = some (rr, mfz, msz) → GG κ E (mws E mk mo mm mt mv mx mp mtd mfz msz md mdd mn mst mpl mbb ma me mb mba mpg mdi mbl mby mw mz mso mbo mco mcd ml mr, some (.int rr)) (mws E mk mo mm mt mv mx mp mtd mf ms md mdd mn mst mpl mbb ma me mb mba mpg mdi mbl mby mw mz mso mbo mco mcd ml mr) 32 [some (.ref (ea E 0)), some (.long v1), none, some (.int v3), some (.int v4)] [] :=
  itr3_ind (fun k32 hk32 v4 mf ms h => by
    unfold p_X6_put_L32 at h
    refine g_iload (pc' := 34) (i := 4) hC dX6_put_32 rfl rfl ?_
    refine g_iload_n (pc' := 35) (i := 3) hC dX6_put_34 rfl rfl rfl ?_
    refine g_icmp_ge (pc' := 38) (tgt := 72) hC dX6_put_35 (by decide) rfl h (fun h => ?_) (fun h => ?_)
    · refine g_aload_n (pc' := 39) (i := 0) hC dX6_put_38 rfl rfl rfl ?_
      refine gf_X6_35 (pc' := 42) hC dX6_put_39 rfl ?_
      refine g_aload_n (pc' := 43) (i := 0) hC dX6_put_42 rfl rfl rfl ?_
      refine gf_X6_166 (pc' := 46) hC dX6_put_43 rfl ?_
      refine g_lload_n (pc' := 47) (i := 1) hC dX6_put_46 rfl rfl rfl ?_
      refine g_bipush (pc' := 49) (v := (nI 8)) hC dX6_put_47 (by decide) rfl ?_
      refine g_iload (pc' := 51) (i := 4) hC dX6_put_49 rfl rfl ?_
      refine g_imul (pc' := 52) hC dX6_put_51 rfl ?_
      refine g_lshr (pc' := 53) hC dX6_put_52 rfl ?_
      refine g_l2i (pc' := 54) hC dX6_put_53 rfl ?_
      refine g_i2b (pc' := 55) hC dX6_put_54 rfl ?_
      obtain ⟨g_3, h⟩ := gd_some h
      refine st_mfb (pc' := 56) hC g_3 dX6_put_55 rfl ?_
      refine g_aload_n (pc' := 57) (i := 0) hC dX6_put_56 rfl rfl rfl ?_
      refine g_dup (pc' := 58) hC dX6_put_57 rfl rfl ?_
      refine gf_X6_166 (pc' := 61) hC dX6_put_58 rfl ?_
      refine g_iconst (pc' := 62) (v := (nI 1)) hC dX6_put_61 (by decide) rfl ?_
      refine g_iadd (pc' := 63) hC dX6_put_62 rfl ?_
      refine pf_X6_166 (pc' := 66) hC dX6_put_63 rfl ?_
      refine g_iinc (pc' := 69) (i := 4) (x := v4) (k := (nI 1)) (lo' := [some (.ref (ea E 0)), some (.long v1), none, some (.int v3), some (.int (v4 + (nI 1)))]) hC dX6_put_66 rfl (by decide) rfl rfl rfl rfl ?_
      refine g_goto (tgt := 32) hC dX6_put_69 (by decide) ?_
      exact hk32 _ _ _ h
    · refine g_aload_n (pc' := 73) (i := 0) hC dX6_put_72 rfl rfl rfl ?_
      refine gf_X6_166 (pc' := 76) hC dX6_put_73 rfl ?_
      obtain ⟨rfl, rfl, rfl⟩ := inj3 h; exact g_iret hC dX6_put_76)
set_option maxRecDepth 200000 in
theorem c_X6_put (l : Launch) {E : GE} {rr : Int32} {mfz : Nat → Int32} {msz : Int32} {v1 : Int64} {v3 : Int32}  (h : p_X6_put v1 v3 mf ms = some (rr, mfz, msz)) : Met l yX6_put (.code yX6_put cX6_put 5 (some .int) :: gU) rm_X6_put (gP E (mws E mk mo mm mt mv mx mp mtd mf ms md mdd mn mst mpl mbb ma me mb mba mpg mdi mbl mby mw mz mso mbo mco mcd ml mr) [.ref (ea E 0), .long v1, .int v3]) (gQ E (mws E mk mo mm mt mv mx mp mtd mfz msz md mdd mn mst mpl mbb ma me mb mba mpg mdi mbl mby mw mz mso mbo mco mcd ml mr) (some (.int rr))) 0 0 E.2.2.1 := by
  refine met_of (y := yX6_put) (own := RX6) (lo := [some (.ref (ea E 0)), some (.long v1), none, some (.int v3), none]) (by decide) rfl rfl rfl (fun κ hl hC => ?_)
  subst hl
  unfold p_X6_put at h
  refine g_iload_n (pc' := 1) (i := 3) hC dX6_put_0 rfl rfl rfl ?_
  refine g_i2l (pc' := 2) hC dX6_put_1 rfl ?_
  refine g_lconst (pc' := 3) (v := (lN 1)) hC dX6_put_2 (by decide) rfl ?_
  refine g_ldc2_w (pc' := 6) (v := (lN 8)) hC u_14 dX6_put_3 rfl ?_
  obtain ⟨a_1, hc_2, h⟩ := bd1_some h
  refine g_callS (pc' := 9) hC (c_X6_in _ hc_2) ml_X6_62  (by decide) rfl rfl rfl dX6_put_6 rfl ?_
  refine g_if_ne (pc' := 12) (tgt := 14) hC dX6_put_9 (by decide) rfl h (fun h => ?_) (fun h => ?_)
  · refine g_iconst (pc' := 13) (v := (-1 : Int32)) hC dX6_put_12 (by decide) rfl ?_
    obtain ⟨rfl, rfl, rfl⟩ := inj3 h; exact g_iret hC dX6_put_13
  · refine g_aload_n (pc' := 15) (i := 0) hC dX6_put_14 rfl rfl rfl ?_
    refine gf_X6_166 (pc' := 18) hC dX6_put_15 rfl ?_
    refine g_iload_n (pc' := 19) (i := 3) hC dX6_put_18 rfl rfl rfl ?_
    refine g_iadd (pc' := 20) hC dX6_put_19 rfl ?_
    refine g_sipush (pc' := 23) (v := (nI 12000)) hC dX6_put_20 (by decide) rfl ?_
    refine g_icmp_le (pc' := 26) (tgt := 29) hC dX6_put_23 (by decide) rfl h (fun h => ?_) (fun h => ?_)
    · refine g_bipush (pc' := 28) (v := (-3 : Int32)) hC dX6_put_26 (by decide) rfl ?_
      obtain ⟨rfl, rfl, rfl⟩ := inj3 h; exact g_iret hC dX6_put_28
    · refine g_iconst (pc' := 30) (v := (nI 0)) hC dX6_put_29 (by decide) rfl ?_
      refine g_istore (pc' := 32) (i := 4) (lo' := [some (.ref (ea E 0)), some (.long v1), none, some (.int v3), some (.int (nI 0))]) hC dX6_put_30 rfl rfl rfl rfl ?_
      refine w_X6_put_L32 hC   _ _ _ _ h
end WALK
