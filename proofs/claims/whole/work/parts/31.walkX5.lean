section WALK
variable {xk : Nat → Int32} {xo : Nat → Int32} {xc : Nat → Int32} {xt : Nat → Nat → Int32} {xn : Nat → Nat → Int64} {xl : Nat → Nat → Int32} {rc : Nat → Int32} {rv : Nat → Int32} {rb : Nat → Nat → Int32} {la : Nat → Nat → Int64} {wch : Nat → Int32} {wcc : Int32} {wpl : Nat → Int32} {wun : Int32} {srow : Option Nat} {ssp : Int32} {sen : Int32} {str : Int32} {stp : Int32} {swd : Nat → Int32} {rwp : Int32} {rdr : Int32} {rpd : Int32} {rpv : Int32} {rpc : Int32} {rzp : Int32}
set_option maxRecDepth 200000 in
theorem w_X2_dataPage_J172 {κ : GK} {E : GE} {rcz : Nat → Int32} {rvz : Nat → Int32} {rbz : Nat → Nat → Int32} {laz : Nat → Nat → Int64} {wchz : Nat → Int32} {wccz : Int32} {v2 : Int32} {v3 : Int32} {v4 : Int32}  (hC : gC κ E cX2_dataPage RX2 none rm_X2_dataPage 5)   (h : p_X2_dataPage_J172 v2 v3 v4 rc rv rb la wch wcc = some (rcz, rvz, rbz, laz, wchz, wccz)) : GG κ E (xws E xk xo xc xt xn xl rcz rvz rbz laz wchz wccz wpl wun srow ssp sen str stp swd rwp rdr rpd rpv rpc rzp, none) (xws E xk xo xc xt xn xl rc rv rb la wch wcc wpl wun srow ssp sen str stp swd rwp rdr rpd rpv rpc rzp) 172 [some (.ref (ea E 37)), none, some (.int v2), some (.int v3), some (.int v4)] [] := by
  unfold p_X2_dataPage_J172 at h
  refine g_aload_n (pc' := 173) (i := 0) hC dX2_dataPage_172 rfl rfl rfl ?_
  refine g_iconst (pc' := 174) (v := (0 : Int32)) hC dX2_dataPage_173 (by decide) rfl ?_
  refine g_iload_n (pc' := 175) (i := 3) hC dX2_dataPage_174 rfl rfl rfl ?_
  refine g_iload_n (pc' := 176) (i := 2) hC dX2_dataPage_175 rfl rfl rfl ?_
  refine g_isub (pc' := 177) hC dX2_dataPage_176 rfl ?_
  refine g_iload (pc' := 179) (i := 4) hC dX2_dataPage_177 rfl rfl ?_
  obtain ⟨rc_13, rv_14, rb_15, hc_16, h⟩ := bd3_some h
  refine g_callV (pc' := 182) hC (c_X2_pushHead _ hc_16) ml_X2_75 (rc_Wr) (by decide) rfl rfl rfl rfl dX2_dataPage_179 rfl ?_
  refine g_aload_n (pc' := 183) (i := 0) hC dX2_dataPage_182 rfl rfl rfl ?_
  refine gf_X2_14 (pc' := 186) hC dX2_dataPage_183 rfl ?_
  refine g_aload_n (pc' := 187) (i := 0) hC dX2_dataPage_186 rfl rfl rfl ?_
  refine gf_X2_20 (pc' := 190) hC dX2_dataPage_187 rfl ?_
  obtain ⟨rc_17, rv_18, rb_19, hc_20, h⟩ := bd3_some h
  refine g_callV (pc' := 193) hC (c_X3_append _ (by decide) (by decide) hc_20) ml_X2_79 (rc_Row (by decide)) (by decide) rfl rfl rfl rfl dX2_dataPage_190 rfl ?_
  obtain ⟨rfl, rfl, rfl, rfl, rfl, rfl⟩ := inj6 h; exact g_vret hC dX2_dataPage_193
set_option maxRecDepth 200000 in
theorem w_X2_dataPage_J117 {κ : GK} {E : GE} {rcz : Nat → Int32} {rvz : Nat → Int32} {rbz : Nat → Nat → Int32} {laz : Nat → Nat → Int64} {wchz : Nat → Int32} {wccz : Int32} {v2 : Int32} {v3 : Int32} {v4 : Int32} {s2 : Int32} {s3 : Int32}  (hC : gC κ E cX2_dataPage RX2 none rm_X2_dataPage 5)   (h : p_X2_dataPage_J117 v2 v3 v4 s2 s3 rc rv rb la wch wcc = some (rcz, rvz, rbz, laz, wchz, wccz)) : GG κ E (xws E xk xo xc xt xn xl rcz rvz rbz laz wchz wccz wpl wun srow ssp sen str stp swd rwp rdr rpd rpv rpc rzp, none) (xws E xk xo xc xt xn xl rc rv rb la wch wcc wpl wun srow ssp sen str stp swd rwp rdr rpd rpv rpc rzp) 117 [some (.ref (ea E 37)), none, some (.int v2), some (.int v3), some (.int v4)] [.int s3, .int s2, .ref (ea E (32 + 0)), .ref (ea E (24 + 2 * 3))] := by
  unfold p_X2_dataPage_J117 at h
  obtain ⟨rc_49, rv_50, rb_51, la_52, hc_53, h⟩ := bd4_some h
  refine g_callV (pc' := 120) hC (c_X3_pushDifferences _ (by decide) (by decide) hc_53) ml_X2_103 (rc_Row (by decide)) (by decide) rfl rfl rfl rfl dX2_dataPage_117 rfl ?_
  refine g_goto (tgt := 172) hC dX2_dataPage_120 (by decide) ?_
  exact w_X2_dataPage_J172 hC   h
set_option maxRecDepth 200000 in
theorem w_X2_dataPage_J28 {κ : GK} {E : GE} {rcz : Nat → Int32} {rvz : Nat → Int32} {rbz : Nat → Nat → Int32} {laz : Nat → Nat → Int64} {wchz : Nat → Int32} {wccz : Int32} {v1 : Nat} {v2 : Int32} {v3 : Int32} {v4 : Int32}  (hC : gC κ E cX2_dataPage RX2 none rm_X2_dataPage 5) (hv1 : v1 < 6)  (h : p_X2_dataPage_J28 v1 v2 v3 v4 xk xt xn xl rc rv rb la wch wcc wpl wun = some (rcz, rvz, rbz, laz, wchz, wccz)) : GG κ E (xws E xk xo xc xt xn xl rcz rvz rbz laz wchz wccz wpl wun srow ssp sen str stp swd rwp rdr rpd rpv rpc rzp, none) (xws E xk xo xc xt xn xl rc rv rb la wch wcc wpl wun srow ssp sen str stp swd rwp rdr rpd rpv rpc rzp) 28 [some (.ref (ea E 37)), some (.ref (ea E (4 * v1))), some (.int v2), some (.int v3), some (.int v4)] [] := by
  unfold p_X2_dataPage_J28 at h
  refine g_aload_n (pc' := 29) (i := 0) hC dX2_dataPage_28 rfl rfl rfl ?_
  refine g_aload_n (pc' := 30) (i := 1) hC dX2_dataPage_29 rfl rfl rfl ?_
  refine g_iload_n (pc' := 31) (i := 2) hC dX2_dataPage_30 rfl rfl rfl ?_
  refine g_iload_n (pc' := 32) (i := 3) hC dX2_dataPage_31 rfl rfl rfl ?_
  obtain ⟨wch_4, wcc_5, hc_6, h⟩ := bd2_some h
  refine g_callV (pc' := 35) hC (c_X2_chooseThere _ hv1 hc_6) ml_X2_94 (rc_Wr) (by decide) rfl rfl rfl rfl dX2_dataPage_32 rfl ?_
  refine g_iload (pc' := 37) (i := 4) hC dX2_dataPage_35 rfl rfl ?_
  refine g_case h (fun c_7 h => ?_) (fun c_7 h => ?_)
  · refine g_tswIn hC (tgt := 80) dX2_dataPage_37 (by rw [c_7]; decide) (by rw [c_7]; decide) (by rw [c_7]; rfl) (by decide) ?_
    refine g_aload_n (pc' := 81) (i := 0) hC dX2_dataPage_80 rfl rfl rfl ?_
    refine g_aload_n (pc' := 82) (i := 1) hC dX2_dataPage_81 rfl rfl rfl ?_
    obtain ⟨rc_8, rv_9, rb_10, la_11, hc_12, h⟩ := bd4_some h
    refine g_callV (pc' := 85) hC (c_X2_pushPlain _ hv1 hc_12) ml_X2_69 (rc_Wr) (by decide) rfl rfl rfl rfl dX2_dataPage_82 rfl ?_
    refine g_goto (tgt := 172) hC dX2_dataPage_85 (by decide) ?_
    refine g_weak (lo' := [some (.ref (ea E 37)), none, some (.int v2), some (.int v3), some (.int v4)]) rfl ?_
    exact w_X2_dataPage_J172 hC   h
  · skip
    refine g_case h (fun c_21 h => ?_) (fun c_21 h => ?_)
    · refine g_tswIn hC (tgt := 168) dX2_dataPage_37 (by rw [c_21]; decide) (by rw [c_21]; decide) (by rw [c_21]; rfl) (by decide) ?_
      refine g_aload_n (pc' := 169) (i := 0) hC dX2_dataPage_168 rfl rfl rfl ?_
      obtain ⟨rc_22, rv_23, rb_24, la_25, hc_26, h⟩ := bd4_some h
      refine g_callV (pc' := 172) hC (c_X2_pushPlaces _ hc_26) ml_X2_110 (rc_Wr) (by decide) rfl rfl rfl rfl dX2_dataPage_169 rfl ?_
      refine g_weak (lo' := [some (.ref (ea E 37)), none, some (.int v2), some (.int v3), some (.int v4)]) rfl ?_
      exact w_X2_dataPage_J172 hC   h
    · skip
      refine g_case h (fun c_27 h => ?_) (fun c_27 h => ?_)
      · refine g_tswIn hC (tgt := 168) dX2_dataPage_37 (by rw [c_27]; decide) (by rw [c_27]; decide) (by rw [c_27]; rfl) (by decide) ?_
        refine g_aload_n (pc' := 169) (i := 0) hC dX2_dataPage_168 rfl rfl rfl ?_
        obtain ⟨rc_28, rv_29, rb_30, la_31, hc_32, h⟩ := bd4_some h
        refine g_callV (pc' := 172) hC (c_X2_pushPlaces _ hc_32) ml_X2_110 (rc_Wr) (by decide) rfl rfl rfl rfl dX2_dataPage_169 rfl ?_
        refine g_weak (lo' := [some (.ref (ea E 37)), none, some (.int v2), some (.int v3), some (.int v4)]) rfl ?_
        exact w_X2_dataPage_J172 hC   h
      · skip
        refine g_case h (fun c_33 h => ?_) (fun c_33 h => ?_)
        · refine g_tswIn hC (tgt := 152) dX2_dataPage_37 (by rw [c_33]; decide) (by rw [c_33]; decide) (by rw [c_33]; rfl) (by decide) ?_
          refine g_aload_n (pc' := 153) (i := 0) hC dX2_dataPage_152 rfl rfl rfl ?_
          refine g_aload_n (pc' := 154) (i := 1) hC dX2_dataPage_153 rfl rfl rfl ?_
          obtain ⟨la_34, hc_35, h⟩ := bd1_some h
          refine g_callV (pc' := 157) hC (c_X2_gatherNumbers _ hv1 hc_35) ml_X2_97 (rc_Wr) (by decide) rfl rfl rfl rfl dX2_dataPage_154 rfl ?_
          refine g_aload_n (pc' := 158) (i := 0) hC dX2_dataPage_157 rfl rfl rfl ?_
          refine g_aload_n (pc' := 159) (i := 0) hC dX2_dataPage_158 rfl rfl rfl ?_
          refine gf_X2_100 (pc' := 162) hC dX2_dataPage_159 rfl ?_
          obtain ⟨rc_36, rv_37, rb_38, hc_39, h⟩ := bd3_some h
          refine g_callV (pc' := 165) hC (c_X2_pushOwnRuns _ hc_39) ml_X2_91 (rc_Wr) (by decide) rfl rfl rfl rfl dX2_dataPage_162 rfl ?_
          refine g_goto (tgt := 172) hC dX2_dataPage_165 (by decide) ?_
          refine g_weak (lo' := [some (.ref (ea E 37)), none, some (.int v2), some (.int v3), some (.int v4)]) rfl ?_
          exact w_X2_dataPage_J172 hC   h
        · skip
          refine g_case h (fun c_40 h => ?_) (fun c_40 h => ?_)
          · refine g_tswIn hC (tgt := 168) dX2_dataPage_37 (by rw [c_40]; decide) (by rw [c_40]; decide) (by rw [c_40]; rfl) (by decide) ?_
            refine g_aload_n (pc' := 169) (i := 0) hC dX2_dataPage_168 rfl rfl rfl ?_
            obtain ⟨rc_41, rv_42, rb_43, la_44, hc_45, h⟩ := bd4_some h
            refine g_callV (pc' := 172) hC (c_X2_pushPlaces _ hc_45) ml_X2_110 (rc_Wr) (by decide) rfl rfl rfl rfl dX2_dataPage_169 rfl ?_
            refine g_weak (lo' := [some (.ref (ea E 37)), none, some (.int v2), some (.int v3), some (.int v4)]) rfl ?_
            exact w_X2_dataPage_J172 hC   h
          · skip
            refine g_case h (fun c_46 h => ?_) (fun c_46 h => ?_)
            · refine g_tswIn hC (tgt := 88) dX2_dataPage_37 (by rw [c_46]; decide) (by rw [c_46]; decide) (by rw [c_46]; rfl) (by decide) ?_
              refine g_aload_n (pc' := 89) (i := 0) hC dX2_dataPage_88 rfl rfl rfl ?_
              refine g_aload_n (pc' := 90) (i := 1) hC dX2_dataPage_89 rfl rfl rfl ?_
              obtain ⟨la_47, hc_48, h⟩ := bd1_some h
              refine g_callV (pc' := 93) hC (c_X2_gatherNumbers _ hv1 hc_48) ml_X2_97 (rc_Wr) (by decide) rfl rfl rfl rfl dX2_dataPage_90 rfl ?_
              refine g_aload_n (pc' := 94) (i := 0) hC dX2_dataPage_93 rfl rfl rfl ?_
              refine gf_X2_20 (pc' := 97) hC dX2_dataPage_94 rfl ?_
              refine g_aload_n (pc' := 98) (i := 0) hC dX2_dataPage_97 rfl rfl rfl ?_
              refine gf_X2_30 (pc' := 101) hC dX2_dataPage_98 rfl ?_
              refine g_aload_n (pc' := 102) (i := 0) hC dX2_dataPage_101 rfl rfl rfl ?_
              refine gf_X2_100 (pc' := 105) hC dX2_dataPage_102 rfl ?_
              refine g_aload_n (pc' := 106) (i := 1) hC dX2_dataPage_105 rfl rfl rfl ?_
              refine gf_X2_56 (pc' := 109) hC hv1 dX2_dataPage_106 rfl ?_
              refine g_if_ne (pc' := 112) (tgt := 116) hC dX2_dataPage_109 (by decide) rfl h (fun h => ?_) (fun h => ?_)
              · refine g_iconst (pc' := 113) (v := (1 : Int32)) hC dX2_dataPage_112 (by decide) rfl ?_
                refine g_goto (tgt := 117) hC dX2_dataPage_113 (by decide) ?_
                refine g_weak (lo' := [some (.ref (ea E 37)), none, some (.int v2), some (.int v3), some (.int v4)]) rfl ?_
                exact w_X2_dataPage_J117 hC   h
              · refine g_iconst (pc' := 117) (v := (0 : Int32)) hC dX2_dataPage_116 (by decide) rfl ?_
                refine g_weak (lo' := [some (.ref (ea E 37)), none, some (.int v2), some (.int v3), some (.int v4)]) rfl ?_
                exact w_X2_dataPage_J117 hC   h
            · skip
              refine g_case h (fun c_54 h => ?_) (fun c_54 h => ?_)
              · refine g_tswIn hC (tgt := 123) dX2_dataPage_37 (by rw [c_54]; decide) (by rw [c_54]; decide) (by rw [c_54]; rfl) (by decide) ?_
                refine g_aload_n (pc' := 124) (i := 0) hC dX2_dataPage_123 rfl rfl rfl ?_
                refine g_aload_n (pc' := 125) (i := 1) hC dX2_dataPage_124 rfl rfl rfl ?_
                obtain ⟨la_55, hc_56, h⟩ := bd1_some h
                refine g_callV (pc' := 128) hC (c_X2_gatherNumbers _ hv1 hc_56) ml_X2_97 (rc_Wr) (by decide) rfl rfl rfl rfl dX2_dataPage_125 rfl ?_
                refine g_aload_n (pc' := 129) (i := 0) hC dX2_dataPage_128 rfl rfl rfl ?_
                refine gf_X2_20 (pc' := 132) hC dX2_dataPage_129 rfl ?_
                refine g_aload_n (pc' := 133) (i := 0) hC dX2_dataPage_132 rfl rfl rfl ?_
                refine gf_X2_30 (pc' := 136) hC dX2_dataPage_133 rfl ?_
                refine g_aload_n (pc' := 137) (i := 0) hC dX2_dataPage_136 rfl rfl rfl ?_
                refine gf_X2_100 (pc' := 140) hC dX2_dataPage_137 rfl ?_
                refine g_iconst (pc' := 141) (v := (1 : Int32)) hC dX2_dataPage_140 (by decide) rfl ?_
                obtain ⟨rc_57, rv_58, rb_59, la_60, hc_61, h⟩ := bd4_some h
                refine g_callV (pc' := 144) hC (c_X3_pushDifferences _ (by decide) (by decide) hc_61) ml_X2_103 (rc_Row (by decide)) (by decide) rfl rfl rfl rfl dX2_dataPage_141 rfl ?_
                refine g_aload_n (pc' := 145) (i := 0) hC dX2_dataPage_144 rfl rfl rfl ?_
                refine g_aload_n (pc' := 146) (i := 1) hC dX2_dataPage_145 rfl rfl rfl ?_
                obtain ⟨rc_62, rv_63, rb_64, hc_65, h⟩ := bd3_some h
                refine g_callV (pc' := 149) hC (c_X2_pushAllLetters _ hv1 hc_65) ml_X2_107 (rc_Wr) (by decide) rfl rfl rfl rfl dX2_dataPage_146 rfl ?_
                refine g_goto (tgt := 172) hC dX2_dataPage_149 (by decide) ?_
                refine g_weak (lo' := [some (.ref (ea E 37)), none, some (.int v2), some (.int v3), some (.int v4)]) rfl ?_
                exact w_X2_dataPage_J172 hC   h
              · skip
                refine g_tswOut hC (tgt := 168) dX2_dataPage_37 (tsw_out6 c_7 c_21 c_27 c_33 c_40 c_46 c_54) (by decide) ?_
                refine g_aload_n (pc' := 169) (i := 0) hC dX2_dataPage_168 rfl rfl rfl ?_
                obtain ⟨rc_66, rv_67, rb_68, la_69, hc_70, h⟩ := bd4_some h
                refine g_callV (pc' := 172) hC (c_X2_pushPlaces _ hc_70) ml_X2_110 (rc_Wr) (by decide) rfl rfl rfl rfl dX2_dataPage_169 rfl ?_
                refine g_weak (lo' := [some (.ref (ea E 37)), none, some (.int v2), some (.int v3), some (.int v4)]) rfl ?_
                exact w_X2_dataPage_J172 hC   h
set_option maxRecDepth 200000 in
theorem c_X2_dataPage (l : Launch) {E : GE} {rcz : Nat → Int32} {rvz : Nat → Int32} {rbz : Nat → Nat → Int32} {laz : Nat → Nat → Int64} {wchz : Nat → Int32} {wccz : Int32} {v1 : Nat} {v2 : Int32} {v3 : Int32} {v4 : Int32} (hv1 : v1 < 6) (h : p_X2_dataPage v1 v2 v3 v4 xk xo xt xn xl rc rv rb la wch wcc wpl wun = some (rcz, rvz, rbz, laz, wchz, wccz)) : Met l yX2_dataPage (.code yX2_dataPage cX2_dataPage 5 none :: gU) rm_X2_dataPage (gP E (xws E xk xo xc xt xn xl rc rv rb la wch wcc wpl wun srow ssp sen str stp swd rwp rdr rpd rpv rpc rzp) [.ref (ea E 37), .ref (ea E (4 * v1)), .int v2, .int v3, .int v4]) (gQ E (xws E xk xo xc xt xn xl rcz rvz rbz laz wchz wccz wpl wun srow ssp sen str stp swd rwp rdr rpd rpv rpc rzp) none) 0 0 E.2.2.1 := by
  refine met_of (y := yX2_dataPage) (own := RX2) (lo := [some (.ref (ea E 37)), some (.ref (ea E (4 * v1))), some (.int v2), some (.int v3), some (.int v4)]) (by decide) rfl rfl rfl (fun κ hl hC => ?_)
  subst hl
  unfold p_X2_dataPage at h
  refine g_aload_n (pc' := 1) (i := 0) hC dX2_dataPage_0 rfl rfl rfl ?_
  refine gf_X2_20 (pc' := 4) hC dX2_dataPage_1 rfl ?_
  obtain ⟨rc_1, rv_2, hc_3, h⟩ := bd2_some h
  refine g_callV (pc' := 7) hC (c_X3_clear _ (by decide) hc_3) ml_X2_34 (rc_Row (by decide)) (by decide) rfl rfl rfl rfl dX2_dataPage_4 rfl ?_
  refine g_aload_n (pc' := 8) (i := 1) hC dX2_dataPage_7 rfl rfl rfl ?_
  refine gf_X2_83 (pc' := 11) hC hv1 dX2_dataPage_8 rfl ?_
  refine g_if_eq (pc' := 14) (tgt := 28) hC dX2_dataPage_11 (by decide) rfl h (fun h => ?_) (fun h => ?_)
  · exact w_X2_dataPage_J28 hC hv1  h
  · refine g_aload_n (pc' := 15) (i := 0) hC dX2_dataPage_14 rfl rfl rfl ?_
    refine g_aload_n (pc' := 16) (i := 1) hC dX2_dataPage_15 rfl rfl rfl ?_
    refine g_iload_n (pc' := 17) (i := 2) hC dX2_dataPage_16 rfl rfl rfl ?_
    refine g_iload_n (pc' := 18) (i := 3) hC dX2_dataPage_17 rfl rfl rfl ?_
    obtain ⟨la_71, hc_72, h⟩ := bd1_some h
    refine g_callV (pc' := 21) hC (c_X2_gatherLevels _ hv1 hc_72) ml_X2_87 (rc_Wr) (by decide) rfl rfl rfl rfl dX2_dataPage_18 rfl ?_
    refine g_aload_n (pc' := 22) (i := 0) hC dX2_dataPage_21 rfl rfl rfl ?_
    refine g_iload_n (pc' := 23) (i := 3) hC dX2_dataPage_22 rfl rfl rfl ?_
    refine g_iload_n (pc' := 24) (i := 2) hC dX2_dataPage_23 rfl rfl rfl ?_
    refine g_isub (pc' := 25) hC dX2_dataPage_24 rfl ?_
    obtain ⟨rc_73, rv_74, rb_75, hc_76, h⟩ := bd3_some h
    refine g_callV (pc' := 28) hC (c_X2_pushOwnRuns _ hc_76) ml_X2_91 (rc_Wr) (by decide) rfl rfl rfl rfl dX2_dataPage_25 rfl ?_
    exact w_X2_dataPage_J28 hC hv1  h
set_option maxRecDepth 200000 in
theorem w_X2_chooseUnlike_J73 {κ : GK} {E : GE} {wchz : Nat → Int32} {wccz : Int32} {wplz : Nat → Int32} {wunz : Int32} {v1 : Nat} {v2 : Int32} {v3 : Int32} {k7 : Int32 → (Nat → Int32) → Int32 → (Nat → Int32) → Option ((Nat → Int32) × Int32 × (Nat → Int32) × Int32)} (hC : gC κ E cX2_chooseUnlike RX2 none rm_X2_chooseUnlike 4) (hv1 : v1 < 6) (hk7 : ∀ (v2 : Int32) (wch : Nat → Int32) (wcc : Int32) (wpl : Nat → Int32), k7 v2 wch wcc wpl = some (wchz, wccz, wplz, wunz) → GG κ E (xws E xk xo xc xt xn xl rc rv rb la wchz wccz wplz wunz srow ssp sen str stp swd rwp rdr rpd rpv rpc rzp, none) (xws E xk xo xc xt xn xl rc rv rb la wch wcc wpl wun srow ssp sen str stp swd rwp rdr rpd rpv rpc rzp) 7 [some (.ref (ea E 37)), some (.ref (ea E (4 * v1))), some (.int v2), none] []) (h : p_X2_chooseUnlike_J73 v2 v3 wch wcc wpl k7 = some (wchz, wccz, wplz, wunz)) : GG κ E (xws E xk xo xc xt xn xl rc rv rb la wchz wccz wplz wunz srow ssp sen str stp swd rwp rdr rpd rpv rpc rzp, none) (xws E xk xo xc xt xn xl rc rv rb la wch wcc wpl wun srow ssp sen str stp swd rwp rdr rpd rpv rpc rzp) 73 [some (.ref (ea E 37)), some (.ref (ea E (4 * v1))), some (.int v2), some (.int v3)] [] := by
  unfold p_X2_chooseUnlike_J73 at h
  refine g_iload_n (pc' := 74) (i := 3) hC dX2_chooseUnlike_73 rfl rfl rfl ?_
  refine g_iload_n (pc' := 75) (i := 2) hC dX2_chooseUnlike_74 rfl rfl rfl ?_
  refine g_icmp_ne (pc' := 78) (tgt := 127) hC dX2_chooseUnlike_75 (by decide) rfl h (fun h => ?_) (fun h => ?_)
  · refine g_aload_n (pc' := 79) (i := 0) hC dX2_chooseUnlike_78 rfl rfl rfl ?_
    refine gf_X2_100 (pc' := 82) hC dX2_chooseUnlike_79 rfl ?_
    refine g_if_lt (pc' := 85) (tgt := 127) hC dX2_chooseUnlike_82 (by decide) rfl h (fun h => ?_) (fun h => ?_)
    · refine g_iinc (pc' := 130) (i := 2) (x := v2) (k := (1 : Int32)) (lo' := [some (.ref (ea E 37)), some (.ref (ea E (4 * v1))), some (.int (v2 + (1 : Int32))), some (.int v3)]) hC dX2_chooseUnlike_127 rfl (by decide) rfl rfl rfl rfl ?_
      refine g_goto (tgt := 7) hC dX2_chooseUnlike_130 (by decide) ?_
      refine g_weak (lo' := [some (.ref (ea E 37)), some (.ref (ea E (4 * v1))), some (.int (v2 + (1 : Int32))), none]) rfl ?_
      exact hk7 _ _ _ _ h
    · refine g_aload_n (pc' := 86) (i := 0) hC dX2_chooseUnlike_85 rfl rfl rfl ?_
      refine gf_X2_100 (pc' := 89) hC dX2_chooseUnlike_86 rfl ?_
      refine g_aload_n (pc' := 90) (i := 0) hC dX2_chooseUnlike_89 rfl rfl rfl ?_
      refine gf_X2_23 (pc' := 93) hC dX2_chooseUnlike_90 rfl ?_
      refine al_wch (pc' := 94) hC dX2_chooseUnlike_93 rfl ?_
      refine g_icmp_ge (pc' := 97) (tgt := 127) hC dX2_chooseUnlike_94 (by decide) rfl h (fun h => ?_) (fun h => ?_)
      · refine g_aload_n (pc' := 98) (i := 0) hC dX2_chooseUnlike_97 rfl rfl rfl ?_
        refine gf_X2_23 (pc' := 101) hC dX2_chooseUnlike_98 rfl ?_
        refine g_aload_n (pc' := 102) (i := 0) hC dX2_chooseUnlike_101 rfl rfl rfl ?_
        refine gf_X2_100 (pc' := 105) hC dX2_chooseUnlike_102 rfl ?_
        refine g_iload_n (pc' := 106) (i := 2) hC dX2_chooseUnlike_105 rfl rfl rfl ?_
        obtain ⟨g_4, h⟩ := gd_some h
        refine st_wch (pc' := 107) hC g_4 dX2_chooseUnlike_106 rfl ?_
        refine g_aload_n (pc' := 108) (i := 0) hC dX2_chooseUnlike_107 rfl rfl rfl ?_
        refine gf_X2_27 (pc' := 111) hC dX2_chooseUnlike_108 rfl ?_
        refine g_iload_n (pc' := 112) (i := 2) hC dX2_chooseUnlike_111 rfl rfl rfl ?_
        refine g_aload_n (pc' := 113) (i := 0) hC dX2_chooseUnlike_112 rfl rfl rfl ?_
        refine gf_X2_100 (pc' := 116) hC dX2_chooseUnlike_113 rfl ?_
        obtain ⟨g_5, h⟩ := gd_some h
        refine st_wpl (pc' := 117) hC g_5 dX2_chooseUnlike_116 rfl ?_
        refine g_aload_n (pc' := 118) (i := 0) hC dX2_chooseUnlike_117 rfl rfl rfl ?_
        refine g_dup (pc' := 119) hC dX2_chooseUnlike_118 rfl rfl ?_
        refine gf_X2_100 (pc' := 122) hC dX2_chooseUnlike_119 rfl ?_
        refine g_iconst (pc' := 123) (v := (1 : Int32)) hC dX2_chooseUnlike_122 (by decide) rfl ?_
        refine g_iadd (pc' := 124) hC dX2_chooseUnlike_123 rfl ?_
        refine pf_X2_100 (pc' := 127) hC dX2_chooseUnlike_124 rfl ?_
        refine g_iinc (pc' := 130) (i := 2) (x := v2) (k := (1 : Int32)) (lo' := [some (.ref (ea E 37)), some (.ref (ea E (4 * v1))), some (.int (v2 + (1 : Int32))), some (.int v3)]) hC dX2_chooseUnlike_127 rfl (by decide) rfl rfl rfl rfl ?_
        refine g_goto (tgt := 7) hC dX2_chooseUnlike_130 (by decide) ?_
        refine g_weak (lo' := [some (.ref (ea E 37)), some (.ref (ea E (4 * v1))), some (.int (v2 + (1 : Int32))), none]) rfl ?_
        exact hk7 _ _ _ _ h
      · refine g_iinc (pc' := 130) (i := 2) (x := v2) (k := (1 : Int32)) (lo' := [some (.ref (ea E 37)), some (.ref (ea E (4 * v1))), some (.int (v2 + (1 : Int32))), some (.int v3)]) hC dX2_chooseUnlike_127 rfl (by decide) rfl rfl rfl rfl ?_
        refine g_goto (tgt := 7) hC dX2_chooseUnlike_130 (by decide) ?_
        refine g_weak (lo' := [some (.ref (ea E 37)), some (.ref (ea E (4 * v1))), some (.int (v2 + (1 : Int32))), none]) rfl ?_
        exact hk7 _ _ _ _ h
  · refine g_iinc (pc' := 130) (i := 2) (x := v2) (k := (1 : Int32)) (lo' := [some (.ref (ea E 37)), some (.ref (ea E (4 * v1))), some (.int (v2 + (1 : Int32))), some (.int v3)]) hC dX2_chooseUnlike_127 rfl (by decide) rfl rfl rfl rfl ?_
    refine g_goto (tgt := 7) hC dX2_chooseUnlike_130 (by decide) ?_
    refine g_weak (lo' := [some (.ref (ea E 37)), some (.ref (ea E (4 * v1))), some (.int (v2 + (1 : Int32))), none]) rfl ?_
    exact hk7 _ _ _ _ h
set_option maxRecDepth 200000 in
theorem w_X2_chooseUnlike_J48 {κ : GK} {E : GE} {wchz : Nat → Int32} {wccz : Int32} {wplz : Nat → Int32} {wunz : Int32} {v1 : Nat} {v2 : Int32} {s0 : Int32} {k7 : Int32 → (Nat → Int32) → Int32 → (Nat → Int32) → Option ((Nat → Int32) × Int32 × (Nat → Int32) × Int32)} (hC : gC κ E cX2_chooseUnlike RX2 none rm_X2_chooseUnlike 4) (hv1 : v1 < 6) (hk7 : ∀ (v2 : Int32) (wch : Nat → Int32) (wcc : Int32) (wpl : Nat → Int32), k7 v2 wch wcc wpl = some (wchz, wccz, wplz, wunz) → GG κ E (xws E xk xo xc xt xn xl rc rv rb la wchz wccz wplz wunz srow ssp sen str stp swd rwp rdr rpd rpv rpc rzp, none) (xws E xk xo xc xt xn xl rc rv rb la wch wcc wpl wun srow ssp sen str stp swd rwp rdr rpd rpv rpc rzp) 7 [some (.ref (ea E 37)), some (.ref (ea E (4 * v1))), some (.int v2), none] []) (h : p_X2_chooseUnlike_J48 v2 s0 wch wcc wpl k7 = some (wchz, wccz, wplz, wunz)) : GG κ E (xws E xk xo xc xt xn xl rc rv rb la wchz wccz wplz wunz srow ssp sen str stp swd rwp rdr rpd rpv rpc rzp, none) (xws E xk xo xc xt xn xl rc rv rb la wch wcc wpl wun srow ssp sen str stp swd rwp rdr rpd rpv rpc rzp) 48 [some (.ref (ea E 37)), some (.ref (ea E (4 * v1))), some (.int v2), none] [.int s0] := by
  unfold p_X2_chooseUnlike_J48 at h
  refine g_istore_n (pc' := 49) (i := 3) (lo' := [some (.ref (ea E 37)), some (.ref (ea E (4 * v1))), some (.int v2), some (.int s0)]) hC dX2_chooseUnlike_48 rfl rfl rfl rfl rfl ?_
  refine g_iload_n (pc' := 50) (i := 3) hC dX2_chooseUnlike_49 rfl rfl rfl ?_
  refine g_if_lt (pc' := 53) (tgt := 73) hC dX2_chooseUnlike_50 (by decide) rfl h (fun h => ?_) (fun h => ?_)
  · exact w_X2_chooseUnlike_J73 hC hv1 hk7 h
  · refine g_iload_n (pc' := 54) (i := 3) hC dX2_chooseUnlike_53 rfl rfl rfl ?_
    refine g_iload_n (pc' := 55) (i := 2) hC dX2_chooseUnlike_54 rfl rfl rfl ?_
    refine g_icmp_ge (pc' := 58) (tgt := 73) hC dX2_chooseUnlike_55 (by decide) rfl h (fun h => ?_) (fun h => ?_)
    · refine g_aload_n (pc' := 59) (i := 0) hC dX2_chooseUnlike_58 rfl rfl rfl ?_
      refine gf_X2_27 (pc' := 62) hC dX2_chooseUnlike_59 rfl ?_
      refine g_iload_n (pc' := 63) (i := 2) hC dX2_chooseUnlike_62 rfl rfl rfl ?_
      refine g_aload_n (pc' := 64) (i := 0) hC dX2_chooseUnlike_63 rfl rfl rfl ?_
      refine gf_X2_27 (pc' := 67) hC dX2_chooseUnlike_64 rfl ?_
      refine g_iload_n (pc' := 68) (i := 3) hC dX2_chooseUnlike_67 rfl rfl rfl ?_
      obtain ⟨g_6, h⟩ := gd_some h
      refine ld_wpl (pc' := 69) hC g_6 dX2_chooseUnlike_68 rfl ?_
      obtain ⟨g_7, h⟩ := gd_some h
      refine st_wpl (pc' := 70) hC g_7 dX2_chooseUnlike_69 rfl ?_
      refine g_goto (tgt := 127) hC dX2_chooseUnlike_70 (by decide) ?_
      refine g_iinc (pc' := 130) (i := 2) (x := v2) (k := (1 : Int32)) (lo' := [some (.ref (ea E 37)), some (.ref (ea E (4 * v1))), some (.int (v2 + (1 : Int32))), some (.int s0)]) hC dX2_chooseUnlike_127 rfl (by decide) rfl rfl rfl rfl ?_
      refine g_goto (tgt := 7) hC dX2_chooseUnlike_130 (by decide) ?_
      refine g_weak (lo' := [some (.ref (ea E 37)), some (.ref (ea E (4 * v1))), some (.int (v2 + (1 : Int32))), none]) rfl ?_
      exact hk7 _ _ _ _ h
    · exact w_X2_chooseUnlike_J73 hC hv1 hk7 h
set_option maxRecDepth 200000 in
theorem w_X2_chooseUnlike_L7 {κ : GK} {E : GE} {wchz : Nat → Int32} {wccz : Int32} {wplz : Nat → Int32} {wunz : Int32} {v1 : Nat}  (hC : gC κ E cX2_chooseUnlike RX2 none rm_X2_chooseUnlike 4) (hv1 : v1 < 6)  : ∀ (n : Nat) (v2 : Int32) (wch : Nat → Int32) (wcc : Int32) (wpl : Nat → Int32), itr4 (p_X2_chooseUnlike_L7 v1 xk xc xt xn xl) n v2 wch wcc wpl = some (wchz, wccz, wplz, wunz) → GG κ E (xws E xk xo xc xt xn xl rc rv rb la wchz wccz wplz wunz srow ssp sen str stp swd rwp rdr rpd rpv rpc rzp, none) (xws E xk xo xc xt xn xl rc rv rb la wch wcc wpl wun srow ssp sen str stp swd rwp rdr rpd rpv rpc rzp) 7 [some (.ref (ea E 37)), some (.ref (ea E (4 * v1))), some (.int v2), none] [] :=
  itr4_ind (fun k7 hk7 v2 wch wcc wpl h => by
    unfold p_X2_chooseUnlike_L7 at h
    refine g_iload_n (pc' := 8) (i := 2) hC dX2_chooseUnlike_7 rfl rfl rfl ?_
    refine g_aload_n (pc' := 9) (i := 1) hC dX2_chooseUnlike_8 rfl rfl rfl ?_
    refine gf_X2_37 (pc' := 12) hC hv1 dX2_chooseUnlike_9 rfl ?_
    refine g_icmp_ge (pc' := 15) (tgt := 133) hC dX2_chooseUnlike_12 (by decide) rfl h (fun h => ?_) (fun h => ?_)
    · refine g_iload_n (pc' := 16) (i := 2) hC dX2_chooseUnlike_15 rfl rfl rfl ?_
      refine g_aload_n (pc' := 17) (i := 0) hC dX2_chooseUnlike_16 rfl rfl rfl ?_
      refine gf_X2_27 (pc' := 20) hC dX2_chooseUnlike_17 rfl ?_
      refine al_wpl (pc' := 21) hC dX2_chooseUnlike_20 rfl ?_
      refine g_icmp_ge (pc' := 24) (tgt := 133) hC dX2_chooseUnlike_21 (by decide) rfl h (fun h => ?_) (fun h => ?_)
      · refine g_aload_n (pc' := 25) (i := 0) hC dX2_chooseUnlike_24 rfl rfl rfl ?_
        refine gf_X2_27 (pc' := 28) hC dX2_chooseUnlike_25 rfl ?_
        refine g_iload_n (pc' := 29) (i := 2) hC dX2_chooseUnlike_28 rfl rfl rfl ?_
        refine g_iconst (pc' := 30) (v := (0 : Int32)) hC dX2_chooseUnlike_29 (by decide) rfl ?_
        obtain ⟨g_1, h⟩ := gd_some h
        refine st_wpl (pc' := 31) hC g_1 dX2_chooseUnlike_30 rfl ?_
        refine g_aload_n (pc' := 32) (i := 1) hC dX2_chooseUnlike_31 rfl rfl rfl ?_
        refine g_iload_n (pc' := 33) (i := 2) hC dX2_chooseUnlike_32 rfl rfl rfl ?_
        obtain ⟨a_2, hc_3, h⟩ := bd1_some h
        refine g_callV (pc' := 36) hC (c_X0_isThere _ hv1 hc_3) ml_X2_125 (rc_Col hv1) (by decide) rfl rfl rfl rfl dX2_chooseUnlike_33 rfl ?_
        refine g_if_eq (pc' := 39) (tgt := 47) hC dX2_chooseUnlike_36 (by decide) rfl h (fun h => ?_) (fun h => ?_)
        · refine g_iconst (pc' := 48) (v := (-1 : Int32)) hC dX2_chooseUnlike_47 (by decide) rfl ?_
          exact w_X2_chooseUnlike_J48 hC hv1 hk7 h
        · refine g_aload_n (pc' := 40) (i := 1) hC dX2_chooseUnlike_39 rfl rfl rfl ?_
          refine g_iload_n (pc' := 41) (i := 2) hC dX2_chooseUnlike_40 rfl rfl rfl ?_
          obtain ⟨a_8, hc_9, h⟩ := bd1_some h
          refine g_callV (pc' := 44) hC (c_X0_firstLike _ hv1 hc_9) ml_X2_129 (rc_Col hv1) (by decide) rfl rfl rfl rfl dX2_chooseUnlike_41 rfl ?_
          refine g_goto (tgt := 48) hC dX2_chooseUnlike_44 (by decide) ?_
          exact w_X2_chooseUnlike_J48 hC hv1 hk7 h
      · refine g_aload_n (pc' := 134) (i := 0) hC dX2_chooseUnlike_133 rfl rfl rfl ?_
        refine g_aload_n (pc' := 135) (i := 0) hC dX2_chooseUnlike_134 rfl rfl rfl ?_
        refine gf_X2_100 (pc' := 138) hC dX2_chooseUnlike_135 rfl ?_
        refine pf_X2_72 (pc' := 141) hC dX2_chooseUnlike_138 rfl ?_
        obtain ⟨rfl, rfl, rfl, rfl⟩ := inj4 h; exact g_vret hC dX2_chooseUnlike_141
    · refine g_aload_n (pc' := 134) (i := 0) hC dX2_chooseUnlike_133 rfl rfl rfl ?_
      refine g_aload_n (pc' := 135) (i := 0) hC dX2_chooseUnlike_134 rfl rfl rfl ?_
      refine gf_X2_100 (pc' := 138) hC dX2_chooseUnlike_135 rfl ?_
      refine pf_X2_72 (pc' := 141) hC dX2_chooseUnlike_138 rfl ?_
      obtain ⟨rfl, rfl, rfl, rfl⟩ := inj4 h; exact g_vret hC dX2_chooseUnlike_141)
set_option maxRecDepth 200000 in
theorem c_X2_chooseUnlike (l : Launch) {E : GE} {wchz : Nat → Int32} {wccz : Int32} {wplz : Nat → Int32} {wunz : Int32} {v1 : Nat} (hv1 : v1 < 6) (h : p_X2_chooseUnlike v1 xk xc xt xn xl wch wcc wpl wun = some (wchz, wccz, wplz, wunz)) : Met l yX2_chooseUnlike (.code yX2_chooseUnlike cX2_chooseUnlike 4 none :: gU) rm_X2_chooseUnlike (gP E (xws E xk xo xc xt xn xl rc rv rb la wch wcc wpl wun srow ssp sen str stp swd rwp rdr rpd rpv rpc rzp) [.ref (ea E 37), .ref (ea E (4 * v1))]) (gQ E (xws E xk xo xc xt xn xl rc rv rb la wchz wccz wplz wunz srow ssp sen str stp swd rwp rdr rpd rpv rpc rzp) none) 0 0 E.2.2.1 := by
  refine met_of (y := yX2_chooseUnlike) (own := RX2) (lo := [some (.ref (ea E 37)), some (.ref (ea E (4 * v1))), none, none]) (by decide) rfl rfl rfl (fun κ hl hC => ?_)
  subst hl
  unfold p_X2_chooseUnlike at h
  refine g_aload_n (pc' := 1) (i := 0) hC dX2_chooseUnlike_0 rfl rfl rfl ?_
  refine g_iconst (pc' := 2) (v := (0 : Int32)) hC dX2_chooseUnlike_1 (by decide) rfl ?_
  refine pf_X2_100 (pc' := 5) hC dX2_chooseUnlike_2 rfl ?_
  refine g_iconst (pc' := 6) (v := (0 : Int32)) hC dX2_chooseUnlike_5 (by decide) rfl ?_
  refine g_istore_n (pc' := 7) (i := 2) (lo' := [some (.ref (ea E 37)), some (.ref (ea E (4 * v1))), some (.int (0 : Int32)), none]) hC dX2_chooseUnlike_6 rfl rfl rfl rfl rfl ?_
  refine w_X2_chooseUnlike_L7 hC hv1  _ _ _ _ _ h
set_option maxRecDepth 200000 in
theorem c_X2_dictionaryPage (l : Launch) {E : GE} {rcz : Nat → Int32} {rvz : Nat → Int32} {rbz : Nat → Nat → Int32} {laz : Nat → Nat → Int64} {wchz : Nat → Int32} {wccz : Int32} {wplz : Nat → Int32} {wunz : Int32} {v1 : Nat} (hv1 : v1 < 6) (h : p_X2_dictionaryPage v1 xk xc xt xn xl rc rv rb la wch wcc wpl wun = some (rcz, rvz, rbz, laz, wchz, wccz, wplz, wunz)) : Met l yX2_dictionaryPage (.code yX2_dictionaryPage cX2_dictionaryPage 2 none :: gU) rm_X2_dictionaryPage (gP E (xws E xk xo xc xt xn xl rc rv rb la wch wcc wpl wun srow ssp sen str stp swd rwp rdr rpd rpv rpc rzp) [.ref (ea E 37), .ref (ea E (4 * v1))]) (gQ E (xws E xk xo xc xt xn xl rcz rvz rbz laz wchz wccz wplz wunz srow ssp sen str stp swd rwp rdr rpd rpv rpc rzp) none) 0 0 E.2.2.1 := by
  refine met_of (y := yX2_dictionaryPage) (own := RX2) (lo := [some (.ref (ea E 37)), some (.ref (ea E (4 * v1)))]) (by decide) rfl rfl rfl (fun κ hl hC => ?_)
  subst hl
  unfold p_X2_dictionaryPage at h
  refine g_aload_n (pc' := 1) (i := 0) hC dX2_dictionaryPage_0 rfl rfl rfl ?_
  refine gf_X2_20 (pc' := 4) hC dX2_dictionaryPage_1 rfl ?_
  obtain ⟨rc_1, rv_2, hc_3, h⟩ := bd2_some h
  refine g_callV (pc' := 7) hC (c_X3_clear _ (by decide) hc_3) ml_X2_34 (rc_Row (by decide)) (by decide) rfl rfl rfl rfl dX2_dictionaryPage_4 rfl ?_
  refine g_aload_n (pc' := 8) (i := 0) hC dX2_dictionaryPage_7 rfl rfl rfl ?_
  refine g_aload_n (pc' := 9) (i := 1) hC dX2_dictionaryPage_8 rfl rfl rfl ?_
  obtain ⟨wch_4, wcc_5, wpl_6, wun_7, hc_8, h⟩ := bd4_some h
  refine g_callV (pc' := 12) hC (c_X2_chooseUnlike _ hv1 hc_8) ml_X2_66 (rc_Wr) (by decide) rfl rfl rfl rfl dX2_dictionaryPage_9 rfl ?_
  refine g_aload_n (pc' := 13) (i := 0) hC dX2_dictionaryPage_12 rfl rfl rfl ?_
  refine g_aload_n (pc' := 14) (i := 1) hC dX2_dictionaryPage_13 rfl rfl rfl ?_
  obtain ⟨rc_9, rv_10, rb_11, la_12, hc_13, h⟩ := bd4_some h
  refine g_callV (pc' := 17) hC (c_X2_pushPlain _ hv1 hc_13) ml_X2_69 (rc_Wr) (by decide) rfl rfl rfl rfl dX2_dictionaryPage_14 rfl ?_
  refine g_aload_n (pc' := 18) (i := 0) hC dX2_dictionaryPage_17 rfl rfl rfl ?_
  refine g_iconst (pc' := 19) (v := (2 : Int32)) hC dX2_dictionaryPage_18 (by decide) rfl ?_
  refine g_aload_n (pc' := 20) (i := 0) hC dX2_dictionaryPage_19 rfl rfl rfl ?_
  refine gf_X2_72 (pc' := 23) hC dX2_dictionaryPage_20 rfl ?_
  refine g_iconst (pc' := 24) (v := (0 : Int32)) hC dX2_dictionaryPage_23 (by decide) rfl ?_
  obtain ⟨rc_14, rv_15, rb_16, hc_17, h⟩ := bd3_some h
  refine g_callV (pc' := 27) hC (c_X2_pushHead _ hc_17) ml_X2_75 (rc_Wr) (by decide) rfl rfl rfl rfl dX2_dictionaryPage_24 rfl ?_
  refine g_aload_n (pc' := 28) (i := 0) hC dX2_dictionaryPage_27 rfl rfl rfl ?_
  refine gf_X2_14 (pc' := 31) hC dX2_dictionaryPage_28 rfl ?_
  refine g_aload_n (pc' := 32) (i := 0) hC dX2_dictionaryPage_31 rfl rfl rfl ?_
  refine gf_X2_20 (pc' := 35) hC dX2_dictionaryPage_32 rfl ?_
  obtain ⟨rc_18, rv_19, rb_20, hc_21, h⟩ := bd3_some h
  refine g_callV (pc' := 38) hC (c_X3_append _ (by decide) (by decide) hc_21) ml_X2_79 (rc_Row (by decide)) (by decide) rfl rfl rfl rfl dX2_dictionaryPage_35 rfl ?_
  obtain ⟨rfl, rfl, rfl, rfl, rfl, rfl, rfl, rfl⟩ := inj8 h; exact g_vret hC dX2_dictionaryPage_38
set_option maxRecDepth 200000 in
theorem w_X2_writePages_L34 {κ : GK} {E : GE} {rcz : Nat → Int32} {rvz : Nat → Int32} {rbz : Nat → Nat → Int32} {laz : Nat → Nat → Int64} {wchz : Nat → Int32} {wccz : Int32} {wplz : Nat → Int32} {wunz : Int32} {v1 : Nat} {v2 : Int32} {v4 : Int32}  (hC : gC κ E cX2_writePages RX2 none rm_X2_writePages 6) (hv1 : v1 < 6)  : ∀ (n : Nat) (v5 : Int32) (rc : Nat → Int32) (rv : Nat → Int32) (rb : Nat → Nat → Int32) (la : Nat → Nat → Int64) (wch : Nat → Int32) (wcc : Int32), itr7 (p_X2_writePages_L34 v1 v2 v4 xk xo xc xt xn xl wpl wun) n v5 rc rv rb la wch wcc = some (rcz, rvz, rbz, laz, wchz, wccz, wplz, wunz) → GG κ E (xws E xk xo xc xt xn xl rcz rvz rbz laz wchz wccz wplz wunz srow ssp sen str stp swd rwp rdr rpd rpv rpc rzp, none) (xws E xk xo xc xt xn xl rc rv rb la wch wcc wpl wun srow ssp sen str stp swd rwp rdr rpd rpv rpc rzp) 34 [some (.ref (ea E 37)), some (.ref (ea E (4 * v1))), some (.int v2), none, some (.int v4), some (.int v5)] [] :=
  itr7_ind (fun k34 hk34 v5 rc rv rb la wch wcc h => by
    unfold p_X2_writePages_L34 at h
    refine g_iload (pc' := 36) (i := 5) hC dX2_writePages_34 rfl rfl ?_
    refine g_aload_n (pc' := 37) (i := 1) hC dX2_writePages_36 rfl rfl rfl ?_
    refine gf_X2_37 (pc' := 40) hC hv1 dX2_writePages_37 rfl ?_
    refine g_icmp_ge (pc' := 43) (tgt := 80) hC dX2_writePages_40 (by decide) rfl h (fun h => ?_) (fun h => ?_)
    · refine g_aload_n (pc' := 44) (i := 0) hC dX2_writePages_43 rfl rfl rfl ?_
      refine g_aload_n (pc' := 45) (i := 1) hC dX2_writePages_44 rfl rfl rfl ?_
      refine g_iload (pc' := 47) (i := 5) hC dX2_writePages_45 rfl rfl ?_
      refine g_iload (pc' := 49) (i := 5) hC dX2_writePages_47 rfl rfl ?_
      refine g_iload (pc' := 51) (i := 4) hC dX2_writePages_49 rfl rfl ?_
      refine g_iadd (pc' := 52) hC dX2_writePages_51 rfl ?_
      refine g_aload_n (pc' := 53) (i := 1) hC dX2_writePages_52 rfl rfl rfl ?_
      refine gf_X2_37 (pc' := 56) hC hv1 dX2_writePages_53 rfl ?_
      refine g_imin (pc' := 59) hC math_X2_53 (by decide) dX2_writePages_56 rfl rfl ?_
      refine g_aload_n (pc' := 60) (i := 1) hC dX2_writePages_59 rfl rfl rfl ?_
      refine gf_X2_56 (pc' := 63) hC hv1 dX2_writePages_60 rfl ?_
      refine g_iload_n (pc' := 64) (i := 2) hC dX2_writePages_63 rfl rfl rfl ?_
      obtain ⟨a_13, hc_14, h⟩ := bd1_some h
      refine g_callS (pc' := 67) hC (c_X2_codeOf _ hc_14) ml_X2_59  (by decide) rfl rfl rfl dX2_writePages_64 rfl ?_
      obtain ⟨rc_15, rv_16, rb_17, la_18, wch_19, wcc_20, hc_21, h⟩ := bd6_some h
      refine g_callV (pc' := 70) hC (c_X2_dataPage _ hv1 hc_21) ml_X2_62 (rc_Wr) (by decide) rfl rfl rfl rfl dX2_writePages_67 rfl ?_
      refine g_iload (pc' := 72) (i := 5) hC dX2_writePages_70 rfl rfl ?_
      refine g_iload (pc' := 74) (i := 4) hC dX2_writePages_72 rfl rfl ?_
      refine g_iadd (pc' := 75) hC dX2_writePages_74 rfl ?_
      refine g_istore (pc' := 77) (i := 5) (lo' := [some (.ref (ea E 37)), some (.ref (ea E (4 * v1))), some (.int v2), none, some (.int v4), some (.int (v5 + v4))]) hC dX2_writePages_75 rfl rfl rfl rfl ?_
      refine g_goto (tgt := 34) hC dX2_writePages_77 (by decide) ?_
      exact hk34 _ _ _ _ _ _ _ h
    · obtain ⟨rfl, rfl, rfl, rfl, rfl, rfl, rfl, rfl⟩ := inj8 h; exact g_vret hC dX2_writePages_80)
set_option maxRecDepth 200000 in
theorem c_X2_writePages (l : Launch) {E : GE} {rcz : Nat → Int32} {rvz : Nat → Int32} {rbz : Nat → Nat → Int32} {laz : Nat → Nat → Int64} {wchz : Nat → Int32} {wccz : Int32} {wplz : Nat → Int32} {wunz : Int32} {v1 : Nat} {v2 : Int32} {v3 : Int32} (hv1 : v1 < 6) (h : p_X2_writePages v1 v2 v3 xk xo xc xt xn xl rc rv rb la wch wcc wpl wun = some (rcz, rvz, rbz, laz, wchz, wccz, wplz, wunz)) : Met l yX2_writePages (.code yX2_writePages cX2_writePages 6 none :: gU) rm_X2_writePages (gP E (xws E xk xo xc xt xn xl rc rv rb la wch wcc wpl wun srow ssp sen str stp swd rwp rdr rpd rpv rpc rzp) [.ref (ea E 37), .ref (ea E (4 * v1)), .int v2, .int v3]) (gQ E (xws E xk xo xc xt xn xl rcz rvz rbz laz wchz wccz wplz wunz srow ssp sen str stp swd rwp rdr rpd rpv rpc rzp) none) 0 0 E.2.2.1 := by
  refine met_of (y := yX2_writePages) (own := RX2) (lo := [some (.ref (ea E 37)), some (.ref (ea E (4 * v1))), some (.int v2), some (.int v3), none, none]) (by decide) rfl rfl rfl (fun κ hl hC => ?_)
  subst hl
  unfold p_X2_writePages at h
  refine g_aload_n (pc' := 1) (i := 0) hC dX2_writePages_0 rfl rfl rfl ?_
  refine gf_X2_14 (pc' := 4) hC dX2_writePages_1 rfl ?_
  obtain ⟨rc_1, rv_2, hc_3, h⟩ := bd2_some h
  refine g_callV (pc' := 7) hC (c_X3_clear _ (by decide) hc_3) ml_X2_34 (rc_Row (by decide)) (by decide) rfl rfl rfl rfl dX2_writePages_4 rfl ?_
  refine g_iload_n (pc' := 8) (i := 2) hC dX2_writePages_7 rfl rfl rfl ?_
  refine g_iconst (pc' := 9) (v := (1 : Int32)) hC dX2_writePages_8 (by decide) rfl ?_
  refine g_icmp_ne (pc' := 12) (tgt := 24) hC dX2_writePages_9 (by decide) rfl h (fun h => ?_) (fun h => ?_)
  · refine g_aload_n (pc' := 13) (i := 1) hC dX2_writePages_12 rfl rfl rfl ?_
    refine gf_X2_37 (pc' := 16) hC hv1 dX2_writePages_13 rfl ?_
    refine g_if_le (pc' := 19) (tgt := 24) hC dX2_writePages_16 (by decide) rfl h (fun h => ?_) (fun h => ?_)
    · refine g_aload_n (pc' := 20) (i := 0) hC dX2_writePages_19 rfl rfl rfl ?_
      refine g_aload_n (pc' := 21) (i := 1) hC dX2_writePages_20 rfl rfl rfl ?_
      obtain ⟨rc_4, rv_5, rb_6, la_7, wch_8, wcc_9, wpl_10, wun_11, hc_12, h⟩ := bd8_some h
      refine g_callV (pc' := 24) hC (c_X2_dictionaryPage _ hv1 hc_12) ml_X2_43 (rc_Wr) (by decide) rfl rfl rfl rfl dX2_writePages_21 rfl ?_
      refine g_iload_n (pc' := 25) (i := 3) hC dX2_writePages_24 rfl rfl rfl ?_
      refine g_iconst (pc' := 26) (v := (1 : Int32)) hC dX2_writePages_25 (by decide) rfl ?_
      refine g_imax (pc' := 29) hC math_X2_47 (by decide) dX2_writePages_26 rfl rfl ?_
      refine g_istore (pc' := 31) (i := 4) (lo' := [some (.ref (ea E 37)), some (.ref (ea E (4 * v1))), some (.int v2), some (.int v3), some (.int (imax v3 (1 : Int32))), none]) hC dX2_writePages_29 rfl rfl rfl rfl ?_
      refine g_iconst (pc' := 32) (v := (0 : Int32)) hC dX2_writePages_31 (by decide) rfl ?_
      refine g_istore (pc' := 34) (i := 5) (lo' := [some (.ref (ea E 37)), some (.ref (ea E (4 * v1))), some (.int v2), some (.int v3), some (.int (imax v3 (1 : Int32))), some (.int (0 : Int32))]) hC dX2_writePages_32 rfl rfl rfl rfl ?_
      refine g_weak (lo' := [some (.ref (ea E 37)), some (.ref (ea E (4 * v1))), some (.int v2), none, some (.int (imax v3 (1 : Int32))), some (.int (0 : Int32))]) rfl ?_
      refine w_X2_writePages_L34 hC hv1  _ _ _ _ _ _ _ _ h
    · refine g_iload_n (pc' := 25) (i := 3) hC dX2_writePages_24 rfl rfl rfl ?_
      refine g_iconst (pc' := 26) (v := (1 : Int32)) hC dX2_writePages_25 (by decide) rfl ?_
      refine g_imax (pc' := 29) hC math_X2_47 (by decide) dX2_writePages_26 rfl rfl ?_
      refine g_istore (pc' := 31) (i := 4) (lo' := [some (.ref (ea E 37)), some (.ref (ea E (4 * v1))), some (.int v2), some (.int v3), some (.int (imax v3 (1 : Int32))), none]) hC dX2_writePages_29 rfl rfl rfl rfl ?_
      refine g_iconst (pc' := 32) (v := (0 : Int32)) hC dX2_writePages_31 (by decide) rfl ?_
      refine g_istore (pc' := 34) (i := 5) (lo' := [some (.ref (ea E 37)), some (.ref (ea E (4 * v1))), some (.int v2), some (.int v3), some (.int (imax v3 (1 : Int32))), some (.int (0 : Int32))]) hC dX2_writePages_32 rfl rfl rfl rfl ?_
      refine g_weak (lo' := [some (.ref (ea E 37)), some (.ref (ea E (4 * v1))), some (.int v2), none, some (.int (imax v3 (1 : Int32))), some (.int (0 : Int32))]) rfl ?_
      refine w_X2_writePages_L34 hC hv1  _ _ _ _ _ _ _ _ h
  · refine g_iload_n (pc' := 25) (i := 3) hC dX2_writePages_24 rfl rfl rfl ?_
    refine g_iconst (pc' := 26) (v := (1 : Int32)) hC dX2_writePages_25 (by decide) rfl ?_
    refine g_imax (pc' := 29) hC math_X2_47 (by decide) dX2_writePages_26 rfl rfl ?_
    refine g_istore (pc' := 31) (i := 4) (lo' := [some (.ref (ea E 37)), some (.ref (ea E (4 * v1))), some (.int v2), some (.int v3), some (.int (imax v3 (1 : Int32))), none]) hC dX2_writePages_29 rfl rfl rfl rfl ?_
    refine g_iconst (pc' := 32) (v := (0 : Int32)) hC dX2_writePages_31 (by decide) rfl ?_
    refine g_istore (pc' := 34) (i := 5) (lo' := [some (.ref (ea E 37)), some (.ref (ea E (4 * v1))), some (.int v2), some (.int v3), some (.int (imax v3 (1 : Int32))), some (.int (0 : Int32))]) hC dX2_writePages_32 rfl rfl rfl rfl ?_
    refine g_weak (lo' := [some (.ref (ea E 37)), some (.ref (ea E (4 * v1))), some (.int v2), none, some (.int (imax v3 (1 : Int32))), some (.int (0 : Int32))]) rfl ?_
    refine w_X2_writePages_L34 hC hv1  _ _ _ _ _ _ _ _ h
set_option maxRecDepth 200000 in
theorem c_X3_shorten (l : Launch) {E : GE} {rcz : Nat → Int32} {v0 : Nat} {v1 : Int32} (hv0 : v0 < 4) (h : p_X3_shorten v0 v1 rc = some rcz) : Met l yX3_shorten (.code yX3_shorten cX3_shorten 2 none :: gU) rm_X3_shorten (gP E (xws E xk xo xc xt xn xl rc rv rb la wch wcc wpl wun srow ssp sen str stp swd rwp rdr rpd rpv rpc rzp) [.ref (ea E (24 + 2 * v0)), .int v1]) (gQ E (xws E xk xo xc xt xn xl rcz rv rb la wch wcc wpl wun srow ssp sen str stp swd rwp rdr rpd rpv rpc rzp) none) 0 0 E.2.2.1 := by
  refine met_of (y := yX3_shorten) (own := RX3) (lo := [some (.ref (ea E (24 + 2 * v0))), some (.int v1)]) (by decide) rfl rfl rfl (fun κ hl hC => ?_)
  subst hl
  unfold p_X3_shorten at h
  refine g_aload_n (pc' := 1) (i := 0) hC dX3_shorten_0 rfl rfl rfl ?_
  refine g_iconst (pc' := 2) (v := (0 : Int32)) hC dX3_shorten_1 (by decide) rfl ?_
  refine g_iload_n (pc' := 3) (i := 1) hC dX3_shorten_2 rfl rfl rfl ?_
  refine g_aload_n (pc' := 4) (i := 0) hC dX3_shorten_3 rfl rfl rfl ?_
  refine gf_X3_15 (pc' := 7) hC hv0 dX3_shorten_4 rfl ?_
  refine g_imin (pc' := 10) hC math_X3_23 (by decide) dX3_shorten_7 rfl rfl ?_
  refine g_imax (pc' := 13) hC math_X3_29 (by decide) dX3_shorten_10 rfl rfl ?_
  refine pf_X3_15 (pc' := 16) hC hv0 dX3_shorten_13 rfl ?_
  obtain rfl := inj1 h; exact g_vret hC dX3_shorten_16
set_option maxRecDepth 200000 in
theorem c_X5_columnAt (l : Launch) {E : GE} {rr : Option Nat} {v1 : Int32}  (h : p_X5_columnAt v1 = some rr) : Met l yX5_columnAt (.code yX5_columnAt cX5_columnAt 2 (some (.object "ColumnPages$Column")) :: gU) rm_X5_columnAt (gP E (xws E xk xo xc xt xn xl rc rv rb la wch wcc wpl wun srow ssp sen str stp swd rwp rdr rpd rpv rpc rzp) [.ref (ea E 35), .int v1]) (gQ E (xws E xk xo xc xt xn xl rc rv rb la wch wcc wpl wun srow ssp sen str stp swd rwp rdr rpd rpv rpc rzp) (some (rfo (fun k => ea E (4 * k)) rr))) 0 0 E.2.2.1 := by
  refine met_of (y := yX5_columnAt) (own := RX5) (lo := [some (.ref (ea E 35)), some (.int v1)]) (by decide) rfl rfl rfl (fun κ hl hC => ?_)
  subst hl
  unfold p_X5_columnAt at h
  refine g_iload_n (pc' := 1) (i := 1) hC dX5_columnAt_0 rfl rfl rfl ?_
  refine g_if_lt (pc' := 4) (tgt := 13) hC dX5_columnAt_1 (by decide) rfl h (fun h => ?_) (fun h => ?_)
  · refine g_null (pc' := 14) hC dX5_columnAt_13 rfl ?_
    refine g_goto (tgt := 23) hC dX5_columnAt_14 (by decide) ?_
    obtain rfl := inj1 h; exact g_aretN hC dX5_columnAt_23
  · refine g_iload_n (pc' := 5) (i := 1) hC dX5_columnAt_4 rfl rfl rfl ?_
    refine g_aload_n (pc' := 6) (i := 0) hC dX5_columnAt_5 rfl rfl rfl ?_
    refine gf_X5_11 (pc' := 9) hC dX5_columnAt_6 rfl ?_
    refine al_cols (pc' := 10) hC dX5_columnAt_9 rfl ?_
    refine g_icmp_lt (pc' := 13) (tgt := 17) hC dX5_columnAt_10 (by decide) rfl h (fun h => ?_) (fun h => ?_)
    · refine g_aload_n (pc' := 18) (i := 0) hC dX5_columnAt_17 rfl rfl rfl ?_
      refine gf_X5_11 (pc' := 21) hC dX5_columnAt_18 rfl ?_
      refine g_iload_n (pc' := 22) (i := 1) hC dX5_columnAt_21 rfl rfl rfl ?_
      obtain ⟨g_1, h⟩ := gd_some h
      refine ld_cols (pc' := 23) hC g_1 dX5_columnAt_22 rfl ?_
      obtain rfl := inj1 h; exact g_aret hC dX5_columnAt_23 rfl
    · refine g_null (pc' := 14) hC dX5_columnAt_13 rfl ?_
      refine g_goto (tgt := 23) hC dX5_columnAt_14 (by decide) ?_
      obtain rfl := inj1 h; exact g_aretN hC dX5_columnAt_23
set_option maxRecDepth 200000 in
theorem c_X5_column (l : Launch) {E : GE} {rr : Int32} {xkz : Nat → Int32} {xoz : Nat → Int32} {xcz : Nat → Int32} {v1 : Int32} {v2 : Int32} {v3 : Int32}  (h : p_X5_column v1 v2 v3 xk xo xc = some (rr, xkz, xoz, xcz)) : Met l yX5_column (.code yX5_column cX5_column 6 (some .int) :: gU) rm_X5_column (gP E (xws E xk xo xc xt xn xl rc rv rb la wch wcc wpl wun srow ssp sen str stp swd rwp rdr rpd rpv rpc rzp) [.ref (ea E 35), .int v1, .int v2, .int v3]) (gQ E (xws E xkz xoz xcz xt xn xl rc rv rb la wch wcc wpl wun srow ssp sen str stp swd rwp rdr rpd rpv rpc rzp) (some (.int rr))) 0 0 E.2.2.1 := by
  refine met_of (y := yX5_column) (own := RX5) (lo := [some (.ref (ea E 35)), some (.int v1), some (.int v2), some (.int v3), none, none]) (by decide) rfl rfl rfl (fun κ hl hC => ?_)
  subst hl
  unfold p_X5_column at h
  refine g_aload_n (pc' := 1) (i := 0) hC dX5_column_0 rfl rfl rfl ?_
  refine g_iload_n (pc' := 2) (i := 1) hC dX5_column_1 rfl rfl rfl ?_
  obtain ⟨a_1, hc_2, h⟩ := bd1_some h
  refine g_callV (pc' := 5) hC (c_X5_columnAt _ hc_2) ml_X5_42 (rc_CP) (by decide) rfl rfl rfl rfl dX5_column_2 rfl ?_
  rcases a_1 with _ | o_3
  · have h := mo_n h
    refine g_astoreN (pc' := 7) (i := 4) (lo' := [some (.ref (ea E 35)), some (.int v1), some (.int v2), some (.int v3), some (.null), none]) hC dX5_column_5 rfl rfl rfl rfl ?_
    refine g_aloadN (pc' := 9) (i := 4) hC dX5_column_7 rfl rfl ?_
    refine g_ifnullN (tgt := 21) hC dX5_column_9 (by decide) ?_
    refine g_iconst (pc' := 22) (v := (-1 : Int32)) hC dX5_column_21 (by decide) rfl ?_
    obtain ⟨rfl, rfl, rfl, rfl⟩ := inj4 h; exact g_iret hC dX5_column_22
  · have h := mo_s h
    obtain ⟨g_4, h⟩ := gd_some h
    refine g_astore (pc' := 7) (i := 4) (lo' := [some (.ref (ea E 35)), some (.int v1), some (.int v2), some (.int v3), some (.ref (ea E (4 * o_3))), none]) hC dX5_column_5 rfl rfl rfl rfl ?_
    refine g_aload (pc' := 9) (i := 4) hC dX5_column_7 rfl rfl ?_
    refine g_ifnull (pc' := 12) hC dX5_column_9 rfl ?_
    refine g_iload_n (pc' := 13) (i := 2) hC dX5_column_12 rfl rfl rfl ?_
    refine g_if_lt (pc' := 16) (tgt := 21) hC dX5_column_13 (by decide) rfl h (fun h => ?_) (fun h => ?_)
    · refine g_iconst (pc' := 22) (v := (-1 : Int32)) hC dX5_column_21 (by decide) rfl ?_
      obtain ⟨rfl, rfl, rfl, rfl⟩ := inj4 h; exact g_iret hC dX5_column_22
    · refine g_iload_n (pc' := 17) (i := 2) hC dX5_column_16 rfl rfl rfl ?_
      refine g_iconst (pc' := 18) (v := (3 : Int32)) hC dX5_column_17 (by decide) rfl ?_
      refine g_icmp_le (pc' := 21) (tgt := 23) hC dX5_column_18 (by decide) rfl h (fun h => ?_) (fun h => ?_)
      · refine g_iconst (pc' := 22) (v := (-1 : Int32)) hC dX5_column_21 (by decide) rfl ?_
        obtain ⟨rfl, rfl, rfl, rfl⟩ := inj4 h; exact g_iret hC dX5_column_22
      · refine g_aload (pc' := 25) (i := 4) hC dX5_column_23 rfl rfl ?_
        refine gf_X5_46 (pc' := 28) hC (of_decide_eq_true g_4) dX5_column_25 rfl ?_
        refine g_istore (pc' := 30) (i := 5) (lo' := [some (.ref (ea E 35)), some (.int v1), some (.int v2), some (.int v3), some (.ref (ea E (4 * o_3))), some (.int (xc o_3))]) hC dX5_column_28 rfl rfl rfl rfl ?_
        refine g_aload (pc' := 32) (i := 4) hC dX5_column_30 rfl rfl ?_
        refine g_iload_n (pc' := 33) (i := 2) hC dX5_column_32 rfl rfl rfl ?_
        refine g_iload_n (pc' := 34) (i := 3) hC dX5_column_33 rfl rfl rfl ?_
        obtain ⟨xk_5, xo_6, xc_7, hc_8, h⟩ := bd3_some h
        refine g_callV (pc' := 37) hC (c_X0_begin _ (of_decide_eq_true g_4) hc_8) ml_X5_50 (rc_Col (of_decide_eq_true g_4)) (by decide) rfl rfl rfl rfl dX5_column_34 rfl ?_
        refine g_iload (pc' := 39) (i := 5) hC dX5_column_37 rfl rfl ?_
        obtain ⟨rfl, rfl, rfl, rfl⟩ := inj4 h; exact g_iret hC dX5_column_39
set_option maxRecDepth 200000 in
theorem c_X5_add (l : Launch) {E : GE} {rr : Int32} {xcz : Nat → Int32} {xtz : Nat → Nat → Int32} {xnz : Nat → Nat → Int64} {v1 : Int32} {v2 : Int64}  (h : p_X5_add v1 v2 xk xc xt xn = some (rr, xcz, xtz, xnz)) : Met l yX5_add (.code yX5_add cX5_add 5 (some .int) :: gU) rm_X5_add (gP E (xws E xk xo xc xt xn xl rc rv rb la wch wcc wpl wun srow ssp sen str stp swd rwp rdr rpd rpv rpc rzp) [.ref (ea E 35), .int v1, .long v2]) (gQ E (xws E xk xo xcz xtz xnz xl rc rv rb la wch wcc wpl wun srow ssp sen str stp swd rwp rdr rpd rpv rpc rzp) (some (.int rr))) 0 0 E.2.2.1 := by
  refine met_of (y := yX5_add) (own := RX5) (lo := [some (.ref (ea E 35)), some (.int v1), some (.long v2), none, none]) (by decide) rfl rfl rfl (fun κ hl hC => ?_)
  subst hl
  unfold p_X5_add at h
  refine g_aload_n (pc' := 1) (i := 0) hC dX5_add_0 rfl rfl rfl ?_
  refine g_iload_n (pc' := 2) (i := 1) hC dX5_add_1 rfl rfl rfl ?_
  obtain ⟨a_1, hc_2, h⟩ := bd1_some h
  refine g_callV (pc' := 5) hC (c_X5_columnAt _ hc_2) ml_X5_42 (rc_CP) (by decide) rfl rfl rfl rfl dX5_add_2 rfl ?_
  rcases a_1 with _ | o_3
  · have h := mo_n h
    refine g_astoreN (pc' := 7) (i := 4) (lo' := [some (.ref (ea E 35)), some (.int v1), some (.long v2), none, some (.null)]) hC dX5_add_5 rfl rfl rfl rfl ?_
    refine g_aloadN (pc' := 9) (i := 4) hC dX5_add_7 rfl rfl ?_
    refine g_ifnonnullN (pc' := 12) hC dX5_add_9 rfl ?_
    refine g_iconst (pc' := 13) (v := (-1 : Int32)) hC dX5_add_12 (by decide) rfl ?_
    obtain ⟨rfl, rfl, rfl, rfl⟩ := inj4 h; exact g_iret hC dX5_add_13
  · have h := mo_s h
    obtain ⟨g_4, h⟩ := gd_some h
    refine g_astore (pc' := 7) (i := 4) (lo' := [some (.ref (ea E 35)), some (.int v1), some (.long v2), none, some (.ref (ea E (4 * o_3)))]) hC dX5_add_5 rfl rfl rfl rfl ?_
    refine g_aload (pc' := 9) (i := 4) hC dX5_add_7 rfl rfl ?_
    refine g_ifnonnull (tgt := 14) hC dX5_add_9 (by decide) ?_
    refine g_aload (pc' := 16) (i := 4) hC dX5_add_14 rfl rfl ?_
    refine gf_X5_54 (pc' := 19) hC (of_decide_eq_true g_4) dX5_add_16 rfl ?_
    refine g_iconst (pc' := 20) (v := (2 : Int32)) hC dX5_add_19 (by decide) rfl ?_
    refine g_icmp_ne (pc' := 23) (tgt := 26) hC dX5_add_20 (by decide) rfl h (fun h => ?_) (fun h => ?_)
    · refine g_bipush (pc' := 25) (v := (-2 : Int32)) hC dX5_add_23 (by decide) rfl ?_
      obtain ⟨rfl, rfl, rfl, rfl⟩ := inj4 h; exact g_iret hC dX5_add_25
    · refine g_aload (pc' := 28) (i := 4) hC dX5_add_26 rfl rfl ?_
      refine gf_X5_46 (pc' := 31) hC (of_decide_eq_true g_4) dX5_add_28 rfl ?_
      refine g_sipush (pc' := 34) (v := (200 : Int32)) hC dX5_add_31 (by decide) rfl ?_
      refine g_icmp_lt (pc' := 37) (tgt := 40) hC dX5_add_34 (by decide) rfl h (fun h => ?_) (fun h => ?_)
      · refine g_aload (pc' := 42) (i := 4) hC dX5_add_40 rfl rfl ?_
        refine g_lload_n (pc' := 43) (i := 2) hC dX5_add_42 rfl rfl rfl ?_
        obtain ⟨xc_5, xt_6, xn_7, hc_8, h⟩ := bd3_some h
        refine g_callV (pc' := 46) hC (c_X0_pushNumber _ (of_decide_eq_true g_4) hc_8) ml_X5_57 (rc_Col (of_decide_eq_true g_4)) (by decide) rfl rfl rfl rfl dX5_add_43 rfl ?_
        refine g_aload (pc' := 48) (i := 4) hC dX5_add_46 rfl rfl ?_
        refine gf_X5_46 (pc' := 51) hC (of_decide_eq_true g_4) dX5_add_48 rfl ?_
        refine g_iconst (pc' := 52) (v := (1 : Int32)) hC dX5_add_51 (by decide) rfl ?_
        refine g_isub (pc' := 53) hC dX5_add_52 rfl ?_
        obtain ⟨rfl, rfl, rfl, rfl⟩ := inj4 h; exact g_iret hC dX5_add_53
      · refine g_bipush (pc' := 39) (v := (-3 : Int32)) hC dX5_add_37 (by decide) rfl ?_
        obtain ⟨rfl, rfl, rfl, rfl⟩ := inj4 h; exact g_iret hC dX5_add_39
set_option maxRecDepth 200000 in
theorem w_X5_type_L35 {κ : GK} {E : GE} {rr : Int32} {rcz : Nat → Int32} {rvz : Nat → Int32} {rbz : Nat → Nat → Int32} {v1 : Int64}  (hC : gC κ E cX5_type RX5 (some .int) rm_X5_type 5)   : ∀ (n : Nat) (v4 : Int32) (rc : Nat → Int32) (rv : Nat → Int32) (rb : Nat → Nat → Int32), itr4 (p_X5_type_L35 v1) n v4 rc rv rb = some (rr, rcz, rvz, rbz) → GG κ E (xws E xk xo xc xt xn xl rcz rvz rbz la wch wcc wpl wun srow ssp sen str stp swd rwp rdr rpd rpv rpc rzp, some (.int rr)) (xws E xk xo xc xt xn xl rc rv rb la wch wcc wpl wun srow ssp sen str stp swd rwp rdr rpd rpv rpc rzp) 35 [some (.ref (ea E 35)), some (.long v1), none, none, some (.int v4)] [] :=
  itr4_ind (fun k35 hk35 v4 rc rv rb h => by
    unfold p_X5_type_L35 at h
    refine g_iload (pc' := 37) (i := 4) hC dX5_type_35 rfl rfl ?_
    refine g_if_lt (pc' := 40) (tgt := 61) hC dX5_type_37 (by decide) rfl h (fun h => ?_) (fun h => ?_)
    · refine g_aload_n (pc' := 62) (i := 0) hC dX5_type_61 rfl rfl rfl ?_
      refine gf_X5_21 (pc' := 65) hC dX5_type_62 rfl ?_
      refine gf_X5_61 (pc' := 68) hC (by decide) dX5_type_65 rfl ?_
      obtain ⟨rfl, rfl, rfl, rfl⟩ := inj4 h; exact g_iret hC dX5_type_68
    · refine g_aload_n (pc' := 41) (i := 0) hC dX5_type_40 rfl rfl rfl ?_
      refine gf_X5_21 (pc' := 44) hC dX5_type_41 rfl ?_
      refine g_lload_n (pc' := 45) (i := 1) hC dX5_type_44 rfl rfl rfl ?_
      refine g_bipush (pc' := 47) (v := (8 : Int32)) hC dX5_type_45 (by decide) rfl ?_
      refine g_iload (pc' := 49) (i := 4) hC dX5_type_47 rfl rfl ?_
      refine g_imul (pc' := 50) hC dX5_type_49 rfl ?_
      refine g_lushr (pc' := 51) hC dX5_type_50 rfl ?_
      refine g_l2i (pc' := 52) hC dX5_type_51 rfl ?_
      obtain ⟨rc_1, rv_2, rb_3, hc_4, h⟩ := bd3_some h
      refine g_callV (pc' := 55) hC (c_X3_push _ (by decide) hc_4) ml_X5_62 (rc_Row (by decide)) (by decide) rfl rfl rfl rfl dX5_type_52 rfl ?_
      refine g_iinc (pc' := 58) (i := 4) (x := v4) (k := (-1 : Int32)) (lo' := [some (.ref (ea E 35)), some (.long v1), none, none, some (.int (v4 + (-1 : Int32)))]) hC dX5_type_55 rfl (by decide) rfl rfl rfl rfl ?_
      refine g_goto (tgt := 35) hC dX5_type_58 (by decide) ?_
      exact hk35 _ _ _ _ h)
set_option maxRecDepth 200000 in
theorem c_X5_type (l : Launch) {E : GE} {rr : Int32} {rcz : Nat → Int32} {rvz : Nat → Int32} {rbz : Nat → Nat → Int32} {v1 : Int64} {v3 : Int32}  (h : p_X5_type v1 v3 rc rv rb = some (rr, rcz, rvz, rbz)) : Met l yX5_type (.code yX5_type cX5_type 5 (some .int) :: gU) rm_X5_type (gP E (xws E xk xo xc xt xn xl rc rv rb la wch wcc wpl wun srow ssp sen str stp swd rwp rdr rpd rpv rpc rzp) [.ref (ea E 35), .long v1, .int v3]) (gQ E (xws E xk xo xc xt xn xl rcz rvz rbz la wch wcc wpl wun srow ssp sen str stp swd rwp rdr rpd rpv rpc rzp) (some (.int rr))) 0 0 E.2.2.1 := by
  refine met_of (y := yX5_type) (own := RX5) (lo := [some (.ref (ea E 35)), some (.long v1), none, some (.int v3), none]) (by decide) rfl rfl rfl (fun κ hl hC => ?_)
  subst hl
  unfold p_X5_type at h
  refine g_iload_n (pc' := 1) (i := 3) hC dX5_type_0 rfl rfl rfl ?_
  refine g_iconst (pc' := 2) (v := (1 : Int32)) hC dX5_type_1 (by decide) rfl ?_
  refine g_icmp_lt (pc' := 5) (tgt := 11) hC dX5_type_2 (by decide) rfl h (fun h => ?_) (fun h => ?_)
  · refine g_iconst (pc' := 12) (v := (-1 : Int32)) hC dX5_type_11 (by decide) rfl ?_
    obtain ⟨rfl, rfl, rfl, rfl⟩ := inj4 h; exact g_iret hC dX5_type_12
  · refine g_iload_n (pc' := 6) (i := 3) hC dX5_type_5 rfl rfl rfl ?_
    refine g_bipush (pc' := 8) (v := (8 : Int32)) hC dX5_type_6 (by decide) rfl ?_
    refine g_icmp_le (pc' := 11) (tgt := 13) hC dX5_type_8 (by decide) rfl h (fun h => ?_) (fun h => ?_)
    · refine g_iconst (pc' := 12) (v := (-1 : Int32)) hC dX5_type_11 (by decide) rfl ?_
      obtain ⟨rfl, rfl, rfl, rfl⟩ := inj4 h; exact g_iret hC dX5_type_12
    · refine g_aload_n (pc' := 14) (i := 0) hC dX5_type_13 rfl rfl rfl ?_
      refine gf_X5_21 (pc' := 17) hC dX5_type_14 rfl ?_
      refine gf_X5_61 (pc' := 20) hC (by decide) dX5_type_17 rfl ?_
      refine g_iload_n (pc' := 21) (i := 3) hC dX5_type_20 rfl rfl rfl ?_
      refine g_iadd (pc' := 22) hC dX5_type_21 rfl ?_
      refine g_bipush (pc' := 24) (v := (40 : Int32)) hC dX5_type_22 (by decide) rfl ?_
      refine g_icmp_le (pc' := 27) (tgt := 30) hC dX5_type_24 (by decide) rfl h (fun h => ?_) (fun h => ?_)
      · refine g_bipush (pc' := 29) (v := (-3 : Int32)) hC dX5_type_27 (by decide) rfl ?_
        obtain ⟨rfl, rfl, rfl, rfl⟩ := inj4 h; exact g_iret hC dX5_type_29
      · refine g_iload_n (pc' := 31) (i := 3) hC dX5_type_30 rfl rfl rfl ?_
        refine g_iconst (pc' := 32) (v := (1 : Int32)) hC dX5_type_31 (by decide) rfl ?_
        refine g_isub (pc' := 33) hC dX5_type_32 rfl ?_
        refine g_istore (pc' := 35) (i := 4) (lo' := [some (.ref (ea E 35)), some (.long v1), none, some (.int v3), some (.int (v3 - (1 : Int32)))]) hC dX5_type_33 rfl rfl rfl rfl ?_
        refine g_weak (lo' := [some (.ref (ea E 35)), some (.long v1), none, none, some (.int (v3 - (1 : Int32)))]) rfl ?_
        refine w_X5_type_L35 hC   _ _ _ _ _ h
set_option maxRecDepth 200000 in
theorem c_X5_addText (l : Launch) {E : GE} {rr : Int32} {xcz : Nat → Int32} {xtz : Nat → Nat → Int32} {xnz : Nat → Nat → Int64} {xlz : Nat → Nat → Int32} {rcz : Nat → Int32} {rvz : Nat → Int32} {v1 : Int32}  (h : p_X5_addText v1 xk xc xt xn xl rc rv rb = some (rr, xcz, xtz, xnz, xlz, rcz, rvz)) : Met l yX5_addText (.code yX5_addText cX5_addText 3 (some .int) :: gU) rm_X5_addText (gP E (xws E xk xo xc xt xn xl rc rv rb la wch wcc wpl wun srow ssp sen str stp swd rwp rdr rpd rpv rpc rzp) [.ref (ea E 35), .int v1]) (gQ E (xws E xk xo xcz xtz xnz xlz rcz rvz rb la wch wcc wpl wun srow ssp sen str stp swd rwp rdr rpd rpv rpc rzp) (some (.int rr))) 0 0 E.2.2.1 := by
  refine met_of (y := yX5_addText) (own := RX5) (lo := [some (.ref (ea E 35)), some (.int v1), none]) (by decide) rfl rfl rfl (fun κ hl hC => ?_)
  subst hl
  unfold p_X5_addText at h
  refine g_aload_n (pc' := 1) (i := 0) hC dX5_addText_0 rfl rfl rfl ?_
  refine g_iload_n (pc' := 2) (i := 1) hC dX5_addText_1 rfl rfl rfl ?_
  obtain ⟨a_1, hc_2, h⟩ := bd1_some h
  refine g_callV (pc' := 5) hC (c_X5_columnAt _ hc_2) ml_X5_42 (rc_CP) (by decide) rfl rfl rfl rfl dX5_addText_2 rfl ?_
  rcases a_1 with _ | o_3
  · have h := mo_n h
    refine g_astore_nN (pc' := 6) (i := 2) (lo' := [some (.ref (ea E 35)), some (.int v1), some (.null)]) hC dX5_addText_5 rfl rfl rfl rfl rfl ?_
    refine g_aload_nN (pc' := 7) (i := 2) hC dX5_addText_6 rfl rfl rfl ?_
    refine g_ifnonnullN (pc' := 10) hC dX5_addText_7 rfl ?_
    refine g_iconst (pc' := 11) (v := (-1 : Int32)) hC dX5_addText_10 (by decide) rfl ?_
    obtain ⟨rfl, rfl, rfl, rfl, rfl, rfl, rfl⟩ := inj7 h; exact g_iret hC dX5_addText_11
  · have h := mo_s h
    obtain ⟨g_4, h⟩ := gd_some h
    refine g_astore_n (pc' := 6) (i := 2) (lo' := [some (.ref (ea E 35)), some (.int v1), some (.ref (ea E (4 * o_3)))]) hC dX5_addText_5 rfl rfl rfl rfl rfl ?_
    refine g_aload_n (pc' := 7) (i := 2) hC dX5_addText_6 rfl rfl rfl ?_
    refine g_ifnonnull (tgt := 12) hC dX5_addText_7 (by decide) ?_
    refine g_aload_n (pc' := 13) (i := 2) hC dX5_addText_12 rfl rfl rfl ?_
    refine gf_X5_54 (pc' := 16) hC (of_decide_eq_true g_4) dX5_addText_13 rfl ?_
    refine g_iconst (pc' := 17) (v := (2 : Int32)) hC dX5_addText_16 (by decide) rfl ?_
    refine g_icmp_eq (pc' := 20) (tgt := 23) hC dX5_addText_17 (by decide) rfl h (fun h => ?_) (fun h => ?_)
    · refine g_aload_n (pc' := 24) (i := 2) hC dX5_addText_23 rfl rfl rfl ?_
      refine gf_X5_46 (pc' := 27) hC (of_decide_eq_true g_4) dX5_addText_24 rfl ?_
      refine g_sipush (pc' := 30) (v := (200 : Int32)) hC dX5_addText_27 (by decide) rfl ?_
      refine g_icmp_lt (pc' := 33) (tgt := 36) hC dX5_addText_30 (by decide) rfl h (fun h => ?_) (fun h => ?_)
      · refine g_aload_n (pc' := 37) (i := 2) hC dX5_addText_36 rfl rfl rfl ?_
        refine g_aload_n (pc' := 38) (i := 0) hC dX5_addText_37 rfl rfl rfl ?_
        refine gf_X5_21 (pc' := 41) hC dX5_addText_38 rfl ?_
        refine g_iconst (pc' := 42) (v := (0 : Int32)) hC dX5_addText_41 (by decide) rfl ?_
        refine g_aload_n (pc' := 43) (i := 0) hC dX5_addText_42 rfl rfl rfl ?_
        refine gf_X5_21 (pc' := 46) hC dX5_addText_43 rfl ?_
        refine gf_X5_61 (pc' := 49) hC (by decide) dX5_addText_46 rfl ?_
        obtain ⟨xc_5, xt_6, xn_7, xl_8, hc_9, h⟩ := bd4_some h
        refine g_callV (pc' := 52) hC (c_X0_pushText _ (of_decide_eq_true g_4) (by decide) hc_9) ml_X5_65 (rc_Col (of_decide_eq_true g_4)) (by decide) rfl rfl rfl rfl dX5_addText_49 rfl ?_
        refine g_aload_n (pc' := 53) (i := 0) hC dX5_addText_52 rfl rfl rfl ?_
        refine gf_X5_21 (pc' := 56) hC dX5_addText_53 rfl ?_
        obtain ⟨rc_10, rv_11, hc_12, h⟩ := bd2_some h
        refine g_callV (pc' := 59) hC (c_X3_clear _ (by decide) hc_12) ml_X5_69 (rc_Row (by decide)) (by decide) rfl rfl rfl rfl dX5_addText_56 rfl ?_
        refine g_aload_n (pc' := 60) (i := 2) hC dX5_addText_59 rfl rfl rfl ?_
        refine gf_X5_46 (pc' := 63) hC (of_decide_eq_true g_4) dX5_addText_60 rfl ?_
        refine g_iconst (pc' := 64) (v := (1 : Int32)) hC dX5_addText_63 (by decide) rfl ?_
        refine g_isub (pc' := 65) hC dX5_addText_64 rfl ?_
        obtain ⟨rfl, rfl, rfl, rfl, rfl, rfl, rfl⟩ := inj7 h; exact g_iret hC dX5_addText_65
      · refine g_bipush (pc' := 35) (v := (-3 : Int32)) hC dX5_addText_33 (by decide) rfl ?_
        obtain ⟨rfl, rfl, rfl, rfl, rfl, rfl, rfl⟩ := inj7 h; exact g_iret hC dX5_addText_35
    · refine g_bipush (pc' := 22) (v := (-2 : Int32)) hC dX5_addText_20 (by decide) rfl ?_
      obtain ⟨rfl, rfl, rfl, rfl, rfl, rfl, rfl⟩ := inj7 h; exact g_iret hC dX5_addText_22
set_option maxRecDepth 200000 in
theorem c_X5_addNone (l : Launch) {E : GE} {rr : Int32} {xcz : Nat → Int32} {xtz : Nat → Nat → Int32} {xnz : Nat → Nat → Int64} {v1 : Int32}  (h : p_X5_addNone v1 xo xc xt xn = some (rr, xcz, xtz, xnz)) : Met l yX5_addNone (.code yX5_addNone cX5_addNone 3 (some .int) :: gU) rm_X5_addNone (gP E (xws E xk xo xc xt xn xl rc rv rb la wch wcc wpl wun srow ssp sen str stp swd rwp rdr rpd rpv rpc rzp) [.ref (ea E 35), .int v1]) (gQ E (xws E xk xo xcz xtz xnz xl rc rv rb la wch wcc wpl wun srow ssp sen str stp swd rwp rdr rpd rpv rpc rzp) (some (.int rr))) 0 0 E.2.2.1 := by
  refine met_of (y := yX5_addNone) (own := RX5) (lo := [some (.ref (ea E 35)), some (.int v1), none]) (by decide) rfl rfl rfl (fun κ hl hC => ?_)
  subst hl
  unfold p_X5_addNone at h
  refine g_aload_n (pc' := 1) (i := 0) hC dX5_addNone_0 rfl rfl rfl ?_
  refine g_iload_n (pc' := 2) (i := 1) hC dX5_addNone_1 rfl rfl rfl ?_
  obtain ⟨a_1, hc_2, h⟩ := bd1_some h
  refine g_callV (pc' := 5) hC (c_X5_columnAt _ hc_2) ml_X5_42 (rc_CP) (by decide) rfl rfl rfl rfl dX5_addNone_2 rfl ?_
  rcases a_1 with _ | o_3
  · have h := mo_n h
    refine g_astore_nN (pc' := 6) (i := 2) (lo' := [some (.ref (ea E 35)), some (.int v1), some (.null)]) hC dX5_addNone_5 rfl rfl rfl rfl rfl ?_
    refine g_aload_nN (pc' := 7) (i := 2) hC dX5_addNone_6 rfl rfl rfl ?_
    refine g_ifnonnullN (pc' := 10) hC dX5_addNone_7 rfl ?_
    refine g_iconst (pc' := 11) (v := (-1 : Int32)) hC dX5_addNone_10 (by decide) rfl ?_
    obtain ⟨rfl, rfl, rfl, rfl⟩ := inj4 h; exact g_iret hC dX5_addNone_11
  · have h := mo_s h
    obtain ⟨g_4, h⟩ := gd_some h
    refine g_astore_n (pc' := 6) (i := 2) (lo' := [some (.ref (ea E 35)), some (.int v1), some (.ref (ea E (4 * o_3)))]) hC dX5_addNone_5 rfl rfl rfl rfl rfl ?_
    refine g_aload_n (pc' := 7) (i := 2) hC dX5_addNone_6 rfl rfl rfl ?_
    refine g_ifnonnull (tgt := 12) hC dX5_addNone_7 (by decide) ?_
    refine g_aload_n (pc' := 13) (i := 2) hC dX5_addNone_12 rfl rfl rfl ?_
    refine gf_X5_72 (pc' := 16) hC (of_decide_eq_true g_4) dX5_addNone_13 rfl ?_
    refine g_if_ne (pc' := 19) (tgt := 22) hC dX5_addNone_16 (by decide) rfl h (fun h => ?_) (fun h => ?_)
    · refine g_bipush (pc' := 21) (v := (-2 : Int32)) hC dX5_addNone_19 (by decide) rfl ?_
      obtain ⟨rfl, rfl, rfl, rfl⟩ := inj4 h; exact g_iret hC dX5_addNone_21
    · refine g_aload_n (pc' := 23) (i := 2) hC dX5_addNone_22 rfl rfl rfl ?_
      refine gf_X5_46 (pc' := 26) hC (of_decide_eq_true g_4) dX5_addNone_23 rfl ?_
      refine g_sipush (pc' := 29) (v := (200 : Int32)) hC dX5_addNone_26 (by decide) rfl ?_
      refine g_icmp_lt (pc' := 32) (tgt := 35) hC dX5_addNone_29 (by decide) rfl h (fun h => ?_) (fun h => ?_)
      · refine g_aload_n (pc' := 36) (i := 2) hC dX5_addNone_35 rfl rfl rfl ?_
        obtain ⟨xc_5, xt_6, xn_7, hc_8, h⟩ := bd3_some h
        refine g_callV (pc' := 39) hC (c_X0_pushNone _ (of_decide_eq_true g_4) hc_8) ml_X5_76 (rc_Col (of_decide_eq_true g_4)) (by decide) rfl rfl rfl rfl dX5_addNone_36 rfl ?_
        refine g_aload_n (pc' := 40) (i := 2) hC dX5_addNone_39 rfl rfl rfl ?_
        refine gf_X5_46 (pc' := 43) hC (of_decide_eq_true g_4) dX5_addNone_40 rfl ?_
        refine g_iconst (pc' := 44) (v := (1 : Int32)) hC dX5_addNone_43 (by decide) rfl ?_
        refine g_isub (pc' := 45) hC dX5_addNone_44 rfl ?_
        obtain ⟨rfl, rfl, rfl, rfl⟩ := inj4 h; exact g_iret hC dX5_addNone_45
      · refine g_bipush (pc' := 34) (v := (-3 : Int32)) hC dX5_addNone_32 (by decide) rfl ?_
        obtain ⟨rfl, rfl, rfl, rfl⟩ := inj4 h; exact g_iret hC dX5_addNone_34
set_option maxRecDepth 200000 in
theorem c_X5_repeat (l : Launch) {E : GE} {rr : Int32} {xcz : Nat → Int32} {xtz : Nat → Nat → Int32} {xnz : Nat → Nat → Int64} {xlz : Nat → Nat → Int32} {v1 : Int32} {v2 : Int32} {v3 : Int32}  (h : p_X5_repeat v1 v2 v3 xk xc xt xn xl = some (rr, xcz, xtz, xnz, xlz)) : Met l yX5_repeat (.code yX5_repeat cX5_repeat 5 (some .int) :: gU) rm_X5_repeat (gP E (xws E xk xo xc xt xn xl rc rv rb la wch wcc wpl wun srow ssp sen str stp swd rwp rdr rpd rpv rpc rzp) [.ref (ea E 35), .int v1, .int v2, .int v3]) (gQ E (xws E xk xo xcz xtz xnz xlz rc rv rb la wch wcc wpl wun srow ssp sen str stp swd rwp rdr rpd rpv rpc rzp) (some (.int rr))) 0 0 E.2.2.1 := by
  refine met_of (y := yX5_repeat) (own := RX5) (lo := [some (.ref (ea E 35)), some (.int v1), some (.int v2), some (.int v3), none]) (by decide) rfl rfl rfl (fun κ hl hC => ?_)
  subst hl
  unfold p_X5_repeat at h
  refine g_aload_n (pc' := 1) (i := 0) hC dX5_repeat_0 rfl rfl rfl ?_
  refine g_iload_n (pc' := 2) (i := 1) hC dX5_repeat_1 rfl rfl rfl ?_
  obtain ⟨a_1, hc_2, h⟩ := bd1_some h
  refine g_callV (pc' := 5) hC (c_X5_columnAt _ hc_2) ml_X5_42 (rc_CP) (by decide) rfl rfl rfl rfl dX5_repeat_2 rfl ?_
  rcases a_1 with _ | o_3
  · have h := mo_n h
    refine g_astoreN (pc' := 7) (i := 4) (lo' := [some (.ref (ea E 35)), some (.int v1), some (.int v2), some (.int v3), some (.null)]) hC dX5_repeat_5 rfl rfl rfl rfl ?_
    refine g_aloadN (pc' := 9) (i := 4) hC dX5_repeat_7 rfl rfl ?_
    refine g_ifnullN (tgt := 37) hC dX5_repeat_9 (by decide) ?_
    refine g_iconst (pc' := 38) (v := (-1 : Int32)) hC dX5_repeat_37 (by decide) rfl ?_
    obtain ⟨rfl, rfl, rfl, rfl, rfl⟩ := inj5 h; exact g_iret hC dX5_repeat_38
  · have h := mo_s h
    obtain ⟨g_4, h⟩ := gd_some h
    refine g_astore (pc' := 7) (i := 4) (lo' := [some (.ref (ea E 35)), some (.int v1), some (.int v2), some (.int v3), some (.ref (ea E (4 * o_3)))]) hC dX5_repeat_5 rfl rfl rfl rfl ?_
    refine g_aload (pc' := 9) (i := 4) hC dX5_repeat_7 rfl rfl ?_
    refine g_ifnull (pc' := 12) hC dX5_repeat_9 rfl ?_
    refine g_iload_n (pc' := 13) (i := 2) hC dX5_repeat_12 rfl rfl rfl ?_
    refine g_if_lt (pc' := 16) (tgt := 37) hC dX5_repeat_13 (by decide) rfl h (fun h => ?_) (fun h => ?_)
    · refine g_iconst (pc' := 38) (v := (-1 : Int32)) hC dX5_repeat_37 (by decide) rfl ?_
      obtain ⟨rfl, rfl, rfl, rfl, rfl⟩ := inj5 h; exact g_iret hC dX5_repeat_38
    · refine g_iload_n (pc' := 17) (i := 2) hC dX5_repeat_16 rfl rfl rfl ?_
      refine g_aload (pc' := 19) (i := 4) hC dX5_repeat_17 rfl rfl ?_
      refine gf_X5_46 (pc' := 22) hC (of_decide_eq_true g_4) dX5_repeat_19 rfl ?_
      refine g_icmp_gt (pc' := 25) (tgt := 37) hC dX5_repeat_22 (by decide) rfl h (fun h => ?_) (fun h => ?_)
      · refine g_iconst (pc' := 38) (v := (-1 : Int32)) hC dX5_repeat_37 (by decide) rfl ?_
        obtain ⟨rfl, rfl, rfl, rfl, rfl⟩ := inj5 h; exact g_iret hC dX5_repeat_38
      · refine g_iload_n (pc' := 26) (i := 3) hC dX5_repeat_25 rfl rfl rfl ?_
        refine g_iconst (pc' := 27) (v := (1 : Int32)) hC dX5_repeat_26 (by decide) rfl ?_
        refine g_icmp_lt (pc' := 30) (tgt := 37) hC dX5_repeat_27 (by decide) rfl h (fun h => ?_) (fun h => ?_)
        · refine g_iconst (pc' := 38) (v := (-1 : Int32)) hC dX5_repeat_37 (by decide) rfl ?_
          obtain ⟨rfl, rfl, rfl, rfl, rfl⟩ := inj5 h; exact g_iret hC dX5_repeat_38
        · refine g_iload_n (pc' := 31) (i := 3) hC dX5_repeat_30 rfl rfl rfl ?_
          refine g_sipush (pc' := 34) (v := (200 : Int32)) hC dX5_repeat_31 (by decide) rfl ?_
          refine g_icmp_le (pc' := 37) (tgt := 39) hC dX5_repeat_34 (by decide) rfl h (fun h => ?_) (fun h => ?_)
          · refine g_iconst (pc' := 38) (v := (-1 : Int32)) hC dX5_repeat_37 (by decide) rfl ?_
            obtain ⟨rfl, rfl, rfl, rfl, rfl⟩ := inj5 h; exact g_iret hC dX5_repeat_38
          · refine g_iload_n (pc' := 40) (i := 2) hC dX5_repeat_39 rfl rfl rfl ?_
            refine g_iload_n (pc' := 41) (i := 3) hC dX5_repeat_40 rfl rfl rfl ?_
            refine g_imul (pc' := 42) hC dX5_repeat_41 rfl ?_
            refine g_sipush (pc' := 45) (v := (200 : Int32)) hC dX5_repeat_42 (by decide) rfl ?_
            refine g_icmp_le (pc' := 48) (tgt := 51) hC dX5_repeat_45 (by decide) rfl h (fun h => ?_) (fun h => ?_)
            · refine g_bipush (pc' := 50) (v := (-3 : Int32)) hC dX5_repeat_48 (by decide) rfl ?_
              obtain ⟨rfl, rfl, rfl, rfl, rfl⟩ := inj5 h; exact g_iret hC dX5_repeat_50
            · refine g_aload (pc' := 53) (i := 4) hC dX5_repeat_51 rfl rfl ?_
              refine g_iload_n (pc' := 54) (i := 2) hC dX5_repeat_53 rfl rfl rfl ?_
              refine g_iload_n (pc' := 55) (i := 3) hC dX5_repeat_54 rfl rfl rfl ?_
              obtain ⟨xc_5, xt_6, xn_7, xl_8, hc_9, h⟩ := bd4_some h
              refine g_callV (pc' := 58) hC (c_X0_multiply _ (of_decide_eq_true g_4) hc_9) ml_X5_79 (rc_Col (of_decide_eq_true g_4)) (by decide) rfl rfl rfl rfl dX5_repeat_55 rfl ?_
              refine g_aload (pc' := 60) (i := 4) hC dX5_repeat_58 rfl rfl ?_
              refine gf_X5_46 (pc' := 63) hC (of_decide_eq_true g_4) dX5_repeat_60 rfl ?_
              obtain ⟨rfl, rfl, rfl, rfl, rfl⟩ := inj5 h; exact g_iret hC dX5_repeat_63
set_option maxRecDepth 200000 in
theorem c_X5_told (l : Launch) {E : GE} {rr : Int32} {v1 : Int32} {v2 : Int32}  (h : p_X5_told v1 v2 xk xo xc xt xn xl = some rr) : Met l yX5_told (.code yX5_told cX5_told 4 (some .int) :: gU) rm_X5_told (gP E (xws E xk xo xc xt xn xl rc rv rb la wch wcc wpl wun srow ssp sen str stp swd rwp rdr rpd rpv rpc rzp) [.ref (ea E 35), .int v1, .int v2]) (gQ E (xws E xk xo xc xt xn xl rc rv rb la wch wcc wpl wun srow ssp sen str stp swd rwp rdr rpd rpv rpc rzp) (some (.int rr))) 0 0 E.2.2.1 := by
  refine met_of (y := yX5_told) (own := RX5) (lo := [some (.ref (ea E 35)), some (.int v1), some (.int v2), none]) (by decide) rfl rfl rfl (fun κ hl hC => ?_)
  subst hl
  unfold p_X5_told at h
  refine g_aload_n (pc' := 1) (i := 0) hC dX5_told_0 rfl rfl rfl ?_
  refine g_iload_n (pc' := 2) (i := 1) hC dX5_told_1 rfl rfl rfl ?_
  obtain ⟨a_1, hc_2, h⟩ := bd1_some h
  refine g_callV (pc' := 5) hC (c_X5_columnAt _ hc_2) ml_X5_42 (rc_CP) (by decide) rfl rfl rfl rfl dX5_told_2 rfl ?_
  rcases a_1 with _ | o_3
  · have h := mo_n h
    refine g_astore_nN (pc' := 6) (i := 3) (lo' := [some (.ref (ea E 35)), some (.int v1), some (.int v2), some (.null)]) hC dX5_told_5 rfl rfl rfl rfl rfl ?_
    refine g_aload_nN (pc' := 7) (i := 3) hC dX5_told_6 rfl rfl rfl ?_
    refine g_ifnonnullN (pc' := 10) hC dX5_told_7 rfl ?_
    refine g_iconst (pc' := 11) (v := (-1 : Int32)) hC dX5_told_10 (by decide) rfl ?_
    obtain rfl := inj1 h; exact g_iret hC dX5_told_11
  · have h := mo_s h
    obtain ⟨g_4, h⟩ := gd_some h
    refine g_astore_n (pc' := 6) (i := 3) (lo' := [some (.ref (ea E 35)), some (.int v1), some (.int v2), some (.ref (ea E (4 * o_3)))]) hC dX5_told_5 rfl rfl rfl rfl rfl ?_
    refine g_aload_n (pc' := 7) (i := 3) hC dX5_told_6 rfl rfl rfl ?_
    refine g_ifnonnull (tgt := 12) hC dX5_told_7 (by decide) ?_
    refine g_iload_n (pc' := 13) (i := 2) hC dX5_told_12 rfl rfl rfl ?_
    refine g_case h (fun c_5 h => ?_) (fun c_5 h => ?_)
    · refine g_tswIn hC (tgt := 48) dX5_told_13 (by rw [c_5]; decide) (by rw [c_5]; decide) (by rw [c_5]; rfl) (by decide) ?_
      refine g_aload_n (pc' := 49) (i := 3) hC dX5_told_48 rfl rfl rfl ?_
      refine gf_X5_54 (pc' := 52) hC (of_decide_eq_true g_4) dX5_told_49 rfl ?_
      obtain rfl := inj1 h; exact g_iret hC dX5_told_52
    · skip
      refine g_case h (fun c_6 h => ?_) (fun c_6 h => ?_)
      · refine g_tswIn hC (tgt := 53) dX5_told_13 (by rw [c_6]; decide) (by rw [c_6]; decide) (by rw [c_6]; rfl) (by decide) ?_
        refine g_aload_n (pc' := 54) (i := 3) hC dX5_told_53 rfl rfl rfl ?_
        refine gf_X5_72 (pc' := 57) hC (of_decide_eq_true g_4) dX5_told_54 rfl ?_
        refine g_if_eq (pc' := 60) (tgt := 64) hC dX5_told_57 (by decide) rfl h (fun h => ?_) (fun h => ?_)
        · refine g_iconst (pc' := 65) (v := (0 : Int32)) hC dX5_told_64 (by decide) rfl ?_
          obtain rfl := inj1 h; exact g_iret hC dX5_told_65
        · refine g_iconst (pc' := 61) (v := (1 : Int32)) hC dX5_told_60 (by decide) rfl ?_
          refine g_goto (tgt := 65) hC dX5_told_61 (by decide) ?_
          obtain rfl := inj1 h; exact g_iret hC dX5_told_65
      · skip
        refine g_case h (fun c_7 h => ?_) (fun c_7 h => ?_)
        · refine g_tswIn hC (tgt := 66) dX5_told_13 (by rw [c_7]; decide) (by rw [c_7]; decide) (by rw [c_7]; rfl) (by decide) ?_
          refine g_aload_n (pc' := 67) (i := 3) hC dX5_told_66 rfl rfl rfl ?_
          refine gf_X5_46 (pc' := 70) hC (of_decide_eq_true g_4) dX5_told_67 rfl ?_
          obtain rfl := inj1 h; exact g_iret hC dX5_told_70
        · skip
          refine g_case h (fun c_8 h => ?_) (fun c_8 h => ?_)
          · refine g_tswIn hC (tgt := 71) dX5_told_13 (by rw [c_8]; decide) (by rw [c_8]; decide) (by rw [c_8]; rfl) (by decide) ?_
            refine g_aload_n (pc' := 72) (i := 3) hC dX5_told_71 rfl rfl rfl ?_
            obtain ⟨a_9, hc_10, h⟩ := bd1_some h
            refine g_callV (pc' := 75) hC (c_X0_countAbsent _ (of_decide_eq_true g_4) hc_10) ml_X5_83 (rc_Col (of_decide_eq_true g_4)) (by decide) rfl rfl rfl rfl dX5_told_72 rfl ?_
            obtain rfl := inj1 h; exact g_iret hC dX5_told_75
          · skip
            refine g_case h (fun c_11 h => ?_) (fun c_11 h => ?_)
            · refine g_tswIn hC (tgt := 76) dX5_told_13 (by rw [c_11]; decide) (by rw [c_11]; decide) (by rw [c_11]; rfl) (by decide) ?_
              refine g_aload_n (pc' := 77) (i := 3) hC dX5_told_76 rfl rfl rfl ?_
              obtain ⟨a_12, hc_13, h⟩ := bd1_some h
              refine g_callV (pc' := 80) hC (c_X0_countUnlike _ (of_decide_eq_true g_4) hc_13) ml_X5_87 (rc_Col (of_decide_eq_true g_4)) (by decide) rfl rfl rfl rfl dX5_told_77 rfl ?_
              obtain rfl := inj1 h; exact g_iret hC dX5_told_80
            · skip
              refine g_tswOut hC (tgt := 81) dX5_told_13 (tsw_out4 c_5 c_6 c_7 c_8 c_11) (by decide) ?_
              refine g_iconst (pc' := 82) (v := (-1 : Int32)) hC dX5_told_81 (by decide) rfl ?_
              obtain rfl := inj1 h; exact g_iret hC dX5_told_82
set_option maxRecDepth 200000 in
theorem c_X5_has (l : Launch) {E : GE} {rr : Int32} {v1 : Int32} {v2 : Int32}  (h : p_X5_has v1 v2 xc xt = some rr) : Met l yX5_has (.code yX5_has cX5_has 4 (some .int) :: gU) rm_X5_has (gP E (xws E xk xo xc xt xn xl rc rv rb la wch wcc wpl wun srow ssp sen str stp swd rwp rdr rpd rpv rpc rzp) [.ref (ea E 35), .int v1, .int v2]) (gQ E (xws E xk xo xc xt xn xl rc rv rb la wch wcc wpl wun srow ssp sen str stp swd rwp rdr rpd rpv rpc rzp) (some (.int rr))) 0 0 E.2.2.1 := by
  refine met_of (y := yX5_has) (own := RX5) (lo := [some (.ref (ea E 35)), some (.int v1), some (.int v2), none]) (by decide) rfl rfl rfl (fun κ hl hC => ?_)
  subst hl
  unfold p_X5_has at h
  refine g_aload_n (pc' := 1) (i := 0) hC dX5_has_0 rfl rfl rfl ?_
  refine g_iload_n (pc' := 2) (i := 1) hC dX5_has_1 rfl rfl rfl ?_
  obtain ⟨a_1, hc_2, h⟩ := bd1_some h
  refine g_callV (pc' := 5) hC (c_X5_columnAt _ hc_2) ml_X5_42 (rc_CP) (by decide) rfl rfl rfl rfl dX5_has_2 rfl ?_
  rcases a_1 with _ | o_3
  · have h := mo_n h
    refine g_astore_nN (pc' := 6) (i := 3) (lo' := [some (.ref (ea E 35)), some (.int v1), some (.int v2), some (.null)]) hC dX5_has_5 rfl rfl rfl rfl rfl ?_
    refine g_aload_nN (pc' := 7) (i := 3) hC dX5_has_6 rfl rfl rfl ?_
    refine g_ifnullN (tgt := 18) hC dX5_has_7 (by decide) ?_
    refine g_iconst (pc' := 19) (v := (-1 : Int32)) hC dX5_has_18 (by decide) rfl ?_
    obtain rfl := inj1 h; exact g_iret hC dX5_has_19
  · have h := mo_s h
    obtain ⟨g_4, h⟩ := gd_some h
    refine g_astore_n (pc' := 6) (i := 3) (lo' := [some (.ref (ea E 35)), some (.int v1), some (.int v2), some (.ref (ea E (4 * o_3)))]) hC dX5_has_5 rfl rfl rfl rfl rfl ?_
    refine g_aload_n (pc' := 7) (i := 3) hC dX5_has_6 rfl rfl rfl ?_
    refine g_ifnull (pc' := 10) hC dX5_has_7 rfl ?_
    refine g_aload_n (pc' := 11) (i := 3) hC dX5_has_10 rfl rfl rfl ?_
    refine g_iload_n (pc' := 12) (i := 2) hC dX5_has_11 rfl rfl rfl ?_
    obtain ⟨a_5, hc_6, h⟩ := bd1_some h
    refine g_callV (pc' := 15) hC (c_X0_holds _ (of_decide_eq_true g_4) hc_6) ml_X5_90 (rc_Col (of_decide_eq_true g_4)) (by decide) rfl rfl rfl rfl dX5_has_12 rfl ?_
    refine g_if_ne (pc' := 18) (tgt := 20) hC dX5_has_15 (by decide) rfl h (fun h => ?_) (fun h => ?_)
    · refine g_iconst (pc' := 19) (v := (-1 : Int32)) hC dX5_has_18 (by decide) rfl ?_
      obtain rfl := inj1 h; exact g_iret hC dX5_has_19
    · refine g_aload_n (pc' := 21) (i := 3) hC dX5_has_20 rfl rfl rfl ?_
      refine g_iload_n (pc' := 22) (i := 2) hC dX5_has_21 rfl rfl rfl ?_
      obtain ⟨a_7, hc_8, h⟩ := bd1_some h
      refine g_callV (pc' := 25) hC (c_X0_isThere _ (of_decide_eq_true g_4) hc_8) ml_X5_94 (rc_Col (of_decide_eq_true g_4)) (by decide) rfl rfl rfl rfl dX5_has_22 rfl ?_
      refine g_if_eq (pc' := 28) (tgt := 32) hC dX5_has_25 (by decide) rfl h (fun h => ?_) (fun h => ?_)
      · refine g_iconst (pc' := 33) (v := (0 : Int32)) hC dX5_has_32 (by decide) rfl ?_
        obtain rfl := inj1 h; exact g_iret hC dX5_has_33
      · refine g_iconst (pc' := 29) (v := (1 : Int32)) hC dX5_has_28 (by decide) rfl ?_
        refine g_goto (tgt := 33) hC dX5_has_29 (by decide) ?_
        obtain rfl := inj1 h; exact g_iret hC dX5_has_33
set_option maxRecDepth 200000 in
theorem c_X5_value (l : Launch) {E : GE} {rr : Int64} {v1 : Int32} {v2 : Int32}  (h : p_X5_value v1 v2 xc xn = some rr) : Met l yX5_value (.code yX5_value cX5_value 4 (some .long) :: gU) rm_X5_value (gP E (xws E xk xo xc xt xn xl rc rv rb la wch wcc wpl wun srow ssp sen str stp swd rwp rdr rpd rpv rpc rzp) [.ref (ea E 35), .int v1, .int v2]) (gQ E (xws E xk xo xc xt xn xl rc rv rb la wch wcc wpl wun srow ssp sen str stp swd rwp rdr rpd rpv rpc rzp) (some (.long rr))) 0 0 E.2.2.1 := by
  refine met_of (y := yX5_value) (own := RX5) (lo := [some (.ref (ea E 35)), some (.int v1), some (.int v2), none]) (by decide) rfl rfl rfl (fun κ hl hC => ?_)
  subst hl
  unfold p_X5_value at h
  refine g_aload_n (pc' := 1) (i := 0) hC dX5_value_0 rfl rfl rfl ?_
  refine g_iload_n (pc' := 2) (i := 1) hC dX5_value_1 rfl rfl rfl ?_
  obtain ⟨a_1, hc_2, h⟩ := bd1_some h
  refine g_callV (pc' := 5) hC (c_X5_columnAt _ hc_2) ml_X5_42 (rc_CP) (by decide) rfl rfl rfl rfl dX5_value_2 rfl ?_
  rcases a_1 with _ | o_3
  · have h := mo_n h
    refine g_astore_nN (pc' := 6) (i := 3) (lo' := [some (.ref (ea E 35)), some (.int v1), some (.int v2), some (.null)]) hC dX5_value_5 rfl rfl rfl rfl rfl ?_
    refine g_aload_nN (pc' := 7) (i := 3) hC dX5_value_6 rfl rfl rfl ?_
    refine g_ifnullN (tgt := 18) hC dX5_value_7 (by decide) ?_
    refine g_lconst (pc' := 19) (v := (0 : Int64)) hC dX5_value_18 (by decide) rfl ?_
    obtain rfl := inj1 h; exact g_lret hC dX5_value_19
  · have h := mo_s h
    obtain ⟨g_4, h⟩ := gd_some h
    refine g_astore_n (pc' := 6) (i := 3) (lo' := [some (.ref (ea E 35)), some (.int v1), some (.int v2), some (.ref (ea E (4 * o_3)))]) hC dX5_value_5 rfl rfl rfl rfl rfl ?_
    refine g_aload_n (pc' := 7) (i := 3) hC dX5_value_6 rfl rfl rfl ?_
    refine g_ifnull (pc' := 10) hC dX5_value_7 rfl ?_
    refine g_aload_n (pc' := 11) (i := 3) hC dX5_value_10 rfl rfl rfl ?_
    refine g_iload_n (pc' := 12) (i := 2) hC dX5_value_11 rfl rfl rfl ?_
    obtain ⟨a_5, hc_6, h⟩ := bd1_some h
    refine g_callV (pc' := 15) hC (c_X0_holds _ (of_decide_eq_true g_4) hc_6) ml_X5_90 (rc_Col (of_decide_eq_true g_4)) (by decide) rfl rfl rfl rfl dX5_value_12 rfl ?_
    refine g_if_ne (pc' := 18) (tgt := 20) hC dX5_value_15 (by decide) rfl h (fun h => ?_) (fun h => ?_)
    · refine g_lconst (pc' := 19) (v := (0 : Int64)) hC dX5_value_18 (by decide) rfl ?_
      obtain rfl := inj1 h; exact g_lret hC dX5_value_19
    · refine g_aload_n (pc' := 21) (i := 3) hC dX5_value_20 rfl rfl rfl ?_
      refine g_iload_n (pc' := 22) (i := 2) hC dX5_value_21 rfl rfl rfl ?_
      obtain ⟨a_7, hc_8, h⟩ := bd1_some h
      refine g_callV (pc' := 25) hC (c_X0_numberAt _ (of_decide_eq_true g_4) hc_8) ml_X5_97 (rc_Col (of_decide_eq_true g_4)) (by decide) rfl rfl rfl rfl dX5_value_22 rfl ?_
      obtain rfl := inj1 h; exact g_lret hC dX5_value_25
set_option maxRecDepth 200000 in
theorem c_X5_letter (l : Launch) {E : GE} {rr : Int32} {v1 : Int32} {v2 : Int32} {v3 : Int32}  (h : p_X5_letter v1 v2 v3 xk xc xt xn xl = some rr) : Met l yX5_letter (.code yX5_letter cX5_letter 5 (some .int) :: gU) rm_X5_letter (gP E (xws E xk xo xc xt xn xl rc rv rb la wch wcc wpl wun srow ssp sen str stp swd rwp rdr rpd rpv rpc rzp) [.ref (ea E 35), .int v1, .int v2, .int v3]) (gQ E (xws E xk xo xc xt xn xl rc rv rb la wch wcc wpl wun srow ssp sen str stp swd rwp rdr rpd rpv rpc rzp) (some (.int rr))) 0 0 E.2.2.1 := by
  refine met_of (y := yX5_letter) (own := RX5) (lo := [some (.ref (ea E 35)), some (.int v1), some (.int v2), some (.int v3), none]) (by decide) rfl rfl rfl (fun κ hl hC => ?_)
  subst hl
  unfold p_X5_letter at h
  refine g_aload_n (pc' := 1) (i := 0) hC dX5_letter_0 rfl rfl rfl ?_
  refine g_iload_n (pc' := 2) (i := 1) hC dX5_letter_1 rfl rfl rfl ?_
  obtain ⟨a_1, hc_2, h⟩ := bd1_some h
  refine g_callV (pc' := 5) hC (c_X5_columnAt _ hc_2) ml_X5_42 (rc_CP) (by decide) rfl rfl rfl rfl dX5_letter_2 rfl ?_
  rcases a_1 with _ | o_3
  · have h := mo_n h
    refine g_astoreN (pc' := 7) (i := 4) (lo' := [some (.ref (ea E 35)), some (.int v1), some (.int v2), some (.int v3), some (.null)]) hC dX5_letter_5 rfl rfl rfl rfl ?_
    refine g_aloadN (pc' := 9) (i := 4) hC dX5_letter_7 rfl rfl ?_
    refine g_ifnullN (tgt := 39) hC dX5_letter_9 (by decide) ?_
    refine g_iconst (pc' := 40) (v := (-1 : Int32)) hC dX5_letter_39 (by decide) rfl ?_
    obtain rfl := inj1 h; exact g_iret hC dX5_letter_40
  · have h := mo_s h
    obtain ⟨g_4, h⟩ := gd_some h
    refine g_astore (pc' := 7) (i := 4) (lo' := [some (.ref (ea E 35)), some (.int v1), some (.int v2), some (.int v3), some (.ref (ea E (4 * o_3)))]) hC dX5_letter_5 rfl rfl rfl rfl ?_
    refine g_aload (pc' := 9) (i := 4) hC dX5_letter_7 rfl rfl ?_
    refine g_ifnull (pc' := 12) hC dX5_letter_9 rfl ?_
    refine g_aload (pc' := 14) (i := 4) hC dX5_letter_12 rfl rfl ?_
    refine gf_X5_54 (pc' := 17) hC (of_decide_eq_true g_4) dX5_letter_14 rfl ?_
    refine g_iconst (pc' := 18) (v := (2 : Int32)) hC dX5_letter_17 (by decide) rfl ?_
    refine g_icmp_ne (pc' := 21) (tgt := 39) hC dX5_letter_18 (by decide) rfl h (fun h => ?_) (fun h => ?_)
    · refine g_aload (pc' := 23) (i := 4) hC dX5_letter_21 rfl rfl ?_
      refine g_iload_n (pc' := 24) (i := 2) hC dX5_letter_23 rfl rfl rfl ?_
      obtain ⟨a_5, hc_6, h⟩ := bd1_some h
      refine g_callV (pc' := 27) hC (c_X0_holds _ (of_decide_eq_true g_4) hc_6) ml_X5_90 (rc_Col (of_decide_eq_true g_4)) (by decide) rfl rfl rfl rfl dX5_letter_24 rfl ?_
      refine g_if_eq (pc' := 30) (tgt := 39) hC dX5_letter_27 (by decide) rfl h (fun h => ?_) (fun h => ?_)
      · refine g_iconst (pc' := 40) (v := (-1 : Int32)) hC dX5_letter_39 (by decide) rfl ?_
        obtain rfl := inj1 h; exact g_iret hC dX5_letter_40
      · refine g_aload (pc' := 32) (i := 4) hC dX5_letter_30 rfl rfl ?_
        refine g_iload_n (pc' := 33) (i := 2) hC dX5_letter_32 rfl rfl rfl ?_
        obtain ⟨a_7, hc_8, h⟩ := bd1_some h
        refine g_callV (pc' := 36) hC (c_X0_isThere _ (of_decide_eq_true g_4) hc_8) ml_X5_94 (rc_Col (of_decide_eq_true g_4)) (by decide) rfl rfl rfl rfl dX5_letter_33 rfl ?_
        refine g_if_ne (pc' := 39) (tgt := 41) hC dX5_letter_36 (by decide) rfl h (fun h => ?_) (fun h => ?_)
        · refine g_iconst (pc' := 40) (v := (-1 : Int32)) hC dX5_letter_39 (by decide) rfl ?_
          obtain rfl := inj1 h; exact g_iret hC dX5_letter_40
        · refine g_iload_n (pc' := 42) (i := 3) hC dX5_letter_41 rfl rfl rfl ?_
          refine g_if_lt (pc' := 45) (tgt := 57) hC dX5_letter_42 (by decide) rfl h (fun h => ?_) (fun h => ?_)
          · refine g_iconst (pc' := 58) (v := (-1 : Int32)) hC dX5_letter_57 (by decide) rfl ?_
            obtain rfl := inj1 h; exact g_iret hC dX5_letter_58
          · refine g_iload_n (pc' := 46) (i := 3) hC dX5_letter_45 rfl rfl rfl ?_
            refine g_i2l (pc' := 47) hC dX5_letter_46 rfl ?_
            refine g_aload (pc' := 49) (i := 4) hC dX5_letter_47 rfl rfl ?_
            refine g_iload_n (pc' := 50) (i := 2) hC dX5_letter_49 rfl rfl rfl ?_
            obtain ⟨a_9, hc_10, h⟩ := bd1_some h
            refine g_callV (pc' := 53) hC (c_X0_numberAt _ (of_decide_eq_true g_4) hc_10) ml_X5_97 (rc_Col (of_decide_eq_true g_4)) (by decide) rfl rfl rfl rfl dX5_letter_50 rfl ?_
            refine g_lcmp_lt (pc' := 57) (tgt := 59) hC dX5_letter_53 dX5_letter_54 rfl (by decide) rfl h (fun h => ?_) (fun h => ?_)
            · refine g_aload (pc' := 61) (i := 4) hC dX5_letter_59 rfl rfl ?_
              refine g_iload_n (pc' := 62) (i := 2) hC dX5_letter_61 rfl rfl rfl ?_
              refine g_iload_n (pc' := 63) (i := 3) hC dX5_letter_62 rfl rfl rfl ?_
              obtain ⟨a_11, hc_12, h⟩ := bd1_some h
              refine g_callV (pc' := 66) hC (c_X0_letterAt _ (of_decide_eq_true g_4) hc_12) ml_X5_101 (rc_Col (of_decide_eq_true g_4)) (by decide) rfl rfl rfl rfl dX5_letter_63 rfl ?_
              obtain rfl := inj1 h; exact g_iret hC dX5_letter_66
            · refine g_iconst (pc' := 58) (v := (-1 : Int32)) hC dX5_letter_57 (by decide) rfl ?_
              obtain rfl := inj1 h; exact g_iret hC dX5_letter_58
    · refine g_iconst (pc' := 40) (v := (-1 : Int32)) hC dX5_letter_39 (by decide) rfl ?_
      obtain rfl := inj1 h; exact g_iret hC dX5_letter_40
set_option maxRecDepth 200000 in
theorem c_X5_alike (l : Launch) {E : GE} {rr : Int32} {v1 : Int32} {v2 : Int32}  (h : p_X5_alike v1 v2 xk xc xt xn xl = some rr) : Met l yX5_alike (.code yX5_alike cX5_alike 5 (some .int) :: gU) rm_X5_alike (gP E (xws E xk xo xc xt xn xl rc rv rb la wch wcc wpl wun srow ssp sen str stp swd rwp rdr rpd rpv rpc rzp) [.ref (ea E 35), .int v1, .int v2]) (gQ E (xws E xk xo xc xt xn xl rc rv rb la wch wcc wpl wun srow ssp sen str stp swd rwp rdr rpd rpv rpc rzp) (some (.int rr))) 0 0 E.2.2.1 := by
  refine met_of (y := yX5_alike) (own := RX5) (lo := [some (.ref (ea E 35)), some (.int v1), some (.int v2), none, none]) (by decide) rfl rfl rfl (fun κ hl hC => ?_)
  subst hl
  unfold p_X5_alike at h
  refine g_aload_n (pc' := 1) (i := 0) hC dX5_alike_0 rfl rfl rfl ?_
  refine g_iload_n (pc' := 2) (i := 1) hC dX5_alike_1 rfl rfl rfl ?_
  obtain ⟨a_1, hc_2, h⟩ := bd1_some h
  refine g_callV (pc' := 5) hC (c_X5_columnAt _ hc_2) ml_X5_42 (rc_CP) (by decide) rfl rfl rfl rfl dX5_alike_2 rfl ?_
  rcases a_1 with _ | o_3
  · have h := mo_n h
    refine g_astore_nN (pc' := 6) (i := 3) (lo' := [some (.ref (ea E 35)), some (.int v1), some (.int v2), some (.null), none]) hC dX5_alike_5 rfl rfl rfl rfl rfl ?_
    refine g_aload_n (pc' := 7) (i := 0) hC dX5_alike_6 rfl rfl rfl ?_
    refine g_iload_n (pc' := 8) (i := 2) hC dX5_alike_7 rfl rfl rfl ?_
    obtain ⟨a_4, hc_5, h⟩ := bd1_some h
    refine g_callV (pc' := 11) hC (c_X5_columnAt _ hc_5) ml_X5_42 (rc_CP) (by decide) rfl rfl rfl rfl dX5_alike_8 rfl ?_
    rcases a_4 with _ | o_6
    · have h := mo_n h
      refine g_astoreN (pc' := 13) (i := 4) (lo' := [some (.ref (ea E 35)), some (.int v1), some (.int v2), some (.null), some (.null)]) hC dX5_alike_11 rfl rfl rfl rfl ?_
      refine g_aload_nN (pc' := 14) (i := 3) hC dX5_alike_13 rfl rfl rfl ?_
      refine g_ifnullN (tgt := 22) hC dX5_alike_14 (by decide) ?_
      refine g_iconst (pc' := 23) (v := (-1 : Int32)) hC dX5_alike_22 (by decide) rfl ?_
      obtain rfl := inj1 h; exact g_iret hC dX5_alike_23
    · have h := mo_s h
      obtain ⟨g_7, h⟩ := gd_some h
      refine g_astore (pc' := 13) (i := 4) (lo' := [some (.ref (ea E 35)), some (.int v1), some (.int v2), some (.null), some (.ref (ea E (4 * o_6)))]) hC dX5_alike_11 rfl rfl rfl rfl ?_
      refine g_aload_nN (pc' := 14) (i := 3) hC dX5_alike_13 rfl rfl rfl ?_
      refine g_ifnullN (tgt := 22) hC dX5_alike_14 (by decide) ?_
      refine g_iconst (pc' := 23) (v := (-1 : Int32)) hC dX5_alike_22 (by decide) rfl ?_
      obtain rfl := inj1 h; exact g_iret hC dX5_alike_23
  · have h := mo_s h
    obtain ⟨g_8, h⟩ := gd_some h
    refine g_astore_n (pc' := 6) (i := 3) (lo' := [some (.ref (ea E 35)), some (.int v1), some (.int v2), some (.ref (ea E (4 * o_3))), none]) hC dX5_alike_5 rfl rfl rfl rfl rfl ?_
    refine g_aload_n (pc' := 7) (i := 0) hC dX5_alike_6 rfl rfl rfl ?_
    refine g_iload_n (pc' := 8) (i := 2) hC dX5_alike_7 rfl rfl rfl ?_
    obtain ⟨a_9, hc_10, h⟩ := bd1_some h
    refine g_callV (pc' := 11) hC (c_X5_columnAt _ hc_10) ml_X5_42 (rc_CP) (by decide) rfl rfl rfl rfl dX5_alike_8 rfl ?_
    rcases a_9 with _ | o_11
    · have h := mo_n h
      refine g_astoreN (pc' := 13) (i := 4) (lo' := [some (.ref (ea E 35)), some (.int v1), some (.int v2), some (.ref (ea E (4 * o_3))), some (.null)]) hC dX5_alike_11 rfl rfl rfl rfl ?_
      refine g_aload_n (pc' := 14) (i := 3) hC dX5_alike_13 rfl rfl rfl ?_
      refine g_ifnull (pc' := 17) hC dX5_alike_14 rfl ?_
      refine g_aloadN (pc' := 19) (i := 4) hC dX5_alike_17 rfl rfl ?_
      refine g_ifnonnullN (pc' := 22) hC dX5_alike_19 rfl ?_
      refine g_iconst (pc' := 23) (v := (-1 : Int32)) hC dX5_alike_22 (by decide) rfl ?_
      obtain rfl := inj1 h; exact g_iret hC dX5_alike_23
    · have h := mo_s h
      obtain ⟨g_12, h⟩ := gd_some h
      refine g_astore (pc' := 13) (i := 4) (lo' := [some (.ref (ea E 35)), some (.int v1), some (.int v2), some (.ref (ea E (4 * o_3))), some (.ref (ea E (4 * o_11)))]) hC dX5_alike_11 rfl rfl rfl rfl ?_
      refine g_aload_n (pc' := 14) (i := 3) hC dX5_alike_13 rfl rfl rfl ?_
      refine g_ifnull (pc' := 17) hC dX5_alike_14 rfl ?_
      refine g_aload (pc' := 19) (i := 4) hC dX5_alike_17 rfl rfl ?_
      refine g_ifnonnull (tgt := 24) hC dX5_alike_19 (by decide) ?_
      refine g_aload_n (pc' := 25) (i := 3) hC dX5_alike_24 rfl rfl rfl ?_
      refine g_aload (pc' := 27) (i := 4) hC dX5_alike_25 rfl rfl ?_
      obtain ⟨a_13, hc_14, h⟩ := bd1_some h
      refine g_callV (pc' := 30) hC (c_X0_isLike _ (of_decide_eq_true g_8) (of_decide_eq_true g_12) hc_14) ml_X5_105 (rc_Col (of_decide_eq_true g_8)) (by decide) rfl rfl rfl rfl dX5_alike_27 rfl ?_
      refine g_if_eq (pc' := 33) (tgt := 37) hC dX5_alike_30 (by decide) rfl h (fun h => ?_) (fun h => ?_)
      · refine g_iconst (pc' := 38) (v := (0 : Int32)) hC dX5_alike_37 (by decide) rfl ?_
        obtain rfl := inj1 h; exact g_iret hC dX5_alike_38
      · refine g_iconst (pc' := 34) (v := (1 : Int32)) hC dX5_alike_33 (by decide) rfl ?_
        refine g_goto (tgt := 38) hC dX5_alike_34 (by decide) ?_
        obtain rfl := inj1 h; exact g_iret hC dX5_alike_38
set_option maxRecDepth 200000 in
theorem w_X5_write_J78 {κ : GK} {E : GE} {rr : Int32} {rcz : Nat → Int32} {rvz : Nat → Int32} {rbz : Nat → Nat → Int32} {laz : Nat → Nat → Int64} {wchz : Nat → Int32} {wccz : Int32} {wplz : Nat → Int32} {wunz : Int32} {s0 : Int32}  (hC : gC κ E cX5_write RX5 (some .int) rm_X5_write 7)   (h : p_X5_write_J78 s0 rc rv rb la wch wcc wpl wun = some (rr, rcz, rvz, rbz, laz, wchz, wccz, wplz, wunz)) : GG κ E (xws E xk xo xc xt xn xl rcz rvz rbz laz wchz wccz wplz wunz srow ssp sen str stp swd rwp rdr rpd rpv rpc rzp, some (.int rr)) (xws E xk xo xc xt xn xl rc rv rb la wch wcc wpl wun srow ssp sen str stp swd rwp rdr rpd rpv rpc rzp) 78 [some (.ref (ea E 35)), none, none, none, none, none, none] [.int s0] := by
  unfold p_X5_write_J78 at h
  refine g_istore (pc' := 80) (i := 6) (lo' := [some (.ref (ea E 35)), none, none, none, none, none, some (.int s0)]) hC dX5_write_78 rfl rfl rfl rfl ?_
  refine g_aload_n (pc' := 81) (i := 0) hC dX5_write_80 rfl rfl rfl ?_
  refine gf_X5_31 (pc' := 84) hC dX5_write_81 rfl ?_
  refine gf_X5_113 (pc' := 87) hC dX5_write_84 rfl ?_
  refine gf_X5_116 (pc' := 90) hC (by decide) dX5_write_87 rfl ?_
  refine g_if_ne (pc' := 93) (tgt := 112) hC dX5_write_90 (by decide) rfl h (fun h => ?_) (fun h => ?_)
  · refine g_iload (pc' := 95) (i := 6) hC dX5_write_93 rfl rfl ?_
    refine g_aload_n (pc' := 96) (i := 0) hC dX5_write_95 rfl rfl rfl ?_
    refine gf_X5_31 (pc' := 99) hC dX5_write_96 rfl ?_
    refine gf_X5_113 (pc' := 102) hC dX5_write_99 rfl ?_
    refine gf_X5_61 (pc' := 105) hC (by decide) dX5_write_102 rfl ?_
    refine g_iadd (pc' := 106) hC dX5_write_105 rfl ?_
    refine g_sipush (pc' := 109) (v := (12000 : Int32)) hC dX5_write_106 (by decide) rfl ?_
    refine g_icmp_le (pc' := 112) (tgt := 115) hC dX5_write_109 (by decide) rfl h (fun h => ?_) (fun h => ?_)
    · refine g_bipush (pc' := 114) (v := (-3 : Int32)) hC dX5_write_112 (by decide) rfl ?_
      obtain ⟨rfl, rfl, rfl, rfl, rfl, rfl, rfl, rfl, rfl⟩ := inj9 h; exact g_iret hC dX5_write_114
    · refine g_aload_n (pc' := 116) (i := 0) hC dX5_write_115 rfl rfl rfl ?_
      refine gf_X5_25 (pc' := 119) hC dX5_write_116 rfl ?_
      refine g_iload (pc' := 121) (i := 6) hC dX5_write_119 rfl rfl ?_
      obtain ⟨rc_14, hc_15, h⟩ := bd1_some h
      refine g_callV (pc' := 124) hC (c_X3_shorten _ (by decide) hc_15) ml_X5_119 (rc_Row (by decide)) (by decide) rfl rfl rfl rfl dX5_write_121 rfl ?_
      refine g_aload_n (pc' := 125) (i := 0) hC dX5_write_124 rfl rfl rfl ?_
      refine gf_X5_25 (pc' := 128) hC dX5_write_125 rfl ?_
      refine g_aload_n (pc' := 129) (i := 0) hC dX5_write_128 rfl rfl rfl ?_
      refine gf_X5_31 (pc' := 132) hC dX5_write_129 rfl ?_
      refine gf_X5_113 (pc' := 135) hC dX5_write_132 rfl ?_
      obtain ⟨rc_16, rv_17, rb_18, hc_19, h⟩ := bd3_some h
      refine g_callV (pc' := 138) hC (c_X3_append _ (by decide) (by decide) hc_19) ml_X5_122 (rc_Row (by decide)) (by decide) rfl rfl rfl rfl dX5_write_135 rfl ?_
      refine g_aload_n (pc' := 139) (i := 0) hC dX5_write_138 rfl rfl rfl ?_
      refine gf_X5_25 (pc' := 142) hC dX5_write_139 rfl ?_
      refine gf_X5_61 (pc' := 145) hC (by decide) dX5_write_142 rfl ?_
      obtain ⟨rfl, rfl, rfl, rfl, rfl, rfl, rfl, rfl, rfl⟩ := inj9 h; exact g_iret hC dX5_write_145
  · refine g_bipush (pc' := 114) (v := (-3 : Int32)) hC dX5_write_112 (by decide) rfl ?_
    obtain ⟨rfl, rfl, rfl, rfl, rfl, rfl, rfl, rfl, rfl⟩ := inj9 h; exact g_iret hC dX5_write_114
set_option maxRecDepth 200000 in
theorem w_X5_write_J51 {κ : GK} {E : GE} {rr : Int32} {rcz : Nat → Int32} {rvz : Nat → Int32} {rbz : Nat → Nat → Int32} {laz : Nat → Nat → Int64} {wchz : Nat → Int32} {wccz : Int32} {wplz : Nat → Int32} {wunz : Int32} {v2 : Int32} {v3 : Int32} {v4 : Int32} {v5 : Nat}  (hC : gC κ E cX5_write RX5 (some .int) rm_X5_write 7) (hv5 : v5 < 6)  (h : p_X5_write_J51 v2 v3 v4 v5 xk xo xc xt xn xl rc rv rb la wch wcc wpl wun = some (rr, rcz, rvz, rbz, laz, wchz, wccz, wplz, wunz)) : GG κ E (xws E xk xo xc xt xn xl rcz rvz rbz laz wchz wccz wplz wunz srow ssp sen str stp swd rwp rdr rpd rpv rpc rzp, some (.int rr)) (xws E xk xo xc xt xn xl rc rv rb la wch wcc wpl wun srow ssp sen str stp swd rwp rdr rpd rpv rpc rzp) 51 [some (.ref (ea E 35)), none, some (.int v2), some (.int v3), some (.int v4), some (.ref (ea E (4 * v5))), none] [] := by
  unfold p_X5_write_J51 at h
  refine g_aload_n (pc' := 52) (i := 0) hC dX5_write_51 rfl rfl rfl ?_
  refine gf_X5_31 (pc' := 55) hC dX5_write_52 rfl ?_
  refine g_aload (pc' := 57) (i := 5) hC dX5_write_55 rfl rfl ?_
  refine g_iload_n (pc' := 58) (i := 2) hC dX5_write_57 rfl rfl rfl ?_
  refine g_iload_n (pc' := 59) (i := 3) hC dX5_write_58 rfl rfl rfl ?_
  obtain ⟨rc_5, rv_6, rb_7, la_8, wch_9, wcc_10, wpl_11, wun_12, hc_13, h⟩ := bd8_some h
  refine g_callV (pc' := 62) hC (c_X2_writePages _ hv5 hc_13) ml_X5_109 (rc_Wr) (by decide) rfl rfl rfl rfl dX5_write_59 rfl ?_
  refine g_iload (pc' := 64) (i := 4) hC dX5_write_62 rfl rfl ?_
  refine g_if_eq (pc' := 67) (tgt := 77) hC dX5_write_64 (by decide) rfl h (fun h => ?_) (fun h => ?_)
  · refine g_iconst (pc' := 78) (v := (0 : Int32)) hC dX5_write_77 (by decide) rfl ?_
    refine g_weak (lo' := [some (.ref (ea E 35)), none, none, none, none, none, none]) rfl ?_
    exact w_X5_write_J78 hC   h
  · refine g_aload_n (pc' := 68) (i := 0) hC dX5_write_67 rfl rfl rfl ?_
    refine gf_X5_25 (pc' := 71) hC dX5_write_68 rfl ?_
    refine gf_X5_61 (pc' := 74) hC (by decide) dX5_write_71 rfl ?_
    refine g_goto (tgt := 78) hC dX5_write_74 (by decide) ?_
    refine g_weak (lo' := [some (.ref (ea E 35)), none, none, none, none, none, none]) rfl ?_
    exact w_X5_write_J78 hC   h
set_option maxRecDepth 200000 in
theorem c_X5_write (l : Launch) {E : GE} {rr : Int32} {rcz : Nat → Int32} {rvz : Nat → Int32} {rbz : Nat → Nat → Int32} {laz : Nat → Nat → Int64} {wchz : Nat → Int32} {wccz : Int32} {wplz : Nat → Int32} {wunz : Int32} {v1 : Int32} {v2 : Int32} {v3 : Int32} {v4 : Int32}  (h : p_X5_write v1 v2 v3 v4 xk xo xc xt xn xl rc rv rb la wch wcc wpl wun = some (rr, rcz, rvz, rbz, laz, wchz, wccz, wplz, wunz)) : Met l yX5_write (.code yX5_write cX5_write 7 (some .int) :: gU) rm_X5_write (gP E (xws E xk xo xc xt xn xl rc rv rb la wch wcc wpl wun srow ssp sen str stp swd rwp rdr rpd rpv rpc rzp) [.ref (ea E 35), .int v1, .int v2, .int v3, .int v4]) (gQ E (xws E xk xo xc xt xn xl rcz rvz rbz laz wchz wccz wplz wunz srow ssp sen str stp swd rwp rdr rpd rpv rpc rzp) (some (.int rr))) 0 0 E.2.2.1 := by
  refine met_of (y := yX5_write) (own := RX5) (lo := [some (.ref (ea E 35)), some (.int v1), some (.int v2), some (.int v3), some (.int v4), none, none]) (by decide) rfl rfl rfl (fun κ hl hC => ?_)
  subst hl
  unfold p_X5_write at h
  refine g_aload_n (pc' := 1) (i := 0) hC dX5_write_0 rfl rfl rfl ?_
  refine g_iload_n (pc' := 2) (i := 1) hC dX5_write_1 rfl rfl rfl ?_
  obtain ⟨a_1, hc_2, h⟩ := bd1_some h
  refine g_callV (pc' := 5) hC (c_X5_columnAt _ hc_2) ml_X5_42 (rc_CP) (by decide) rfl rfl rfl rfl dX5_write_2 rfl ?_
  rcases a_1 with _ | o_3
  · have h := mo_n h
    refine g_astoreN (pc' := 7) (i := 5) (lo' := [some (.ref (ea E 35)), some (.int v1), some (.int v2), some (.int v3), some (.int v4), some (.null), none]) hC dX5_write_5 rfl rfl rfl rfl ?_
    refine g_aloadN (pc' := 9) (i := 5) hC dX5_write_7 rfl rfl ?_
    refine g_ifnullN (tgt := 33) hC dX5_write_9 (by decide) ?_
    refine g_iconst (pc' := 34) (v := (-1 : Int32)) hC dX5_write_33 (by decide) rfl ?_
    obtain ⟨rfl, rfl, rfl, rfl, rfl, rfl, rfl, rfl, rfl⟩ := inj9 h; exact g_iret hC dX5_write_34
  · have h := mo_s h
    obtain ⟨g_4, h⟩ := gd_some h
    refine g_astore (pc' := 7) (i := 5) (lo' := [some (.ref (ea E 35)), some (.int v1), some (.int v2), some (.int v3), some (.int v4), some (.ref (ea E (4 * o_3))), none]) hC dX5_write_5 rfl rfl rfl rfl ?_
    refine g_aload (pc' := 9) (i := 5) hC dX5_write_7 rfl rfl ?_
    refine g_ifnull (pc' := 12) hC dX5_write_9 rfl ?_
    refine g_iload_n (pc' := 13) (i := 2) hC dX5_write_12 rfl rfl rfl ?_
    refine g_if_lt (pc' := 16) (tgt := 33) hC dX5_write_13 (by decide) rfl h (fun h => ?_) (fun h => ?_)
    · refine g_iconst (pc' := 34) (v := (-1 : Int32)) hC dX5_write_33 (by decide) rfl ?_
      obtain ⟨rfl, rfl, rfl, rfl, rfl, rfl, rfl, rfl, rfl⟩ := inj9 h; exact g_iret hC dX5_write_34
    · refine g_iload_n (pc' := 17) (i := 2) hC dX5_write_16 rfl rfl rfl ?_
      refine g_iconst (pc' := 18) (v := (2 : Int32)) hC dX5_write_17 (by decide) rfl ?_
      refine g_icmp_gt (pc' := 21) (tgt := 33) hC dX5_write_18 (by decide) rfl h (fun h => ?_) (fun h => ?_)
      · refine g_iconst (pc' := 34) (v := (-1 : Int32)) hC dX5_write_33 (by decide) rfl ?_
        obtain ⟨rfl, rfl, rfl, rfl, rfl, rfl, rfl, rfl, rfl⟩ := inj9 h; exact g_iret hC dX5_write_34
      · refine g_iload_n (pc' := 22) (i := 3) hC dX5_write_21 rfl rfl rfl ?_
        refine g_iconst (pc' := 23) (v := (1 : Int32)) hC dX5_write_22 (by decide) rfl ?_
        refine g_icmp_lt (pc' := 26) (tgt := 33) hC dX5_write_23 (by decide) rfl h (fun h => ?_) (fun h => ?_)
        · refine g_iconst (pc' := 34) (v := (-1 : Int32)) hC dX5_write_33 (by decide) rfl ?_
          obtain ⟨rfl, rfl, rfl, rfl, rfl, rfl, rfl, rfl, rfl⟩ := inj9 h; exact g_iret hC dX5_write_34
        · refine g_iload_n (pc' := 27) (i := 3) hC dX5_write_26 rfl rfl rfl ?_
          refine g_sipush (pc' := 30) (v := (200 : Int32)) hC dX5_write_27 (by decide) rfl ?_
          refine g_icmp_le (pc' := 33) (tgt := 35) hC dX5_write_30 (by decide) rfl h (fun h => ?_) (fun h => ?_)
          · refine g_iconst (pc' := 34) (v := (-1 : Int32)) hC dX5_write_33 (by decide) rfl ?_
            obtain ⟨rfl, rfl, rfl, rfl, rfl, rfl, rfl, rfl, rfl⟩ := inj9 h; exact g_iret hC dX5_write_34
          · refine g_iload_n (pc' := 36) (i := 2) hC dX5_write_35 rfl rfl rfl ?_
            refine g_iconst (pc' := 37) (v := (1 : Int32)) hC dX5_write_36 (by decide) rfl ?_
            refine g_icmp_ne (pc' := 40) (tgt := 51) hC dX5_write_37 (by decide) rfl h (fun h => ?_) (fun h => ?_)
            · refine g_aload (pc' := 42) (i := 5) hC dX5_write_40 rfl rfl ?_
              refine gf_X5_54 (pc' := 45) hC (of_decide_eq_true g_4) dX5_write_42 rfl ?_
              refine g_iconst (pc' := 46) (v := (3 : Int32)) hC dX5_write_45 (by decide) rfl ?_
              refine g_icmp_ne (pc' := 49) (tgt := 51) hC dX5_write_46 (by decide) rfl h (fun h => ?_) (fun h => ?_)
              · refine g_iconst (pc' := 50) (v := (-1 : Int32)) hC dX5_write_49 (by decide) rfl ?_
                obtain ⟨rfl, rfl, rfl, rfl, rfl, rfl, rfl, rfl, rfl⟩ := inj9 h; exact g_iret hC dX5_write_50
              · refine g_weak (lo' := [some (.ref (ea E 35)), none, some (.int v2), some (.int v3), some (.int v4), some (.ref (ea E (4 * o_3))), none]) rfl ?_
                exact w_X5_write_J51 hC (of_decide_eq_true g_4)  h
            · refine g_weak (lo' := [some (.ref (ea E 35)), none, some (.int v2), some (.int v3), some (.int v4), some (.ref (ea E (4 * o_3))), none]) rfl ?_
              exact w_X5_write_J51 hC (of_decide_eq_true g_4)  h
set_option maxRecDepth 200000 in
theorem c_X5_read (l : Launch) {E : GE} {rr : Int32} {xkz : Nat → Int32} {xoz : Nat → Int32} {xcz : Nat → Int32} {xtz : Nat → Nat → Int32} {xnz : Nat → Nat → Int64} {xlz : Nat → Nat → Int32} {laz : Nat → Nat → Int64} {srowz : Option Nat} {sspz : Int32} {senz : Int32} {strz : Int32} {stpz : Int32} {swdz : Nat → Int32} {rwpz : Int32} {rdrz : Int32} {rpdz : Int32} {rpvz : Int32} {rpcz : Int32} {rzpz : Int32} {v1 : Int32}  (h : p_X5_read v1 xk xo xc xt xn xl rc rb la srow ssp sen str stp swd rwp rdr rpd rpv rpc rzp = some (rr, xkz, xoz, xcz, xtz, xnz, xlz, laz, srowz, sspz, senz, strz, stpz, swdz, rwpz, rdrz, rpdz, rpvz, rpcz, rzpz)) : Met l yX5_read (.code yX5_read cX5_read 3 (some .int) :: gU) rm_X5_read (gP E (xws E xk xo xc xt xn xl rc rv rb la wch wcc wpl wun srow ssp sen str stp swd rwp rdr rpd rpv rpc rzp) [.ref (ea E 35), .int v1]) (gQ E (xws E xkz xoz xcz xtz xnz xlz rc rv rb laz wch wcc wpl wun srowz sspz senz strz stpz swdz rwpz rdrz rpdz rpvz rpcz rzpz) (some (.int rr))) 0 0 E.2.2.1 := by
  refine met_of (y := yX5_read) (own := RX5) (lo := [some (.ref (ea E 35)), some (.int v1), none]) (by decide) rfl rfl rfl (fun κ hl hC => ?_)
  subst hl
  unfold p_X5_read at h
  refine g_aload_n (pc' := 1) (i := 0) hC dX5_read_0 rfl rfl rfl ?_
  refine g_iload_n (pc' := 2) (i := 1) hC dX5_read_1 rfl rfl rfl ?_
  obtain ⟨a_1, hc_2, h⟩ := bd1_some h
  refine g_callV (pc' := 5) hC (c_X5_columnAt _ hc_2) ml_X5_42 (rc_CP) (by decide) rfl rfl rfl rfl dX5_read_2 rfl ?_
  rcases a_1 with _ | o_3
  · have h := mo_n h
    refine g_astore_nN (pc' := 6) (i := 2) (lo' := [some (.ref (ea E 35)), some (.int v1), some (.null)]) hC dX5_read_5 rfl rfl rfl rfl rfl ?_
    refine g_aload_nN (pc' := 7) (i := 2) hC dX5_read_6 rfl rfl rfl ?_
    refine g_ifnonnullN (pc' := 10) hC dX5_read_7 rfl ?_
    refine g_iconst (pc' := 11) (v := (-1 : Int32)) hC dX5_read_10 (by decide) rfl ?_
    obtain ⟨rfl, rfl, rfl, rfl, rfl, rfl, rfl, rfl, rfl, rfl, rfl, rfl, rfl, rfl, rfl, rfl, rfl, rfl, rfl, rfl⟩ := inj20 h; exact g_iret hC dX5_read_11
  · have h := mo_s h
    obtain ⟨g_4, h⟩ := gd_some h
    refine g_astore_n (pc' := 6) (i := 2) (lo' := [some (.ref (ea E 35)), some (.int v1), some (.ref (ea E (4 * o_3)))]) hC dX5_read_5 rfl rfl rfl rfl rfl ?_
    refine g_aload_n (pc' := 7) (i := 2) hC dX5_read_6 rfl rfl rfl ?_
    refine g_ifnonnull (tgt := 12) hC dX5_read_7 (by decide) ?_
    refine g_aload_n (pc' := 13) (i := 0) hC dX5_read_12 rfl rfl rfl ?_
    refine gf_X5_38 (pc' := 16) hC dX5_read_13 rfl ?_
    refine g_aload_n (pc' := 17) (i := 0) hC dX5_read_16 rfl rfl rfl ?_
    refine gf_X5_25 (pc' := 20) hC dX5_read_17 rfl ?_
    refine g_aload_n (pc' := 21) (i := 2) hC dX5_read_20 rfl rfl rfl ?_
    refine gf_X5_54 (pc' := 24) hC (of_decide_eq_true g_4) dX5_read_21 rfl ?_
    refine g_aload_n (pc' := 25) (i := 2) hC dX5_read_24 rfl rfl rfl ?_
    refine gf_X5_72 (pc' := 28) hC (of_decide_eq_true g_4) dX5_read_25 rfl ?_
    obtain ⟨xk_5, xo_6, xc_7, xt_8, xn_9, xl_10, la_11, srow_12, ssp_13, sen_14, str_15, stp_16, swd_17, rwp_18, rdr_19, rpd_20, rpv_21, rpc_22, rzp_23, hc_24, h⟩ := bd19_some h
    refine g_callV (pc' := 31) hC (c_X1_readPages _ (by decide) hc_24) ml_X5_126 (rc_Rd) (by decide) rfl rfl rfl rfl dX5_read_28 rfl ?_
    refine g_aload_n (pc' := 32) (i := 0) hC dX5_read_31 rfl rfl rfl ?_
    refine gf_X5_38 (pc' := 35) hC dX5_read_32 rfl ?_
    refine gf_X5_130 (pc' := 38) hC dX5_read_35 rfl ?_
    obtain ⟨a_25, hc_26, h⟩ := bd1_some h
    refine g_callV (pc' := 41) hC (c_X4_isSound _ hc_26) ml_X5_134 (rc_Src) (by decide) rfl rfl rfl rfl dX5_read_38 rfl ?_
    refine g_if_ne (pc' := 44) (tgt := 58) hC dX5_read_41 (by decide) rfl h (fun h => ?_) (fun h => ?_)
    · refine g_bipush (pc' := 46) (v := (-10 : Int32)) hC dX5_read_44 (by decide) rfl ?_
      refine g_aload_n (pc' := 47) (i := 0) hC dX5_read_46 rfl rfl rfl ?_
      refine gf_X5_38 (pc' := 50) hC dX5_read_47 rfl ?_
      refine gf_X5_130 (pc' := 53) hC dX5_read_50 rfl ?_
      refine gf_X5_140 (pc' := 56) hC dX5_read_53 rfl ?_
      refine g_isub (pc' := 57) hC dX5_read_56 rfl ?_
      obtain ⟨rfl, rfl, rfl, rfl, rfl, rfl, rfl, rfl, rfl, rfl, rfl, rfl, rfl, rfl, rfl, rfl, rfl, rfl, rfl, rfl⟩ := inj20 h; exact g_iret hC dX5_read_57
    · refine g_aload_n (pc' := 59) (i := 2) hC dX5_read_58 rfl rfl rfl ?_
      refine g_aload_n (pc' := 60) (i := 0) hC dX5_read_59 rfl rfl rfl ?_
      refine gf_X5_38 (pc' := 63) hC dX5_read_60 rfl ?_
      refine gf_X5_143 (pc' := 66) hC dX5_read_63 rfl ?_
      obtain ⟨xk_27, xo_28, xc_29, xt_30, xn_31, xl_32, hc_33, h⟩ := bd6_some h
      refine g_callV (pc' := 69) hC (c_X0_become _ (of_decide_eq_true g_4) (by decide) hc_33) ml_X5_147 (rc_Col (of_decide_eq_true g_4)) (by decide) rfl rfl rfl rfl dX5_read_66 rfl ?_
      refine g_aload_n (pc' := 70) (i := 2) hC dX5_read_69 rfl rfl rfl ?_
      refine gf_X5_46 (pc' := 73) hC (of_decide_eq_true g_4) dX5_read_70 rfl ?_
      obtain ⟨rfl, rfl, rfl, rfl, rfl, rfl, rfl, rfl, rfl, rfl, rfl, rfl, rfl, rfl, rfl, rfl, rfl, rfl, rfl, rfl⟩ := inj20 h; exact g_iret hC dX5_read_73
set_option maxRecDepth 200000 in
theorem c_X5_fault (l : Launch) {E : GE} {rr : Int32} {v1 : Int32}  (h : p_X5_fault v1 xc str stp rwp = some rr) : Met l yX5_fault (.code yX5_fault cX5_fault 2 (some .int) :: gU) rm_X5_fault (gP E (xws E xk xo xc xt xn xl rc rv rb la wch wcc wpl wun srow ssp sen str stp swd rwp rdr rpd rpv rpc rzp) [.ref (ea E 35), .int v1]) (gQ E (xws E xk xo xc xt xn xl rc rv rb la wch wcc wpl wun srow ssp sen str stp swd rwp rdr rpd rpv rpc rzp) (some (.int rr))) 0 0 E.2.2.1 := by
  refine met_of (y := yX5_fault) (own := RX5) (lo := [some (.ref (ea E 35)), some (.int v1)]) (by decide) rfl rfl rfl (fun κ hl hC => ?_)
  subst hl
  unfold p_X5_fault at h
  refine g_iload_n (pc' := 1) (i := 1) hC dX5_fault_0 rfl rfl rfl ?_
  refine g_case h (fun c_1 h => ?_) (fun c_1 h => ?_)
  · refine g_tswIn hC (tgt := 32) dX5_fault_1 (by rw [c_1]; decide) (by rw [c_1]; decide) (by rw [c_1]; rfl) (by decide) ?_
    refine g_aload_n (pc' := 33) (i := 0) hC dX5_fault_32 rfl rfl rfl ?_
    refine gf_X5_38 (pc' := 36) hC dX5_fault_33 rfl ?_
    refine gf_X5_130 (pc' := 39) hC dX5_fault_36 rfl ?_
    refine gf_X5_140 (pc' := 42) hC dX5_fault_39 rfl ?_
    obtain rfl := inj1 h; exact g_iret hC dX5_fault_42
  · skip
    refine g_case h (fun c_2 h => ?_) (fun c_2 h => ?_)
    · refine g_tswIn hC (tgt := 43) dX5_fault_1 (by rw [c_2]; decide) (by rw [c_2]; decide) (by rw [c_2]; rfl) (by decide) ?_
      refine g_aload_n (pc' := 44) (i := 0) hC dX5_fault_43 rfl rfl rfl ?_
      refine gf_X5_38 (pc' := 47) hC dX5_fault_44 rfl ?_
      refine gf_X5_130 (pc' := 50) hC dX5_fault_47 rfl ?_
      refine gf_X5_151 (pc' := 53) hC dX5_fault_50 rfl ?_
      obtain rfl := inj1 h; exact g_iret hC dX5_fault_53
    · skip
      refine g_case h (fun c_3 h => ?_) (fun c_3 h => ?_)
      · refine g_tswIn hC (tgt := 54) dX5_fault_1 (by rw [c_3]; decide) (by rw [c_3]; decide) (by rw [c_3]; rfl) (by decide) ?_
        refine g_aload_n (pc' := 55) (i := 0) hC dX5_fault_54 rfl rfl rfl ?_
        refine gf_X5_38 (pc' := 58) hC dX5_fault_55 rfl ?_
        refine gf_X5_154 (pc' := 61) hC dX5_fault_58 rfl ?_
        obtain rfl := inj1 h; exact g_iret hC dX5_fault_61
      · skip
        refine g_case h (fun c_4 h => ?_) (fun c_4 h => ?_)
        · refine g_tswIn hC (tgt := 62) dX5_fault_1 (by rw [c_4]; decide) (by rw [c_4]; decide) (by rw [c_4]; rfl) (by decide) ?_
          refine g_aload_n (pc' := 63) (i := 0) hC dX5_fault_62 rfl rfl rfl ?_
          refine gf_X5_38 (pc' := 66) hC dX5_fault_63 rfl ?_
          refine gf_X5_157 (pc' := 69) hC dX5_fault_66 rfl ?_
          refine gf_X5_46 (pc' := 72) hC (by decide) dX5_fault_69 rfl ?_
          obtain rfl := inj1 h; exact g_iret hC dX5_fault_72
        · skip
          refine g_tswOut hC (tgt := 73) dX5_fault_1 (tsw_out3 c_1 c_2 c_3 c_4) (by decide) ?_
          refine g_iconst (pc' := 74) (v := (-1 : Int32)) hC dX5_fault_73 (by decide) rfl ?_
          obtain rfl := inj1 h; exact g_iret hC dX5_fault_74
set_option maxRecDepth 200000 in
theorem c_X5_size (l : Launch) {E : GE} {rr : Int32}   (h : p_X5_size rc = some rr) : Met l yX5_size (.code yX5_size cX5_size 1 (some .int) :: gU) rm_X5_size (gP E (xws E xk xo xc xt xn xl rc rv rb la wch wcc wpl wun srow ssp sen str stp swd rwp rdr rpd rpv rpc rzp) [.ref (ea E 35)]) (gQ E (xws E xk xo xc xt xn xl rc rv rb la wch wcc wpl wun srow ssp sen str stp swd rwp rdr rpd rpv rpc rzp) (some (.int rr))) 0 0 E.2.2.1 := by
  refine met_of (y := yX5_size) (own := RX5) (lo := [some (.ref (ea E 35))]) (by decide) rfl rfl rfl (fun κ hl hC => ?_)
  subst hl
  unfold p_X5_size at h
  refine g_aload_n (pc' := 1) (i := 0) hC dX5_size_0 rfl rfl rfl ?_
  refine gf_X5_25 (pc' := 4) hC dX5_size_1 rfl ?_
  refine gf_X5_61 (pc' := 7) hC (by decide) dX5_size_4 rfl ?_
  obtain rfl := inj1 h; exact g_iret hC dX5_size_7
set_option maxRecDepth 200000 in
theorem c_X5_byteAt (l : Launch) {E : GE} {rr : Int32} {v1 : Int32}  (h : p_X5_byteAt v1 rc rb = some rr) : Met l yX5_byteAt (.code yX5_byteAt cX5_byteAt 2 (some .int) :: gU) rm_X5_byteAt (gP E (xws E xk xo xc xt xn xl rc rv rb la wch wcc wpl wun srow ssp sen str stp swd rwp rdr rpd rpv rpc rzp) [.ref (ea E 35), .int v1]) (gQ E (xws E xk xo xc xt xn xl rc rv rb la wch wcc wpl wun srow ssp sen str stp swd rwp rdr rpd rpv rpc rzp) (some (.int rr))) 0 0 E.2.2.1 := by
  refine met_of (y := yX5_byteAt) (own := RX5) (lo := [some (.ref (ea E 35)), some (.int v1)]) (by decide) rfl rfl rfl (fun κ hl hC => ?_)
  subst hl
  unfold p_X5_byteAt at h
  refine g_iload_n (pc' := 1) (i := 1) hC dX5_byteAt_0 rfl rfl rfl ?_
  refine g_if_lt (pc' := 4) (tgt := 15) hC dX5_byteAt_1 (by decide) rfl h (fun h => ?_) (fun h => ?_)
  · refine g_iconst (pc' := 16) (v := (-1 : Int32)) hC dX5_byteAt_15 (by decide) rfl ?_
    refine g_goto (tgt := 27) hC dX5_byteAt_16 (by decide) ?_
    obtain rfl := inj1 h; exact g_iret hC dX5_byteAt_27
  · refine g_iload_n (pc' := 5) (i := 1) hC dX5_byteAt_4 rfl rfl rfl ?_
    refine g_aload_n (pc' := 6) (i := 0) hC dX5_byteAt_5 rfl rfl rfl ?_
    refine gf_X5_25 (pc' := 9) hC dX5_byteAt_6 rfl ?_
    refine gf_X5_61 (pc' := 12) hC (by decide) dX5_byteAt_9 rfl ?_
    refine g_icmp_lt (pc' := 15) (tgt := 19) hC dX5_byteAt_12 (by decide) rfl h (fun h => ?_) (fun h => ?_)
    · refine g_aload_n (pc' := 20) (i := 0) hC dX5_byteAt_19 rfl rfl rfl ?_
      refine gf_X5_25 (pc' := 23) hC dX5_byteAt_20 rfl ?_
      refine g_iload_n (pc' := 24) (i := 1) hC dX5_byteAt_23 rfl rfl rfl ?_
      obtain ⟨a_1, hc_2, h⟩ := bd1_some h
      refine g_callV (pc' := 27) hC (c_X3_get _ (by decide) hc_2) ml_X5_160 (rc_Row (by decide)) (by decide) rfl rfl rfl rfl dX5_byteAt_24 rfl ?_
      obtain rfl := inj1 h; exact g_iret hC dX5_byteAt_27
    · refine g_iconst (pc' := 16) (v := (-1 : Int32)) hC dX5_byteAt_15 (by decide) rfl ?_
      refine g_goto (tgt := 27) hC dX5_byteAt_16 (by decide) ?_
      obtain rfl := inj1 h; exact g_iret hC dX5_byteAt_27
set_option maxRecDepth 200000 in
theorem c_X5_poke (l : Launch) {E : GE} {rr : Int32} {rbz : Nat → Nat → Int32} {v1 : Int32} {v2 : Int32}  (h : p_X5_poke v1 v2 rc rb = some (rr, rbz)) : Met l yX5_poke (.code yX5_poke cX5_poke 3 (some .int) :: gU) rm_X5_poke (gP E (xws E xk xo xc xt xn xl rc rv rb la wch wcc wpl wun srow ssp sen str stp swd rwp rdr rpd rpv rpc rzp) [.ref (ea E 35), .int v1, .int v2]) (gQ E (xws E xk xo xc xt xn xl rc rv rbz la wch wcc wpl wun srow ssp sen str stp swd rwp rdr rpd rpv rpc rzp) (some (.int rr))) 0 0 E.2.2.1 := by
  refine met_of (y := yX5_poke) (own := RX5) (lo := [some (.ref (ea E 35)), some (.int v1), some (.int v2)]) (by decide) rfl rfl rfl (fun κ hl hC => ?_)
  subst hl
  unfold p_X5_poke at h
  refine g_iload_n (pc' := 1) (i := 1) hC dX5_poke_0 rfl rfl rfl ?_
  refine g_if_lt (pc' := 4) (tgt := 15) hC dX5_poke_1 (by decide) rfl h (fun h => ?_) (fun h => ?_)
  · refine g_iconst (pc' := 16) (v := (-1 : Int32)) hC dX5_poke_15 (by decide) rfl ?_
    obtain ⟨rfl, rfl⟩ := inj2 h; exact g_iret hC dX5_poke_16
  · refine g_iload_n (pc' := 5) (i := 1) hC dX5_poke_4 rfl rfl rfl ?_
    refine g_aload_n (pc' := 6) (i := 0) hC dX5_poke_5 rfl rfl rfl ?_
    refine gf_X5_25 (pc' := 9) hC dX5_poke_6 rfl ?_
    refine gf_X5_61 (pc' := 12) hC (by decide) dX5_poke_9 rfl ?_
    refine g_icmp_lt (pc' := 15) (tgt := 17) hC dX5_poke_12 (by decide) rfl h (fun h => ?_) (fun h => ?_)
    · refine g_aload_n (pc' := 18) (i := 0) hC dX5_poke_17 rfl rfl rfl ?_
      refine gf_X5_25 (pc' := 21) hC dX5_poke_18 rfl ?_
      refine g_iload_n (pc' := 22) (i := 1) hC dX5_poke_21 rfl rfl rfl ?_
      refine g_aload_n (pc' := 23) (i := 0) hC dX5_poke_22 rfl rfl rfl ?_
      refine gf_X5_25 (pc' := 26) hC dX5_poke_23 rfl ?_
      refine g_iload_n (pc' := 27) (i := 1) hC dX5_poke_26 rfl rfl rfl ?_
      obtain ⟨a_1, hc_2, h⟩ := bd1_some h
      refine g_callV (pc' := 30) hC (c_X3_get _ (by decide) hc_2) ml_X5_160 (rc_Row (by decide)) (by decide) rfl rfl rfl rfl dX5_poke_27 rfl ?_
      refine g_iload_n (pc' := 31) (i := 2) hC dX5_poke_30 rfl rfl rfl ?_
      refine g_ixor (pc' := 32) hC dX5_poke_31 rfl ?_
      obtain ⟨rb_3, hc_4, h⟩ := bd1_some h
      refine g_callV (pc' := 35) hC (c_X3_set _ (by decide) hc_4) ml_X5_164 (rc_Row (by decide)) (by decide) rfl rfl rfl rfl dX5_poke_32 rfl ?_
      refine g_aload_n (pc' := 36) (i := 0) hC dX5_poke_35 rfl rfl rfl ?_
      refine gf_X5_25 (pc' := 39) hC dX5_poke_36 rfl ?_
      refine g_iload_n (pc' := 40) (i := 1) hC dX5_poke_39 rfl rfl rfl ?_
      obtain ⟨a_5, hc_6, h⟩ := bd1_some h
      refine g_callV (pc' := 43) hC (c_X3_get _ (by decide) hc_6) ml_X5_160 (rc_Row (by decide)) (by decide) rfl rfl rfl rfl dX5_poke_40 rfl ?_
      obtain ⟨rfl, rfl⟩ := inj2 h; exact g_iret hC dX5_poke_43
    · refine g_iconst (pc' := 16) (v := (-1 : Int32)) hC dX5_poke_15 (by decide) rfl ?_
      obtain ⟨rfl, rfl⟩ := inj2 h; exact g_iret hC dX5_poke_16
set_option maxRecDepth 200000 in
theorem c_X5_cut (l : Launch) {E : GE} {rr : Int32} {rcz : Nat → Int32} {v1 : Int32}  (h : p_X5_cut v1 rc = some (rr, rcz)) : Met l yX5_cut (.code yX5_cut cX5_cut 3 (some .int) :: gU) rm_X5_cut (gP E (xws E xk xo xc xt xn xl rc rv rb la wch wcc wpl wun srow ssp sen str stp swd rwp rdr rpd rpv rpc rzp) [.ref (ea E 35), .int v1]) (gQ E (xws E xk xo xc xt xn xl rcz rv rb la wch wcc wpl wun srow ssp sen str stp swd rwp rdr rpd rpv rpc rzp) (some (.int rr))) 0 0 E.2.2.1 := by
  refine met_of (y := yX5_cut) (own := RX5) (lo := [some (.ref (ea E 35)), some (.int v1), none]) (by decide) rfl rfl rfl (fun κ hl hC => ?_)
  subst hl
  unfold p_X5_cut at h
  refine g_iload_n (pc' := 1) (i := 1) hC dX5_cut_0 rfl rfl rfl ?_
  refine g_if_lt (pc' := 4) (tgt := 15) hC dX5_cut_1 (by decide) rfl h (fun h => ?_) (fun h => ?_)
  · refine g_iconst (pc' := 16) (v := (-1 : Int32)) hC dX5_cut_15 (by decide) rfl ?_
    obtain ⟨rfl, rfl⟩ := inj2 h; exact g_iret hC dX5_cut_16
  · refine g_iload_n (pc' := 5) (i := 1) hC dX5_cut_4 rfl rfl rfl ?_
    refine g_aload_n (pc' := 6) (i := 0) hC dX5_cut_5 rfl rfl rfl ?_
    refine gf_X5_25 (pc' := 9) hC dX5_cut_6 rfl ?_
    refine gf_X5_61 (pc' := 12) hC (by decide) dX5_cut_9 rfl ?_
    refine g_icmp_le (pc' := 15) (tgt := 17) hC dX5_cut_12 (by decide) rfl h (fun h => ?_) (fun h => ?_)
    · refine g_iconst (pc' := 16) (v := (-1 : Int32)) hC dX5_cut_15 (by decide) rfl ?_
      obtain ⟨rfl, rfl⟩ := inj2 h; exact g_iret hC dX5_cut_16
    · refine g_aload_n (pc' := 18) (i := 0) hC dX5_cut_17 rfl rfl rfl ?_
      refine gf_X5_25 (pc' := 21) hC dX5_cut_18 rfl ?_
      refine gf_X5_61 (pc' := 24) hC (by decide) dX5_cut_21 rfl ?_
      refine g_iload_n (pc' := 25) (i := 1) hC dX5_cut_24 rfl rfl rfl ?_
      refine g_isub (pc' := 26) hC dX5_cut_25 rfl ?_
      refine g_istore_n (pc' := 27) (i := 2) (lo' := [some (.ref (ea E 35)), some (.int v1), some (.int ((rc 1) - v1))]) hC dX5_cut_26 rfl rfl rfl rfl rfl ?_
      refine g_aload_n (pc' := 28) (i := 0) hC dX5_cut_27 rfl rfl rfl ?_
      refine gf_X5_25 (pc' := 31) hC dX5_cut_28 rfl ?_
      refine g_iload_n (pc' := 32) (i := 1) hC dX5_cut_31 rfl rfl rfl ?_
      obtain ⟨rc_1, hc_2, h⟩ := bd1_some h
      refine g_callV (pc' := 35) hC (c_X3_shorten _ (by decide) hc_2) ml_X5_119 (rc_Row (by decide)) (by decide) rfl rfl rfl rfl dX5_cut_32 rfl ?_
      refine g_iload_n (pc' := 36) (i := 2) hC dX5_cut_35 rfl rfl rfl ?_
      obtain ⟨rfl, rfl⟩ := inj2 h; exact g_iret hC dX5_cut_36
end WALK
