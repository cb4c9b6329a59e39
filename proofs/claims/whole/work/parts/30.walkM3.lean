section WALK
variable {mk : Nat → Int32} {mo : Nat → Int32} {mm : Nat → Int32} {mt : Nat → Int32} {mv : Nat → Int64} {mx : Nat → Int32} {mp : Nat → Int32} {mtd : Int32} {mf : Nat → Int32} {ms : Int32} {md : Nat → Int32} {mdd : Int32} {mn : Nat → Int64} {mst : Nat → Int64} {mpl : Nat → Int32} {mbb : Nat → Int32} {ma : Int32} {me : Int32} {mb : Int32} {mba : Int32} {mpg : Int32} {mdi : Int32} {mbl : Int32} {mby : Int32} {mw : Nat → Int32} {mz : Int32} {mso : Int32} {mbo : Int32} {mco : Int32} {mcd : Int32} {ml : Nat → Int32} {mr : Int32}
set_option maxRecDepth 200000 in
theorem w_X6_write_L75 {κ : GK} {E : GE} {rr : Int32} {mmz : Nat → Int32} {mtz : Nat → Int32} {mvz : Nat → Int64} {mxz : Nat → Int32} {mfz : Nat → Int32} {msz : Int32} {mdz : Nat → Int32} {mddz : Int32} {mnz : Nat → Int64} {mstz : Nat → Int64} {mplz : Nat → Int32} {mbbz : Nat → Int32} {v1 : Int32} {v2 : Int32} {v3 : Int32} {v4 : Int32} {k108 : (Nat → Int32) → Int32 → Option (Int32 × (Nat → Int32) × (Nat → Int32) × (Nat → Int64) × (Nat → Int32) × (Nat → Int32) × Int32 × (Nat → Int32) × Int32 × (Nat → Int64) × (Nat → Int64) × (Nat → Int32) × (Nat → Int32))} (hC : gC κ E cX6_write RX6 (some .int) rm_X6_write 7)  (hk108 : ∀ (md : Nat → Int32) (mdd : Int32), k108 md mdd = some (rr, mmz, mtz, mvz, mxz, mfz, msz, mdz, mddz, mnz, mstz, mplz, mbbz) → GG κ E (mws E mk mo mmz mtz mvz mxz mp mtd mfz msz mdz mddz mnz mstz mplz mbbz ma me mb mba mpg mdi mbl mby mw mz mso mbo mco mcd ml mr, some (.int rr)) (mws E mk mo mm mt mv mx mp mtd mf ms md mdd mn mst mpl mbb ma me mb mba mpg mdi mbl mby mw mz mso mbo mco mcd ml mr) 108 [some (.ref (ea E 0)), some (.int v1), some (.int v2), some (.int v3), some (.int v4), none, none] []) : ∀ (n : Nat) (v5 : Int32) (md : Nat → Int32) (mdd : Int32), itr3 (p_X6_write_L75 v1 mk mm mv mx k108) n v5 md mdd = some (rr, mmz, mtz, mvz, mxz, mfz, msz, mdz, mddz, mnz, mstz, mplz, mbbz) → GG κ E (mws E mk mo mmz mtz mvz mxz mp mtd mfz msz mdz mddz mnz mstz mplz mbbz ma me mb mba mpg mdi mbl mby mw mz mso mbo mco mcd ml mr, some (.int rr)) (mws E mk mo mm mt mv mx mp mtd mf ms md mdd mn mst mpl mbb ma me mb mba mpg mdi mbl mby mw mz mso mbo mco mcd ml mr) 75 [some (.ref (ea E 0)), some (.int v1), some (.int v2), some (.int v3), some (.int v4), some (.int v5), none] [] :=
  itr3_ind (fun k75 hk75 v5 md mdd h => by
    unfold p_X6_write_L75 at h
    refine g_iload (pc' := 77) (i := 5) hC dX6_write_75 rfl rfl ?_
    refine g_aload_n (pc' := 78) (i := 0) hC dX6_write_77 rfl rfl rfl ?_
    refine gf_X6_17 (pc' := 81) hC dX6_write_78 rfl ?_
    refine g_iconst (pc' := 82) (v := (nI 5)) hC dX6_write_81 (by decide) rfl ?_
    obtain ⟨g_15, h⟩ := gd_some h
    refine ld_mm (pc' := 83) hC g_15 dX6_write_82 rfl ?_
    refine g_icmp_ge (pc' := 86) (tgt := 108) hC dX6_write_83 (by decide) rfl h (fun h => ?_) (fun h => ?_)
    · refine g_aload_n (pc' := 87) (i := 0) hC dX6_write_86 rfl rfl rfl ?_
      refine g_sipush (pc' := 90) (v := (nI 1000)) hC dX6_write_87 (by decide) rfl ?_
      refine g_iload (pc' := 92) (i := 5) hC dX6_write_90 rfl rfl ?_
      refine g_iadd (pc' := 93) hC dX6_write_92 rfl ?_
      refine g_aload_n (pc' := 94) (i := 0) hC dX6_write_93 rfl rfl rfl ?_
      refine gf_X6_7 (pc' := 97) hC dX6_write_94 rfl ?_
      refine g_iload_n (pc' := 98) (i := 1) hC dX6_write_97 rfl rfl rfl ?_
      obtain ⟨g_16, h⟩ := gd_some h
      refine ld_mk (pc' := 99) hC g_16 dX6_write_98 rfl ?_
      obtain ⟨md_17, mdd_18, hc_19, h⟩ := bd2_some h
      refine g_callV (pc' := 102) hC (c_X6_plain _ hc_19) ml_X6_154 (rc_M) (by decide) rfl rfl rfl rfl dX6_write_99 rfl ?_
      refine g_iinc (pc' := 105) (i := 5) (x := v5) (k := (nI 1)) (lo' := [some (.ref (ea E 0)), some (.int v1), some (.int v2), some (.int v3), some (.int v4), some (.int (v5 + (nI 1))), none]) hC dX6_write_102 rfl (by decide) rfl rfl rfl rfl ?_
      refine g_goto (tgt := 75) hC dX6_write_105 (by decide) ?_
      exact hk75 _ _ _ h
    · refine g_weak (lo' := [some (.ref (ea E 0)), some (.int v1), some (.int v2), some (.int v3), some (.int v4), none, none]) rfl ?_
      exact hk108 _ _ h)
set_option maxRecDepth 200000 in
theorem w_X6_write_L124 {κ : GK} {E : GE} {rr : Int32} {mmz : Nat → Int32} {mtz : Nat → Int32} {mvz : Nat → Int64} {mxz : Nat → Int32} {mfz : Nat → Int32} {msz : Int32} {mdz : Nat → Int32} {mddz : Int32} {mnz : Nat → Int64} {mstz : Nat → Int64} {mplz : Nat → Int32} {mbbz : Nat → Int32} {v1 : Int32} {v2 : Int32} {v3 : Int32} {v4 : Int32} {k178 : (Nat → Int32) → Int32 → (Nat → Int64) → (Nat → Int64) → (Nat → Int32) → Option (Int32 × (Nat → Int32) × (Nat → Int32) × (Nat → Int64) × (Nat → Int32) × (Nat → Int32) × Int32 × (Nat → Int32) × Int32 × (Nat → Int64) × (Nat → Int64) × (Nat → Int32) × (Nat → Int32))} (hC : gC κ E cX6_write RX6 (some .int) rm_X6_write 7)  (hk178 : ∀ (md : Nat → Int32) (mdd : Int32) (mn : Nat → Int64) (mst : Nat → Int64) (mbb : Nat → Int32), k178 md mdd mn mst mbb = some (rr, mmz, mtz, mvz, mxz, mfz, msz, mdz, mddz, mnz, mstz, mplz, mbbz) → GG κ E (mws E mk mo mmz mtz mvz mxz mp mtd mfz msz mdz mddz mnz mstz mplz mbbz ma me mb mba mpg mdi mbl mby mw mz mso mbo mco mcd ml mr, some (.int rr)) (mws E mk mo mm mt mv mx mp mtd mf ms md mdd mn mst mpl mbb ma me mb mba mpg mdi mbl mby mw mz mso mbo mco mcd ml mr) 178 [some (.ref (ea E 0)), none, none, none, some (.int v4), none, none] []) : ∀ (n : Nat) (v5 : Int32) (md : Nat → Int32) (mdd : Int32) (mn : Nat → Int64) (mst : Nat → Int64) (mbb : Nat → Int32), itr6 (p_X6_write_L124 v1 v2 v3 mk mo mm mt mv mx mpl k178) n v5 md mdd mn mst mbb = some (rr, mmz, mtz, mvz, mxz, mfz, msz, mdz, mddz, mnz, mstz, mplz, mbbz) → GG κ E (mws E mk mo mmz mtz mvz mxz mp mtd mfz msz mdz mddz mnz mstz mplz mbbz ma me mb mba mpg mdi mbl mby mw mz mso mbo mco mcd ml mr, some (.int rr)) (mws E mk mo mm mt mv mx mp mtd mf ms md mdd mn mst mpl mbb ma me mb mba mpg mdi mbl mby mw mz mso mbo mco mcd ml mr) 124 [some (.ref (ea E 0)), some (.int v1), some (.int v2), some (.int v3), some (.int v4), some (.int v5), none] [] :=
  itr6_ind (fun k124 hk124 v5 md mdd mn mst mbb h => by
    unfold p_X6_write_L124 at h
    refine g_iload (pc' := 126) (i := 5) hC dX6_write_124 rfl rfl ?_
    refine g_aload_n (pc' := 127) (i := 0) hC dX6_write_126 rfl rfl rfl ?_
    refine gf_X6_17 (pc' := 130) hC dX6_write_127 rfl ?_
    refine g_iload_n (pc' := 131) (i := 1) hC dX6_write_130 rfl rfl rfl ?_
    obtain ⟨g_27, h⟩ := gd_some h
    refine ld_mm (pc' := 132) hC g_27 dX6_write_131 rfl ?_
    refine g_icmp_ge (pc' := 135) (tgt := 178) hC dX6_write_132 (by decide) rfl h (fun h => ?_) (fun h => ?_)
    · refine g_aload_n (pc' := 136) (i := 0) hC dX6_write_135 rfl rfl rfl ?_
      refine g_iload_n (pc' := 137) (i := 1) hC dX6_write_136 rfl rfl rfl ?_
      refine g_iload_n (pc' := 138) (i := 2) hC dX6_write_137 rfl rfl rfl ?_
      refine g_iload (pc' := 140) (i := 5) hC dX6_write_138 rfl rfl ?_
      refine g_iload (pc' := 142) (i := 5) hC dX6_write_140 rfl rfl ?_
      refine g_iload_n (pc' := 143) (i := 3) hC dX6_write_142 rfl rfl rfl ?_
      refine g_iadd (pc' := 144) hC dX6_write_143 rfl ?_
      refine g_aload_n (pc' := 145) (i := 0) hC dX6_write_144 rfl rfl rfl ?_
      refine gf_X6_17 (pc' := 148) hC dX6_write_145 rfl ?_
      refine g_iload_n (pc' := 149) (i := 1) hC dX6_write_148 rfl rfl rfl ?_
      obtain ⟨g_28, h⟩ := gd_some h
      refine ld_mm (pc' := 150) hC g_28 dX6_write_149 rfl ?_
      refine g_icmp_ge (pc' := 153) (tgt := 160) hC dX6_write_150 (by decide) rfl h (fun h => ?_) (fun h => ?_)
      · refine g_iload (pc' := 155) (i := 5) hC dX6_write_153 rfl rfl ?_
        refine g_iload_n (pc' := 156) (i := 3) hC dX6_write_155 rfl rfl rfl ?_
        refine g_iadd (pc' := 157) hC dX6_write_156 rfl ?_
        refine g_goto (tgt := 166) hC dX6_write_157 (by decide) ?_
        obtain ⟨md_29, mdd_30, mn_31, mst_32, mbb_33, hc_34, h⟩ := bd5_some h
        refine g_callV (pc' := 169) hC (c_X6_page _ hc_34) ml_X6_163 (rc_M) (by decide) rfl rfl rfl rfl dX6_write_166 rfl ?_
        refine g_iload (pc' := 171) (i := 5) hC dX6_write_169 rfl rfl ?_
        refine g_iload_n (pc' := 172) (i := 3) hC dX6_write_171 rfl rfl rfl ?_
        refine g_iadd (pc' := 173) hC dX6_write_172 rfl ?_
        refine g_istore (pc' := 175) (i := 5) (lo' := [some (.ref (ea E 0)), some (.int v1), some (.int v2), some (.int v3), some (.int v4), some (.int (v5 + v3)), none]) hC dX6_write_173 rfl rfl rfl rfl ?_
        refine g_goto (tgt := 124) hC dX6_write_175 (by decide) ?_
        exact hk124 _ _ _ _ _ _ h
      · refine g_aload_n (pc' := 161) (i := 0) hC dX6_write_160 rfl rfl rfl ?_
        refine gf_X6_17 (pc' := 164) hC dX6_write_161 rfl ?_
        refine g_iload_n (pc' := 165) (i := 1) hC dX6_write_164 rfl rfl rfl ?_
        obtain ⟨g_35, h⟩ := gd_some h
        refine ld_mm (pc' := 166) hC g_35 dX6_write_165 rfl ?_
        obtain ⟨md_36, mdd_37, mn_38, mst_39, mbb_40, hc_41, h⟩ := bd5_some h
        refine g_callV (pc' := 169) hC (c_X6_page _ hc_41) ml_X6_163 (rc_M) (by decide) rfl rfl rfl rfl dX6_write_166 rfl ?_
        refine g_iload (pc' := 171) (i := 5) hC dX6_write_169 rfl rfl ?_
        refine g_iload_n (pc' := 172) (i := 3) hC dX6_write_171 rfl rfl rfl ?_
        refine g_iadd (pc' := 173) hC dX6_write_172 rfl ?_
        refine g_istore (pc' := 175) (i := 5) (lo' := [some (.ref (ea E 0)), some (.int v1), some (.int v2), some (.int v3), some (.int v4), some (.int (v5 + v3)), none]) hC dX6_write_173 rfl rfl rfl rfl ?_
        refine g_goto (tgt := 124) hC dX6_write_175 (by decide) ?_
        exact hk124 _ _ _ _ _ _ h
    · refine g_weak (lo' := [some (.ref (ea E 0)), none, none, none, some (.int v4), none, none]) rfl ?_
      exact hk178 _ _ _ _ _ h)
set_option maxRecDepth 200000 in
theorem w_X6_write_L212 {κ : GK} {E : GE} {rr : Int32} {mmz : Nat → Int32} {mtz : Nat → Int32} {mvz : Nat → Int64} {mxz : Nat → Int32} {mfz : Nat → Int32} {msz : Int32} {mdz : Nat → Int32} {mddz : Int32} {mnz : Nat → Int64} {mstz : Nat → Int64} {mplz : Nat → Int32} {mbbz : Nat → Int32} {v5 : Int32} {k244 : (Nat → Int32) → Option (Int32 × (Nat → Int32) × (Nat → Int32) × (Nat → Int64) × (Nat → Int32) × (Nat → Int32) × Int32 × (Nat → Int32) × Int32 × (Nat → Int64) × (Nat → Int64) × (Nat → Int32) × (Nat → Int32))} (hC : gC κ E cX6_write RX6 (some .int) rm_X6_write 7)  (hk244 : ∀ (mf : Nat → Int32), k244 mf = some (rr, mmz, mtz, mvz, mxz, mfz, msz, mdz, mddz, mnz, mstz, mplz, mbbz) → GG κ E (mws E mk mo mmz mtz mvz mxz mp mtd mfz msz mdz mddz mnz mstz mplz mbbz ma me mb mba mpg mdi mbl mby mw mz mso mbo mco mcd ml mr, some (.int rr)) (mws E mk mo mm mt mv mx mp mtd mf ms md mdd mn mst mpl mbb ma me mb mba mpg mdi mbl mby mw mz mso mbo mco mcd ml mr) 244 [some (.ref (ea E 0)), none, none, none, none, some (.int v5), none] []) : ∀ (n : Nat) (v6 : Int32) (mf : Nat → Int32), itr2 (p_X6_write_L212 v5 md mdd k244) n v6 mf = some (rr, mmz, mtz, mvz, mxz, mfz, msz, mdz, mddz, mnz, mstz, mplz, mbbz) → GG κ E (mws E mk mo mmz mtz mvz mxz mp mtd mfz msz mdz mddz mnz mstz mplz mbbz ma me mb mba mpg mdi mbl mby mw mz mso mbo mco mcd ml mr, some (.int rr)) (mws E mk mo mm mt mv mx mp mtd mf ms md mdd mn mst mpl mbb ma me mb mba mpg mdi mbl mby mw mz mso mbo mco mcd ml mr) 212 [some (.ref (ea E 0)), none, none, none, none, some (.int v5), some (.int v6)] [] :=
  itr2_ind (fun k212 hk212 v6 mf h => by
    unfold p_X6_write_L212 at h
    refine g_iload (pc' := 214) (i := 6) hC dX6_write_212 rfl rfl ?_
    refine g_aload_n (pc' := 215) (i := 0) hC dX6_write_214 rfl rfl rfl ?_
    refine gf_X6_95 (pc' := 218) hC dX6_write_215 rfl ?_
    refine g_icmp_ge (pc' := 221) (tgt := 244) hC dX6_write_218 (by decide) rfl h (fun h => ?_) (fun h => ?_)
    · refine g_aload_n (pc' := 222) (i := 0) hC dX6_write_221 rfl rfl rfl ?_
      refine gf_X6_35 (pc' := 225) hC dX6_write_222 rfl ?_
      refine g_iload (pc' := 227) (i := 5) hC dX6_write_225 rfl rfl ?_
      refine g_iload (pc' := 229) (i := 6) hC dX6_write_227 rfl rfl ?_
      refine g_iadd (pc' := 230) hC dX6_write_229 rfl ?_
      refine g_aload_n (pc' := 231) (i := 0) hC dX6_write_230 rfl rfl rfl ?_
      refine gf_X6_39 (pc' := 234) hC dX6_write_231 rfl ?_
      refine g_iload (pc' := 236) (i := 6) hC dX6_write_234 rfl rfl ?_
      obtain ⟨g_47, h⟩ := gd_some h
      refine ld_md (pc' := 237) hC g_47 dX6_write_236 rfl ?_
      obtain ⟨g_48, h⟩ := gd_some h
      refine st_mf (pc' := 238) hC g_48 dX6_write_237 rfl ?_
      refine g_iinc (pc' := 241) (i := 6) (x := v6) (k := (nI 1)) (lo' := [some (.ref (ea E 0)), none, none, none, none, some (.int v5), some (.int (v6 + (nI 1)))]) hC dX6_write_238 rfl (by decide) rfl rfl rfl rfl ?_
      refine g_goto (tgt := 212) hC dX6_write_241 (by decide) ?_
      exact hk212 _ _ h
    · refine g_weak (lo' := [some (.ref (ea E 0)), none, none, none, none, some (.int v5), none]) rfl ?_
      exact hk244 _ h)
set_option maxRecDepth 200000 in
theorem w_X6_write_J191 {κ : GK} {E : GE} {rr : Int32} {mmz : Nat → Int32} {mtz : Nat → Int32} {mvz : Nat → Int64} {mxz : Nat → Int32} {mfz : Nat → Int32} {msz : Int32} {mdz : Nat → Int32} {mddz : Int32} {mnz : Nat → Int64} {mstz : Nat → Int64} {mplz : Nat → Int32} {mbbz : Nat → Int32} {s0 : Int32}  (hC : gC κ E cX6_write RX6 (some .int) rm_X6_write 7)   (h : p_X6_write_J191 s0 mm mt mv mx mf ms md mdd mn mst mpl mbb = some (rr, mmz, mtz, mvz, mxz, mfz, msz, mdz, mddz, mnz, mstz, mplz, mbbz)) : GG κ E (mws E mk mo mmz mtz mvz mxz mp mtd mfz msz mdz mddz mnz mstz mplz mbbz ma me mb mba mpg mdi mbl mby mw mz mso mbo mco mcd ml mr, some (.int rr)) (mws E mk mo mm mt mv mx mp mtd mf ms md mdd mn mst mpl mbb ma me mb mba mpg mdi mbl mby mw mz mso mbo mco mcd ml mr) 191 [some (.ref (ea E 0)), none, none, none, none, none, none] [.int s0] := by
  unfold p_X6_write_J191 at h
  refine g_istore (pc' := 193) (i := 5) (lo' := [some (.ref (ea E 0)), none, none, none, none, some (.int s0), none]) hC dX6_write_191 rfl rfl rfl rfl ?_
  refine g_iload (pc' := 195) (i := 5) hC dX6_write_193 rfl rfl ?_
  refine g_aload_n (pc' := 196) (i := 0) hC dX6_write_195 rfl rfl rfl ?_
  refine gf_X6_95 (pc' := 199) hC dX6_write_196 rfl ?_
  refine g_iadd (pc' := 200) hC dX6_write_199 rfl ?_
  refine g_sipush (pc' := 203) (v := (nI 12000)) hC dX6_write_200 (by decide) rfl ?_
  refine g_icmp_le (pc' := 206) (tgt := 209) hC dX6_write_203 (by decide) rfl h (fun h => ?_) (fun h => ?_)
  · refine g_bipush (pc' := 208) (v := (-3 : Int32)) hC dX6_write_206 (by decide) rfl ?_
    obtain ⟨rfl, rfl, rfl, rfl, rfl, rfl, rfl, rfl, rfl, rfl, rfl, rfl, rfl⟩ := inj13 h; exact g_iret hC dX6_write_208
  · refine g_iconst (pc' := 210) (v := (nI 0)) hC dX6_write_209 (by decide) rfl ?_
    refine g_istore (pc' := 212) (i := 6) (lo' := [some (.ref (ea E 0)), none, none, none, none, some (.int s0), some (.int (nI 0))]) hC dX6_write_210 rfl rfl rfl rfl ?_
    refine w_X6_write_L212 hC  ?_ _ _ _ h
    · intro mf_49 h
      refine g_aload_n (pc' := 245) (i := 0) hC dX6_write_244 rfl rfl rfl ?_
      refine g_iload (pc' := 247) (i := 5) hC dX6_write_245 rfl rfl ?_
      refine g_aload_n (pc' := 248) (i := 0) hC dX6_write_247 rfl rfl rfl ?_
      refine gf_X6_95 (pc' := 251) hC dX6_write_248 rfl ?_
      refine g_iadd (pc' := 252) hC dX6_write_251 rfl ?_
      refine pf_X6_166 (pc' := 255) hC dX6_write_252 rfl ?_
      refine g_aload_n (pc' := 256) (i := 0) hC dX6_write_255 rfl rfl rfl ?_
      refine gf_X6_166 (pc' := 259) hC dX6_write_256 rfl ?_
      obtain ⟨rfl, rfl, rfl, rfl, rfl, rfl, rfl, rfl, rfl, rfl, rfl, rfl, rfl⟩ := inj13 h; exact g_iret hC dX6_write_259
set_option maxRecDepth 200000 in
theorem w_X6_write_J34 {κ : GK} {E : GE} {rr : Int32} {mmz : Nat → Int32} {mtz : Nat → Int32} {mvz : Nat → Int64} {mxz : Nat → Int32} {mfz : Nat → Int32} {msz : Int32} {mdz : Nat → Int32} {mddz : Int32} {mnz : Nat → Int64} {mstz : Nat → Int64} {mplz : Nat → Int32} {mbbz : Nat → Int32} {v1 : Int32} {v2 : Int32} {v3 : Int32} {v4 : Int32}  (hC : gC κ E cX6_write RX6 (some .int) rm_X6_write 7)   (h : p_X6_write_J34 v1 v2 v3 v4 mk mo mm mt mv mx mf ms md mdd mn mst mpl mbb = some (rr, mmz, mtz, mvz, mxz, mfz, msz, mdz, mddz, mnz, mstz, mplz, mbbz)) : GG κ E (mws E mk mo mmz mtz mvz mxz mp mtd mfz msz mdz mddz mnz mstz mplz mbbz ma me mb mba mpg mdi mbl mby mw mz mso mbo mco mcd ml mr, some (.int rr)) (mws E mk mo mm mt mv mx mp mtd mf ms md mdd mn mst mpl mbb ma me mb mba mpg mdi mbl mby mw mz mso mbo mco mcd ml mr) 34 [some (.ref (ea E 0)), some (.int v1), some (.int v2), some (.int v3), some (.int v4), none, none] [] := by
  unfold p_X6_write_J34 at h
  refine g_iload_n (pc' := 35) (i := 3) hC dX6_write_34 rfl rfl rfl ?_
  refine g_i2l (pc' := 36) hC dX6_write_35 rfl ?_
  refine g_lconst (pc' := 37) (v := (lN 1)) hC dX6_write_36 (by decide) rfl ?_
  refine g_ldc2_w (pc' := 40) (v := (lN 200)) hC u_15 dX6_write_37 rfl ?_
  obtain ⟨a_6, hc_7, h⟩ := bd1_some h
  refine g_callS (pc' := 43) hC (c_X6_in _ hc_7) ml_X6_62  (by decide) rfl rfl rfl dX6_write_40 rfl ?_
  refine g_if_ne (pc' := 46) (tgt := 48) hC dX6_write_43 (by decide) rfl h (fun h => ?_) (fun h => ?_)
  · refine g_iconst (pc' := 47) (v := (-1 : Int32)) hC dX6_write_46 (by decide) rfl ?_
    obtain ⟨rfl, rfl, rfl, rfl, rfl, rfl, rfl, rfl, rfl, rfl, rfl, rfl, rfl⟩ := inj13 h; exact g_iret hC dX6_write_47
  · refine g_aload_n (pc' := 49) (i := 0) hC dX6_write_48 rfl rfl rfl ?_
    refine g_iconst (pc' := 50) (v := (nI 0)) hC dX6_write_49 (by decide) rfl ?_
    refine pf_X6_95 (pc' := 53) hC dX6_write_50 rfl ?_
    refine g_iload_n (pc' := 54) (i := 2) hC dX6_write_53 rfl rfl rfl ?_
    refine g_iconst (pc' := 55) (v := (nI 1)) hC dX6_write_54 (by decide) rfl ?_
    refine g_icmp_ne (pc' := 58) (tgt := 121) hC dX6_write_55 (by decide) rfl h (fun h => ?_) (fun h => ?_)
    · refine g_aload_n (pc' := 59) (i := 0) hC dX6_write_58 rfl rfl rfl ?_
      refine gf_X6_17 (pc' := 62) hC dX6_write_59 rfl ?_
      refine g_iload_n (pc' := 63) (i := 1) hC dX6_write_62 rfl rfl rfl ?_
      obtain ⟨g_8, h⟩ := gd_some h
      refine ld_mm (pc' := 64) hC g_8 dX6_write_63 rfl ?_
      refine g_if_le (pc' := 67) (tgt := 121) hC dX6_write_64 (by decide) rfl h (fun h => ?_) (fun h => ?_)
      · refine g_aload_n (pc' := 68) (i := 0) hC dX6_write_67 rfl rfl rfl ?_
        refine g_iload_n (pc' := 69) (i := 1) hC dX6_write_68 rfl rfl rfl ?_
        obtain ⟨mm_9, mt_10, mv_11, mx_12, mpl_13, hc_14, h⟩ := bd5_some h
        refine g_callV (pc' := 72) hC (c_X6_makeDictionary _ hc_14) ml_X6_160 (rc_M) (by decide) rfl rfl rfl rfl dX6_write_69 rfl ?_
        refine g_iconst (pc' := 73) (v := (nI 0)) hC dX6_write_72 (by decide) rfl ?_
        refine g_istore (pc' := 75) (i := 5) (lo' := [some (.ref (ea E 0)), some (.int v1), some (.int v2), some (.int v3), some (.int v4), some (.int (nI 0)), none]) hC dX6_write_73 rfl rfl rfl rfl ?_
        refine w_X6_write_L75 hC  ?_ _ _ _ _ h
        · intro md_20 mdd_21 h
          refine g_aload_n (pc' := 109) (i := 0) hC dX6_write_108 rfl rfl rfl ?_
          refine g_iconst (pc' := 110) (v := (nI 0)) hC dX6_write_109 (by decide) rfl ?_
          refine g_iconst (pc' := 111) (v := (nI 2)) hC dX6_write_110 (by decide) rfl ?_
          refine g_aload_n (pc' := 112) (i := 0) hC dX6_write_111 rfl rfl rfl ?_
          refine gf_X6_17 (pc' := 115) hC dX6_write_112 rfl ?_
          refine g_iconst (pc' := 116) (v := (nI 5)) hC dX6_write_115 (by decide) rfl ?_
          obtain ⟨g_22, h⟩ := gd_some h
          refine ld_mm (pc' := 117) hC g_22 dX6_write_116 rfl ?_
          refine g_iconst (pc' := 118) (v := (nI 0)) hC dX6_write_117 (by decide) rfl ?_
          obtain ⟨md_23, mdd_24, mbb_25, hc_26, h⟩ := bd3_some h
          refine g_callV (pc' := 121) hC (c_X6_headed _ hc_26) ml_X6_157 (rc_M) (by decide) rfl rfl rfl rfl dX6_write_118 rfl ?_
          refine g_iconst (pc' := 122) (v := (nI 0)) hC dX6_write_121 (by decide) rfl ?_
          refine g_istore (pc' := 124) (i := 5) (lo' := [some (.ref (ea E 0)), some (.int v1), some (.int v2), some (.int v3), some (.int v4), some (.int (nI 0)), none]) hC dX6_write_122 rfl rfl rfl rfl ?_
          refine w_X6_write_L124 hC  ?_ _ _ _ _ _ _ _ h
          · intro md_42 mdd_43 mn_44 mst_45 mbb_46 h
            refine g_iload (pc' := 180) (i := 4) hC dX6_write_178 rfl rfl ?_
            refine g_if_eq (pc' := 183) (tgt := 190) hC dX6_write_180 (by decide) rfl h (fun h => ?_) (fun h => ?_)
            · refine g_iconst (pc' := 191) (v := (nI 0)) hC dX6_write_190 (by decide) rfl ?_
              refine g_weak (lo' := [some (.ref (ea E 0)), none, none, none, none, none, none]) rfl ?_
              exact w_X6_write_J191 hC   h
            · refine g_aload_n (pc' := 184) (i := 0) hC dX6_write_183 rfl rfl rfl ?_
              refine gf_X6_166 (pc' := 187) hC dX6_write_184 rfl ?_
              refine g_goto (tgt := 191) hC dX6_write_187 (by decide) ?_
              refine g_weak (lo' := [some (.ref (ea E 0)), none, none, none, none, none, none]) rfl ?_
              exact w_X6_write_J191 hC   h
      · refine g_iconst (pc' := 122) (v := (nI 0)) hC dX6_write_121 (by decide) rfl ?_
        refine g_istore (pc' := 124) (i := 5) (lo' := [some (.ref (ea E 0)), some (.int v1), some (.int v2), some (.int v3), some (.int v4), some (.int (nI 0)), none]) hC dX6_write_122 rfl rfl rfl rfl ?_
        refine w_X6_write_L124 hC  ?_ _ _ _ _ _ _ _ h
        · intro md_50 mdd_51 mn_52 mst_53 mbb_54 h
          refine g_iload (pc' := 180) (i := 4) hC dX6_write_178 rfl rfl ?_
          refine g_if_eq (pc' := 183) (tgt := 190) hC dX6_write_180 (by decide) rfl h (fun h => ?_) (fun h => ?_)
          · refine g_iconst (pc' := 191) (v := (nI 0)) hC dX6_write_190 (by decide) rfl ?_
            refine g_weak (lo' := [some (.ref (ea E 0)), none, none, none, none, none, none]) rfl ?_
            exact w_X6_write_J191 hC   h
          · refine g_aload_n (pc' := 184) (i := 0) hC dX6_write_183 rfl rfl rfl ?_
            refine gf_X6_166 (pc' := 187) hC dX6_write_184 rfl ?_
            refine g_goto (tgt := 191) hC dX6_write_187 (by decide) ?_
            refine g_weak (lo' := [some (.ref (ea E 0)), none, none, none, none, none, none]) rfl ?_
            exact w_X6_write_J191 hC   h
    · refine g_iconst (pc' := 122) (v := (nI 0)) hC dX6_write_121 (by decide) rfl ?_
      refine g_istore (pc' := 124) (i := 5) (lo' := [some (.ref (ea E 0)), some (.int v1), some (.int v2), some (.int v3), some (.int v4), some (.int (nI 0)), none]) hC dX6_write_122 rfl rfl rfl rfl ?_
      refine w_X6_write_L124 hC  ?_ _ _ _ _ _ _ _ h
      · intro md_55 mdd_56 mn_57 mst_58 mbb_59 h
        refine g_iload (pc' := 180) (i := 4) hC dX6_write_178 rfl rfl ?_
        refine g_if_eq (pc' := 183) (tgt := 190) hC dX6_write_180 (by decide) rfl h (fun h => ?_) (fun h => ?_)
        · refine g_iconst (pc' := 191) (v := (nI 0)) hC dX6_write_190 (by decide) rfl ?_
          refine g_weak (lo' := [some (.ref (ea E 0)), none, none, none, none, none, none]) rfl ?_
          exact w_X6_write_J191 hC   h
        · refine g_aload_n (pc' := 184) (i := 0) hC dX6_write_183 rfl rfl rfl ?_
          refine gf_X6_166 (pc' := 187) hC dX6_write_184 rfl ?_
          refine g_goto (tgt := 191) hC dX6_write_187 (by decide) ?_
          refine g_weak (lo' := [some (.ref (ea E 0)), none, none, none, none, none, none]) rfl ?_
          exact w_X6_write_J191 hC   h
set_option maxRecDepth 200000 in
theorem c_X6_write (l : Launch) {E : GE} {rr : Int32} {mmz : Nat → Int32} {mtz : Nat → Int32} {mvz : Nat → Int64} {mxz : Nat → Int32} {mfz : Nat → Int32} {msz : Int32} {mdz : Nat → Int32} {mddz : Int32} {mnz : Nat → Int64} {mstz : Nat → Int64} {mplz : Nat → Int32} {mbbz : Nat → Int32} {v1 : Int32} {v2 : Int32} {v3 : Int32} {v4 : Int32}  (h : p_X6_write v1 v2 v3 v4 mk mo mm mt mv mx mf ms md mdd mn mst mpl mbb = some (rr, mmz, mtz, mvz, mxz, mfz, msz, mdz, mddz, mnz, mstz, mplz, mbbz)) : Met l yX6_write (.code yX6_write cX6_write 7 (some .int) :: gU) rm_X6_write (gP E (mws E mk mo mm mt mv mx mp mtd mf ms md mdd mn mst mpl mbb ma me mb mba mpg mdi mbl mby mw mz mso mbo mco mcd ml mr) [.ref (ea E 0), .int v1, .int v2, .int v3, .int v4]) (gQ E (mws E mk mo mmz mtz mvz mxz mp mtd mfz msz mdz mddz mnz mstz mplz mbbz ma me mb mba mpg mdi mbl mby mw mz mso mbo mco mcd ml mr) (some (.int rr))) 0 0 E.2.2.1 := by
  refine met_of (y := yX6_write) (own := RX6) (lo := [some (.ref (ea E 0)), some (.int v1), some (.int v2), some (.int v3), some (.int v4), none, none]) (by decide) rfl rfl rfl (fun κ hl hC => ?_)
  subst hl
  unfold p_X6_write at h
  refine g_iload_n (pc' := 1) (i := 1) hC dX6_write_0 rfl rfl rfl ?_
  obtain ⟨a_1, hc_2, h⟩ := bd1_some h
  refine g_callS (pc' := 4) hC (c_X6_isColumn _ hc_2) ml_X6_66  (by decide) rfl rfl rfl dX6_write_1 rfl ?_
  refine g_if_eq (pc' := 7) (tgt := 46) hC dX6_write_4 (by decide) rfl h (fun h => ?_) (fun h => ?_)
  · refine g_iconst (pc' := 47) (v := (-1 : Int32)) hC dX6_write_46 (by decide) rfl ?_
    obtain ⟨rfl, rfl, rfl, rfl, rfl, rfl, rfl, rfl, rfl, rfl, rfl, rfl, rfl⟩ := inj13 h; exact g_iret hC dX6_write_47
  · refine g_iload_n (pc' := 8) (i := 2) hC dX6_write_7 rfl rfl rfl ?_
    refine g_i2l (pc' := 9) hC dX6_write_8 rfl ?_
    refine g_lconst (pc' := 10) (v := (lN 0)) hC dX6_write_9 (by decide) rfl ?_
    refine g_ldc2_w (pc' := 13) (v := (lN 2)) hC u_19 dX6_write_10 rfl ?_
    obtain ⟨a_3, hc_4, h⟩ := bd1_some h
    refine g_callS (pc' := 16) hC (c_X6_in _ hc_4) ml_X6_62  (by decide) rfl rfl rfl dX6_write_13 rfl ?_
    refine g_if_eq (pc' := 19) (tgt := 46) hC dX6_write_16 (by decide) rfl h (fun h => ?_) (fun h => ?_)
    · refine g_iconst (pc' := 47) (v := (-1 : Int32)) hC dX6_write_46 (by decide) rfl ?_
      obtain ⟨rfl, rfl, rfl, rfl, rfl, rfl, rfl, rfl, rfl, rfl, rfl, rfl, rfl⟩ := inj13 h; exact g_iret hC dX6_write_47
    · refine g_iload_n (pc' := 20) (i := 2) hC dX6_write_19 rfl rfl rfl ?_
      refine g_iconst (pc' := 21) (v := (nI 1)) hC dX6_write_20 (by decide) rfl ?_
      refine g_icmp_ne (pc' := 24) (tgt := 34) hC dX6_write_21 (by decide) rfl h (fun h => ?_) (fun h => ?_)
      · refine g_aload_n (pc' := 25) (i := 0) hC dX6_write_24 rfl rfl rfl ?_
        refine gf_X6_7 (pc' := 28) hC dX6_write_25 rfl ?_
        refine g_iload_n (pc' := 29) (i := 1) hC dX6_write_28 rfl rfl rfl ?_
        obtain ⟨g_5, h⟩ := gd_some h
        refine ld_mk (pc' := 30) hC g_5 dX6_write_29 rfl ?_
        refine g_iconst (pc' := 31) (v := (nI 3)) hC dX6_write_30 (by decide) rfl ?_
        refine g_icmp_eq (pc' := 34) (tgt := 46) hC dX6_write_31 (by decide) rfl h (fun h => ?_) (fun h => ?_)
        · refine g_iconst (pc' := 47) (v := (-1 : Int32)) hC dX6_write_46 (by decide) rfl ?_
          obtain ⟨rfl, rfl, rfl, rfl, rfl, rfl, rfl, rfl, rfl, rfl, rfl, rfl, rfl⟩ := inj13 h; exact g_iret hC dX6_write_47
        · exact w_X6_write_J34 hC   h
      · exact w_X6_write_J34 hC   h
set_option maxRecDepth 200000 in
theorem c_X6_fails (l : Launch) {E : GE} {rr : Int32} {mbz : Int32} {mbaz : Int32} {v1 : Int32} {v2 : Int32}  (h : p_X6_fails v1 v2 mb mba = some (rr, mbz, mbaz)) : Met l yX6_fails (.code yX6_fails cX6_fails 3 (some .boolean) :: gU) rm_X6_fails (gP E (mws E mk mo mm mt mv mx mp mtd mf ms md mdd mn mst mpl mbb ma me mb mba mpg mdi mbl mby mw mz mso mbo mco mcd ml mr) [.ref (ea E 0), .int v1, .int v2]) (gQ E (mws E mk mo mm mt mv mx mp mtd mf ms md mdd mn mst mpl mbb ma me mbz mbaz mpg mdi mbl mby mw mz mso mbo mco mcd ml mr) (some (.int rr))) 0 0 E.2.2.1 := by
  refine met_of (y := yX6_fails) (own := RX6) (lo := [some (.ref (ea E 0)), some (.int v1), some (.int v2)]) (by decide) rfl rfl rfl (fun κ hl hC => ?_)
  subst hl
  unfold p_X6_fails at h
  refine g_aload_n (pc' := 1) (i := 0) hC dX6_fails_0 rfl rfl rfl ?_
  refine g_iload_n (pc' := 2) (i := 1) hC dX6_fails_1 rfl rfl rfl ?_
  refine pf_X6_169 (pc' := 5) hC dX6_fails_2 rfl ?_
  refine g_aload_n (pc' := 6) (i := 0) hC dX6_fails_5 rfl rfl rfl ?_
  refine g_iload_n (pc' := 7) (i := 2) hC dX6_fails_6 rfl rfl rfl ?_
  refine pf_X6_172 (pc' := 10) hC dX6_fails_7 rfl ?_
  refine g_iconst (pc' := 11) (v := (nI 0)) hC dX6_fails_10 (by decide) rfl ?_
  obtain ⟨rfl, rfl, rfl⟩ := inj3 h; exact g_zret hC (by decide) dX6_fails_11
set_option maxRecDepth 200000 in
theorem c_X6_next (l : Launch) {E : GE} {rr : Int32} {maz : Int32} {mbz : Int32} {mbaz : Int32}   (h : p_X6_next mf ma me mb mba = some (rr, maz, mbz, mbaz)) : Met l yX6_next (.code yX6_next cX6_next 2 (some .int) :: gU) rm_X6_next (gP E (mws E mk mo mm mt mv mx mp mtd mf ms md mdd mn mst mpl mbb ma me mb mba mpg mdi mbl mby mw mz mso mbo mco mcd ml mr) [.ref (ea E 0)]) (gQ E (mws E mk mo mm mt mv mx mp mtd mf ms md mdd mn mst mpl mbb maz me mbz mbaz mpg mdi mbl mby mw mz mso mbo mco mcd ml mr) (some (.int rr))) 0 0 E.2.2.1 := by
  refine met_of (y := yX6_next) (own := RX6) (lo := [some (.ref (ea E 0)), none]) (by decide) rfl rfl rfl (fun κ hl hC => ?_)
  subst hl
  unfold p_X6_next at h
  refine g_aload_n (pc' := 1) (i := 0) hC dX6_next_0 rfl rfl rfl ?_
  refine gf_X6_175 (pc' := 4) hC dX6_next_1 rfl ?_
  refine g_aload_n (pc' := 5) (i := 0) hC dX6_next_4 rfl rfl rfl ?_
  refine gf_X6_178 (pc' := 8) hC dX6_next_5 rfl ?_
  refine g_icmp_lt (pc' := 11) (tgt := 23) hC dX6_next_8 (by decide) rfl h (fun h => ?_) (fun h => ?_)
  · refine g_aload_n (pc' := 24) (i := 0) hC dX6_next_23 rfl rfl rfl ?_
    refine g_dup (pc' := 25) hC dX6_next_24 rfl rfl ?_
    refine gf_X6_175 (pc' := 28) hC dX6_next_25 rfl ?_
    refine g_iconst (pc' := 29) (v := (nI 1)) hC dX6_next_28 (by decide) rfl ?_
    refine g_iadd (pc' := 30) hC dX6_next_29 rfl ?_
    refine pf_X6_175 (pc' := 33) hC dX6_next_30 rfl ?_
    refine g_aload_n (pc' := 34) (i := 0) hC dX6_next_33 rfl rfl rfl ?_
    refine gf_X6_35 (pc' := 37) hC dX6_next_34 rfl ?_
    refine g_aload_n (pc' := 38) (i := 0) hC dX6_next_37 rfl rfl rfl ?_
    refine gf_X6_175 (pc' := 41) hC dX6_next_38 rfl ?_
    refine g_iconst (pc' := 42) (v := (nI 1)) hC dX6_next_41 (by decide) rfl ?_
    refine g_isub (pc' := 43) hC dX6_next_42 rfl ?_
    obtain ⟨g_1, h⟩ := gd_some h
    refine ld_mf (pc' := 44) hC g_1 dX6_next_43 rfl ?_
    refine g_sipush (pc' := 47) (v := (nI 255)) hC dX6_next_44 (by decide) rfl ?_
    refine g_iand (pc' := 48) hC dX6_next_47 rfl ?_
    obtain ⟨rfl, rfl, rfl, rfl⟩ := inj4 h; exact g_iret hC dX6_next_48
  · refine g_aload_n (pc' := 12) (i := 0) hC dX6_next_11 rfl rfl rfl ?_
    refine g_iconst (pc' := 13) (v := (nI 1)) hC dX6_next_12 (by decide) rfl ?_
    refine g_aload_n (pc' := 14) (i := 0) hC dX6_next_13 rfl rfl rfl ?_
    refine gf_X6_178 (pc' := 17) hC dX6_next_14 rfl ?_
    obtain ⟨a_2, mb_3, mba_4, hc_5, h⟩ := bd3_some h
    refine g_callV (pc' := 20) hC (c_X6_fails _ hc_5) ml_X6_181 (rc_M) (by decide) rfl rfl rfl rfl dX6_next_17 rfl ?_
    refine g_istore_n (pc' := 21) (i := 1) (lo' := [some (.ref (ea E 0)), some (.int a_2)]) hC dX6_next_20 rfl rfl rfl rfl rfl ?_
    refine g_iconst (pc' := 22) (v := (nI 0)) hC dX6_next_21 (by decide) rfl ?_
    obtain ⟨rfl, rfl, rfl, rfl⟩ := inj4 h; exact g_iret hC dX6_next_22
set_option maxRecDepth 200000 in
theorem w_X6_readVar_J54 {κ : GK} {E : GE} {rr : Int64} {maz : Int32} {mbz : Int32} {mbaz : Int32} {v1 : Int64} {v3 : Int32} {v5 : Int32} {k4 : Int64 → Int32 → Int32 → Int32 → Int32 → Option (Int64 × Int32 × Int32 × Int32)} (hC : gC κ E cX6_readVar RX6 (some .long) rm_X6_readVar 7)  (hk4 : ∀ (v1 : Int64) (v3 : Int32) (ma : Int32) (mb : Int32) (mba : Int32), k4 v1 v3 ma mb mba = some (rr, maz, mbz, mbaz) → GG κ E (mws E mk mo mm mt mv mx mp mtd mf ms md mdd mn mst mpl mbb maz me mbz mbaz mpg mdi mbl mby mw mz mso mbo mco mcd ml mr, some (.long rr)) (mws E mk mo mm mt mv mx mp mtd mf ms md mdd mn mst mpl mbb ma me mb mba mpg mdi mbl mby mw mz mso mbo mco mcd ml mr) 4 [some (.ref (ea E 0)), some (.long v1), none, some (.int v3), none, none, none] []) (h : p_X6_readVar_J54 v1 v3 v5 ma mb mba k4 = some (rr, maz, mbz, mbaz)) : GG κ E (mws E mk mo mm mt mv mx mp mtd mf ms md mdd mn mst mpl mbb maz me mbz mbaz mpg mdi mbl mby mw mz mso mbo mco mcd ml mr, some (.long rr)) (mws E mk mo mm mt mv mx mp mtd mf ms md mdd mn mst mpl mbb ma me mb mba mpg mdi mbl mby mw mz mso mbo mco mcd ml mr) 54 [some (.ref (ea E 0)), some (.long v1), none, some (.int v3), none, some (.int v5), none] [] := by
  unfold p_X6_readVar_J54 at h
  refine g_lload_n (pc' := 55) (i := 1) hC dX6_readVar_54 rfl rfl rfl ?_
  refine g_iload (pc' := 57) (i := 5) hC dX6_readVar_55 rfl rfl ?_
  refine g_bipush (pc' := 59) (v := (nI 127)) hC dX6_readVar_57 (by decide) rfl ?_
  refine g_iand (pc' := 60) hC dX6_readVar_59 rfl ?_
  refine g_i2l (pc' := 61) hC dX6_readVar_60 rfl ?_
  refine g_bipush (pc' := 63) (v := (nI 7)) hC dX6_readVar_61 (by decide) rfl ?_
  refine g_iload_n (pc' := 64) (i := 3) hC dX6_readVar_63 rfl rfl rfl ?_
  refine g_imul (pc' := 65) hC dX6_readVar_64 rfl ?_
  refine g_lshl (pc' := 66) hC dX6_readVar_65 rfl ?_
  refine g_lor (pc' := 67) hC dX6_readVar_66 rfl ?_
  refine g_lstore_n (pc' := 68) (i := 1) (lo' := [some (.ref (ea E 0)), some (.long (v1 ||| (lshl (i2l (v5 &&& (nI 127))) ((nI 7) * v3)))), none, some (.int v3), none, some (.int v5), none]) hC dX6_readVar_67 rfl rfl rfl rfl rfl ?_
  refine g_iload (pc' := 70) (i := 5) hC dX6_readVar_68 rfl rfl ?_
  refine g_sipush (pc' := 73) (v := (nI 128)) hC dX6_readVar_70 (by decide) rfl ?_
  refine g_icmp_ge (pc' := 76) (tgt := 78) hC dX6_readVar_73 (by decide) rfl h (fun h => ?_) (fun h => ?_)
  · refine g_lload_n (pc' := 77) (i := 1) hC dX6_readVar_76 rfl rfl rfl ?_
    obtain ⟨rfl, rfl, rfl, rfl⟩ := inj4 h; exact g_lret hC dX6_readVar_77
  · refine g_iinc (pc' := 81) (i := 3) (x := v3) (k := (nI 1)) (lo' := [some (.ref (ea E 0)), some (.long (v1 ||| (lshl (i2l (v5 &&& (nI 127))) ((nI 7) * v3)))), none, some (.int (v3 + (nI 1))), none, some (.int v5), none]) hC dX6_readVar_78 rfl (by decide) rfl rfl rfl rfl ?_
    refine g_goto (tgt := 4) hC dX6_readVar_81 (by decide) ?_
    refine g_weak (lo' := [some (.ref (ea E 0)), some (.long (v1 ||| (lshl (i2l (v5 &&& (nI 127))) ((nI 7) * v3)))), none, some (.int (v3 + (nI 1))), none, none, none]) rfl ?_
    exact hk4 _ _ _ _ _ h
set_option maxRecDepth 200000 in
theorem w_X6_readVar_L4 {κ : GK} {E : GE} {rr : Int64} {maz : Int32} {mbz : Int32} {mbaz : Int32}   (hC : gC κ E cX6_readVar RX6 (some .long) rm_X6_readVar 7)   : ∀ (n : Nat) (v1 : Int64) (v3 : Int32) (ma : Int32) (mb : Int32) (mba : Int32), itr5 (p_X6_readVar_L4 mf me) n v1 v3 ma mb mba = some (rr, maz, mbz, mbaz) → GG κ E (mws E mk mo mm mt mv mx mp mtd mf ms md mdd mn mst mpl mbb maz me mbz mbaz mpg mdi mbl mby mw mz mso mbo mco mcd ml mr, some (.long rr)) (mws E mk mo mm mt mv mx mp mtd mf ms md mdd mn mst mpl mbb ma me mb mba mpg mdi mbl mby mw mz mso mbo mco mcd ml mr) 4 [some (.ref (ea E 0)), some (.long v1), none, some (.int v3), none, none, none] [] :=
  itr5_ind (fun k4 hk4 v1 v3 ma mb mba h => by
    unfold p_X6_readVar_L4 at h
    refine g_iload_n (pc' := 5) (i := 3) hC dX6_readVar_4 rfl rfl rfl ?_
    refine g_bipush (pc' := 7) (v := (nI 10)) hC dX6_readVar_5 (by decide) rfl ?_
    refine g_icmp_ge (pc' := 10) (tgt := 84) hC dX6_readVar_7 (by decide) rfl h (fun h => ?_) (fun h => ?_)
    · refine g_aload_n (pc' := 11) (i := 0) hC dX6_readVar_10 rfl rfl rfl ?_
      refine gf_X6_175 (pc' := 14) hC dX6_readVar_11 rfl ?_
      refine g_istore (pc' := 16) (i := 4) (lo' := [some (.ref (ea E 0)), some (.long v1), none, some (.int v3), some (.int ma), none, none]) hC dX6_readVar_14 rfl rfl rfl rfl ?_
      refine g_aload_n (pc' := 17) (i := 0) hC dX6_readVar_16 rfl rfl rfl ?_
      obtain ⟨a_1, ma_2, mb_3, mba_4, hc_5, h⟩ := bd4_some h
      refine g_callV (pc' := 20) hC (c_X6_next _ hc_5) ml_X6_184 (rc_M) (by decide) rfl rfl rfl rfl dX6_readVar_17 rfl ?_
      refine g_istore (pc' := 22) (i := 5) (lo' := [some (.ref (ea E 0)), some (.long v1), none, some (.int v3), some (.int ma), some (.int a_1), none]) hC dX6_readVar_20 rfl rfl rfl rfl ?_
      refine g_aload_n (pc' := 23) (i := 0) hC dX6_readVar_22 rfl rfl rfl ?_
      refine gf_X6_169 (pc' := 26) hC dX6_readVar_23 rfl ?_
      refine g_if_eq (pc' := 29) (tgt := 31) hC dX6_readVar_26 (by decide) rfl h (fun h => ?_) (fun h => ?_)
      · refine g_iload_n (pc' := 32) (i := 3) hC dX6_readVar_31 rfl rfl rfl ?_
        refine g_bipush (pc' := 34) (v := (nI 9)) hC dX6_readVar_32 (by decide) rfl ?_
        refine g_icmp_ne (pc' := 37) (tgt := 54) hC dX6_readVar_34 (by decide) rfl h (fun h => ?_) (fun h => ?_)
        · refine g_iload (pc' := 39) (i := 5) hC dX6_readVar_37 rfl rfl ?_
          refine g_iconst (pc' := 40) (v := (nI 1)) hC dX6_readVar_39 (by decide) rfl ?_
          refine g_icmp_le (pc' := 43) (tgt := 54) hC dX6_readVar_40 (by decide) rfl h (fun h => ?_) (fun h => ?_)
          · refine g_aload_n (pc' := 44) (i := 0) hC dX6_readVar_43 rfl rfl rfl ?_
            refine g_iconst (pc' := 45) (v := (nI 2)) hC dX6_readVar_44 (by decide) rfl ?_
            refine g_iload (pc' := 47) (i := 4) hC dX6_readVar_45 rfl rfl ?_
            obtain ⟨a_6, mb_7, mba_8, hc_9, h⟩ := bd3_some h
            refine g_callV (pc' := 50) hC (c_X6_fails _ hc_9) ml_X6_181 (rc_M) (by decide) rfl rfl rfl rfl dX6_readVar_47 rfl ?_
            refine g_istore (pc' := 52) (i := 6) (lo' := [some (.ref (ea E 0)), some (.long v1), none, some (.int v3), some (.int ma), some (.int a_1), some (.int a_6)]) hC dX6_readVar_50 rfl rfl rfl rfl ?_
            refine g_lconst (pc' := 53) (v := (lN 0)) hC dX6_readVar_52 (by decide) rfl ?_
            obtain ⟨rfl, rfl, rfl, rfl⟩ := inj4 h; exact g_lret hC dX6_readVar_53
          · refine g_weak (lo' := [some (.ref (ea E 0)), some (.long v1), none, some (.int v3), none, some (.int a_1), none]) rfl ?_
            exact w_X6_readVar_J54 hC  hk4 h
        · refine g_weak (lo' := [some (.ref (ea E 0)), some (.long v1), none, some (.int v3), none, some (.int a_1), none]) rfl ?_
          exact w_X6_readVar_J54 hC  hk4 h
      · refine g_lconst (pc' := 30) (v := (lN 0)) hC dX6_readVar_29 (by decide) rfl ?_
        obtain ⟨rfl, rfl, rfl, rfl⟩ := inj4 h; exact g_lret hC dX6_readVar_30
    · refine g_lload_n (pc' := 85) (i := 1) hC dX6_readVar_84 rfl rfl rfl ?_
      obtain ⟨rfl, rfl, rfl, rfl⟩ := inj4 h; exact g_lret hC dX6_readVar_85)
set_option maxRecDepth 200000 in
theorem c_X6_readVar (l : Launch) {E : GE} {rr : Int64} {maz : Int32} {mbz : Int32} {mbaz : Int32}   (h : p_X6_readVar mf ma me mb mba = some (rr, maz, mbz, mbaz)) : Met l yX6_readVar (.code yX6_readVar cX6_readVar 7 (some .long) :: gU) rm_X6_readVar (gP E (mws E mk mo mm mt mv mx mp mtd mf ms md mdd mn mst mpl mbb ma me mb mba mpg mdi mbl mby mw mz mso mbo mco mcd ml mr) [.ref (ea E 0)]) (gQ E (mws E mk mo mm mt mv mx mp mtd mf ms md mdd mn mst mpl mbb maz me mbz mbaz mpg mdi mbl mby mw mz mso mbo mco mcd ml mr) (some (.long rr))) 0 0 E.2.2.1 := by
  refine met_of (y := yX6_readVar) (own := RX6) (lo := [some (.ref (ea E 0)), none, none, none, none, none, none]) (by decide) rfl rfl rfl (fun κ hl hC => ?_)
  subst hl
  unfold p_X6_readVar at h
  refine g_lconst (pc' := 1) (v := (lN 0)) hC dX6_readVar_0 (by decide) rfl ?_
  refine g_lstore_n (pc' := 2) (i := 1) (lo' := [some (.ref (ea E 0)), some (.long (lN 0)), none, none, none, none, none]) hC dX6_readVar_1 rfl rfl rfl rfl rfl ?_
  refine g_iconst (pc' := 3) (v := (nI 0)) hC dX6_readVar_2 (by decide) rfl ?_
  refine g_istore_n (pc' := 4) (i := 3) (lo' := [some (.ref (ea E 0)), some (.long (lN 0)), none, some (.int (nI 0)), none, none, none]) hC dX6_readVar_3 rfl rfl rfl rfl rfl ?_
  refine w_X6_readVar_L4 hC   _ _ _ _ _ _ h
set_option maxRecDepth 200000 in
theorem c_X6_readZig (l : Launch) {E : GE} {rr : Int64} {maz : Int32} {mbz : Int32} {mbaz : Int32}   (h : p_X6_readZig mf ma me mb mba = some (rr, maz, mbz, mbaz)) : Met l yX6_readZig (.code yX6_readZig cX6_readZig 3 (some .long) :: gU) rm_X6_readZig (gP E (mws E mk mo mm mt mv mx mp mtd mf ms md mdd mn mst mpl mbb ma me mb mba mpg mdi mbl mby mw mz mso mbo mco mcd ml mr) [.ref (ea E 0)]) (gQ E (mws E mk mo mm mt mv mx mp mtd mf ms md mdd mn mst mpl mbb maz me mbz mbaz mpg mdi mbl mby mw mz mso mbo mco mcd ml mr) (some (.long rr))) 0 0 E.2.2.1 := by
  refine met_of (y := yX6_readZig) (own := RX6) (lo := [some (.ref (ea E 0)), none, none]) (by decide) rfl rfl rfl (fun κ hl hC => ?_)
  subst hl
  unfold p_X6_readZig at h
  refine g_aload_n (pc' := 1) (i := 0) hC dX6_readZig_0 rfl rfl rfl ?_
  obtain ⟨a_1, ma_2, mb_3, mba_4, hc_5, h⟩ := bd4_some h
  refine g_callV (pc' := 4) hC (c_X6_readVar _ hc_5) ml_X6_188 (rc_M) (by decide) rfl rfl rfl rfl dX6_readZig_1 rfl ?_
  refine g_lstore_n (pc' := 5) (i := 1) (lo' := [some (.ref (ea E 0)), some (.long a_1), none]) hC dX6_readZig_4 rfl rfl rfl rfl rfl ?_
  refine g_lload_n (pc' := 6) (i := 1) hC dX6_readZig_5 rfl rfl rfl ?_
  refine g_iconst (pc' := 7) (v := (nI 1)) hC dX6_readZig_6 (by decide) rfl ?_
  refine g_lushr (pc' := 8) hC dX6_readZig_7 rfl ?_
  refine g_lconst (pc' := 9) (v := (lN 0)) hC dX6_readZig_8 (by decide) rfl ?_
  refine g_lload_n (pc' := 10) (i := 1) hC dX6_readZig_9 rfl rfl rfl ?_
  refine g_lconst (pc' := 11) (v := (lN 1)) hC dX6_readZig_10 (by decide) rfl ?_
  refine g_land (pc' := 12) hC dX6_readZig_11 rfl ?_
  refine g_lsub (pc' := 13) hC dX6_readZig_12 rfl ?_
  refine g_lxor (pc' := 14) hC dX6_readZig_13 rfl ?_
  obtain ⟨rfl, rfl, rfl, rfl⟩ := inj4 h; exact g_lret hC dX6_readZig_14
set_option maxRecDepth 200000 in
theorem w_X6_readBytes_L5 {κ : GK} {E : GE} {rr : Int64} {maz : Int32} {mbz : Int32} {mbaz : Int32} {v1 : Int32}  (hC : gC κ E cX6_readBytes RX6 (some .long) rm_X6_readBytes 5)   : ∀ (n : Nat) (v2 : Int64) (v4 : Int32) (ma : Int32) (mb : Int32) (mba : Int32), itr5 (p_X6_readBytes_L5 v1 mf me) n v2 v4 ma mb mba = some (rr, maz, mbz, mbaz) → GG κ E (mws E mk mo mm mt mv mx mp mtd mf ms md mdd mn mst mpl mbb maz me mbz mbaz mpg mdi mbl mby mw mz mso mbo mco mcd ml mr, some (.long rr)) (mws E mk mo mm mt mv mx mp mtd mf ms md mdd mn mst mpl mbb ma me mb mba mpg mdi mbl mby mw mz mso mbo mco mcd ml mr) 5 [some (.ref (ea E 0)), some (.int v1), some (.long v2), none, some (.int v4)] [] :=
  itr5_ind (fun k5 hk5 v2 v4 ma mb mba h => by
    unfold p_X6_readBytes_L5 at h
    refine g_iload (pc' := 7) (i := 4) hC dX6_readBytes_5 rfl rfl ?_
    refine g_iload_n (pc' := 8) (i := 1) hC dX6_readBytes_7 rfl rfl rfl ?_
    refine g_icmp_ge (pc' := 11) (tgt := 38) hC dX6_readBytes_8 (by decide) rfl h (fun h => ?_) (fun h => ?_)
    · refine g_aload_n (pc' := 12) (i := 0) hC dX6_readBytes_11 rfl rfl rfl ?_
      refine gf_X6_169 (pc' := 15) hC dX6_readBytes_12 rfl ?_
      refine g_if_ne (pc' := 18) (tgt := 38) hC dX6_readBytes_15 (by decide) rfl h (fun h => ?_) (fun h => ?_)
      · refine g_lload_n (pc' := 19) (i := 2) hC dX6_readBytes_18 rfl rfl rfl ?_
        refine g_aload_n (pc' := 20) (i := 0) hC dX6_readBytes_19 rfl rfl rfl ?_
        obtain ⟨a_1, ma_2, mb_3, mba_4, hc_5, h⟩ := bd4_some h
        refine g_callV (pc' := 23) hC (c_X6_next _ hc_5) ml_X6_184 (rc_M) (by decide) rfl rfl rfl rfl dX6_readBytes_20 rfl ?_
        refine g_i2l (pc' := 24) hC dX6_readBytes_23 rfl ?_
        refine g_bipush (pc' := 26) (v := (nI 8)) hC dX6_readBytes_24 (by decide) rfl ?_
        refine g_iload (pc' := 28) (i := 4) hC dX6_readBytes_26 rfl rfl ?_
        refine g_imul (pc' := 29) hC dX6_readBytes_28 rfl ?_
        refine g_lshl (pc' := 30) hC dX6_readBytes_29 rfl ?_
        refine g_lor (pc' := 31) hC dX6_readBytes_30 rfl ?_
        refine g_lstore_n (pc' := 32) (i := 2) (lo' := [some (.ref (ea E 0)), some (.int v1), some (.long (v2 ||| (lshl (i2l a_1) ((nI 8) * v4)))), none, some (.int v4)]) hC dX6_readBytes_31 rfl rfl rfl rfl rfl ?_
        refine g_iinc (pc' := 35) (i := 4) (x := v4) (k := (nI 1)) (lo' := [some (.ref (ea E 0)), some (.int v1), some (.long (v2 ||| (lshl (i2l a_1) ((nI 8) * v4)))), none, some (.int (v4 + (nI 1)))]) hC dX6_readBytes_32 rfl (by decide) rfl rfl rfl rfl ?_
        refine g_goto (tgt := 5) hC dX6_readBytes_35 (by decide) ?_
        exact hk5 _ _ _ _ _ h
      · refine g_lload_n (pc' := 39) (i := 2) hC dX6_readBytes_38 rfl rfl rfl ?_
        obtain ⟨rfl, rfl, rfl, rfl⟩ := inj4 h; exact g_lret hC dX6_readBytes_39
    · refine g_lload_n (pc' := 39) (i := 2) hC dX6_readBytes_38 rfl rfl rfl ?_
      obtain ⟨rfl, rfl, rfl, rfl⟩ := inj4 h; exact g_lret hC dX6_readBytes_39)
set_option maxRecDepth 200000 in
theorem c_X6_readBytes (l : Launch) {E : GE} {rr : Int64} {maz : Int32} {mbz : Int32} {mbaz : Int32} {v1 : Int32}  (h : p_X6_readBytes v1 mf ma me mb mba = some (rr, maz, mbz, mbaz)) : Met l yX6_readBytes (.code yX6_readBytes cX6_readBytes 5 (some .long) :: gU) rm_X6_readBytes (gP E (mws E mk mo mm mt mv mx mp mtd mf ms md mdd mn mst mpl mbb ma me mb mba mpg mdi mbl mby mw mz mso mbo mco mcd ml mr) [.ref (ea E 0), .int v1]) (gQ E (mws E mk mo mm mt mv mx mp mtd mf ms md mdd mn mst mpl mbb maz me mbz mbaz mpg mdi mbl mby mw mz mso mbo mco mcd ml mr) (some (.long rr))) 0 0 E.2.2.1 := by
  refine met_of (y := yX6_readBytes) (own := RX6) (lo := [some (.ref (ea E 0)), some (.int v1), none, none, none]) (by decide) rfl rfl rfl (fun κ hl hC => ?_)
  subst hl
  unfold p_X6_readBytes at h
  refine g_lconst (pc' := 1) (v := (lN 0)) hC dX6_readBytes_0 (by decide) rfl ?_
  refine g_lstore_n (pc' := 2) (i := 2) (lo' := [some (.ref (ea E 0)), some (.int v1), some (.long (lN 0)), none, none]) hC dX6_readBytes_1 rfl rfl rfl rfl rfl ?_
  refine g_iconst (pc' := 3) (v := (nI 0)) hC dX6_readBytes_2 (by decide) rfl ?_
  refine g_istore (pc' := 5) (i := 4) (lo' := [some (.ref (ea E 0)), some (.int v1), some (.long (lN 0)), none, some (.int (nI 0))]) hC dX6_readBytes_3 rfl rfl rfl rfl ?_
  refine w_X6_readBytes_L5 hC   _ _ _ _ _ _ h
set_option maxRecDepth 200000 in
theorem w_X6_readPacked_J39 {κ : GK} {E : GE} {rr : Int64} {maz : Int32} {mbz : Int32} {mbaz : Int32} {mblz : Int32} {mbyz : Int32} {v1 : Int32} {v2 : Int64} {v4 : Int32} {k5 : Int64 → Int32 → Int32 → Int32 → Int32 → Int32 → Int32 → Option (Int64 × Int32 × Int32 × Int32 × Int32 × Int32)} (hC : gC κ E cX6_readPacked RX6 (some .long) rm_X6_readPacked 5)  (hk5 : ∀ (v2 : Int64) (v4 : Int32) (ma : Int32) (mb : Int32) (mba : Int32) (mbl : Int32) (mby : Int32), k5 v2 v4 ma mb mba mbl mby = some (rr, maz, mbz, mbaz, mblz, mbyz) → GG κ E (mws E mk mo mm mt mv mx mp mtd mf ms md mdd mn mst mpl mbb maz me mbz mbaz mpg mdi mblz mbyz mw mz mso mbo mco mcd ml mr, some (.long rr)) (mws E mk mo mm mt mv mx mp mtd mf ms md mdd mn mst mpl mbb ma me mb mba mpg mdi mbl mby mw mz mso mbo mco mcd ml mr) 5 [some (.ref (ea E 0)), some (.int v1), some (.long v2), none, some (.int v4)] []) (h : p_X6_readPacked_J39 v2 v4 ma mb mba mbl mby k5 = some (rr, maz, mbz, mbaz, mblz, mbyz)) : GG κ E (mws E mk mo mm mt mv mx mp mtd mf ms md mdd mn mst mpl mbb maz me mbz mbaz mpg mdi mblz mbyz mw mz mso mbo mco mcd ml mr, some (.long rr)) (mws E mk mo mm mt mv mx mp mtd mf ms md mdd mn mst mpl mbb ma me mb mba mpg mdi mbl mby mw mz mso mbo mco mcd ml mr) 39 [some (.ref (ea E 0)), some (.int v1), some (.long v2), none, some (.int v4)] [] := by
  unfold p_X6_readPacked_J39 at h
  refine g_lload_n (pc' := 40) (i := 2) hC dX6_readPacked_39 rfl rfl rfl ?_
  refine g_aload_n (pc' := 41) (i := 0) hC dX6_readPacked_40 rfl rfl rfl ?_
  refine gf_X6_195 (pc' := 44) hC dX6_readPacked_41 rfl ?_
  refine g_bipush (pc' := 46) (v := (nI 8)) hC dX6_readPacked_44 (by decide) rfl ?_
  refine g_aload_n (pc' := 47) (i := 0) hC dX6_readPacked_46 rfl rfl rfl ?_
  refine gf_X6_192 (pc' := 50) hC dX6_readPacked_47 rfl ?_
  refine g_isub (pc' := 51) hC dX6_readPacked_50 rfl ?_
  refine g_ishr (pc' := 52) hC dX6_readPacked_51 rfl ?_
  refine g_iconst (pc' := 53) (v := (nI 1)) hC dX6_readPacked_52 (by decide) rfl ?_
  refine g_iand (pc' := 54) hC dX6_readPacked_53 rfl ?_
  refine g_i2l (pc' := 55) hC dX6_readPacked_54 rfl ?_
  refine g_iload (pc' := 57) (i := 4) hC dX6_readPacked_55 rfl rfl ?_
  refine g_lshl (pc' := 58) hC dX6_readPacked_57 rfl ?_
  refine g_lor (pc' := 59) hC dX6_readPacked_58 rfl ?_
  refine g_lstore_n (pc' := 60) (i := 2) (lo' := [some (.ref (ea E 0)), some (.int v1), some (.long (v2 ||| (lshl (i2l ((ishr mby ((nI 8) - mbl)) &&& (nI 1))) v4))), none, some (.int v4)]) hC dX6_readPacked_59 rfl rfl rfl rfl rfl ?_
  refine g_aload_n (pc' := 61) (i := 0) hC dX6_readPacked_60 rfl rfl rfl ?_
  refine g_dup (pc' := 62) hC dX6_readPacked_61 rfl rfl ?_
  refine gf_X6_192 (pc' := 65) hC dX6_readPacked_62 rfl ?_
  refine g_iconst (pc' := 66) (v := (nI 1)) hC dX6_readPacked_65 (by decide) rfl ?_
  refine g_isub (pc' := 67) hC dX6_readPacked_66 rfl ?_
  refine pf_X6_192 (pc' := 70) hC dX6_readPacked_67 rfl ?_
  refine g_iinc (pc' := 73) (i := 4) (x := v4) (k := (nI 1)) (lo' := [some (.ref (ea E 0)), some (.int v1), some (.long (v2 ||| (lshl (i2l ((ishr mby ((nI 8) - mbl)) &&& (nI 1))) v4))), none, some (.int (v4 + (nI 1)))]) hC dX6_readPacked_70 rfl (by decide) rfl rfl rfl rfl ?_
  refine g_goto (tgt := 5) hC dX6_readPacked_73 (by decide) ?_
  exact hk5 _ _ _ _ _ _ _ h
set_option maxRecDepth 200000 in
theorem w_X6_readPacked_L5 {κ : GK} {E : GE} {rr : Int64} {maz : Int32} {mbz : Int32} {mbaz : Int32} {mblz : Int32} {mbyz : Int32} {v1 : Int32}  (hC : gC κ E cX6_readPacked RX6 (some .long) rm_X6_readPacked 5)   : ∀ (n : Nat) (v2 : Int64) (v4 : Int32) (ma : Int32) (mb : Int32) (mba : Int32) (mbl : Int32) (mby : Int32), itr7 (p_X6_readPacked_L5 v1 mf me) n v2 v4 ma mb mba mbl mby = some (rr, maz, mbz, mbaz, mblz, mbyz) → GG κ E (mws E mk mo mm mt mv mx mp mtd mf ms md mdd mn mst mpl mbb maz me mbz mbaz mpg mdi mblz mbyz mw mz mso mbo mco mcd ml mr, some (.long rr)) (mws E mk mo mm mt mv mx mp mtd mf ms md mdd mn mst mpl mbb ma me mb mba mpg mdi mbl mby mw mz mso mbo mco mcd ml mr) 5 [some (.ref (ea E 0)), some (.int v1), some (.long v2), none, some (.int v4)] [] :=
  itr7_ind (fun k5 hk5 v2 v4 ma mb mba mbl mby h => by
    unfold p_X6_readPacked_L5 at h
    refine g_iload (pc' := 7) (i := 4) hC dX6_readPacked_5 rfl rfl ?_
    refine g_iload_n (pc' := 8) (i := 1) hC dX6_readPacked_7 rfl rfl rfl ?_
    refine g_icmp_ge (pc' := 11) (tgt := 76) hC dX6_readPacked_8 (by decide) rfl h (fun h => ?_) (fun h => ?_)
    · refine g_aload_n (pc' := 12) (i := 0) hC dX6_readPacked_11 rfl rfl rfl ?_
      refine gf_X6_169 (pc' := 15) hC dX6_readPacked_12 rfl ?_
      refine g_if_ne (pc' := 18) (tgt := 76) hC dX6_readPacked_15 (by decide) rfl h (fun h => ?_) (fun h => ?_)
      · refine g_aload_n (pc' := 19) (i := 0) hC dX6_readPacked_18 rfl rfl rfl ?_
        refine gf_X6_192 (pc' := 22) hC dX6_readPacked_19 rfl ?_
        refine g_if_ne (pc' := 25) (tgt := 39) hC dX6_readPacked_22 (by decide) rfl h (fun h => ?_) (fun h => ?_)
        · refine g_aload_n (pc' := 26) (i := 0) hC dX6_readPacked_25 rfl rfl rfl ?_
          refine g_aload_n (pc' := 27) (i := 0) hC dX6_readPacked_26 rfl rfl rfl ?_
          obtain ⟨a_1, ma_2, mb_3, mba_4, hc_5, h⟩ := bd4_some h
          refine g_callV (pc' := 30) hC (c_X6_next _ hc_5) ml_X6_184 (rc_M) (by decide) rfl rfl rfl rfl dX6_readPacked_27 rfl ?_
          refine pf_X6_195 (pc' := 33) hC dX6_readPacked_30 rfl ?_
          refine g_aload_n (pc' := 34) (i := 0) hC dX6_readPacked_33 rfl rfl rfl ?_
          refine g_bipush (pc' := 36) (v := (nI 8)) hC dX6_readPacked_34 (by decide) rfl ?_
          refine pf_X6_192 (pc' := 39) hC dX6_readPacked_36 rfl ?_
          exact w_X6_readPacked_J39 hC  hk5 h
        · exact w_X6_readPacked_J39 hC  hk5 h
      · refine g_lload_n (pc' := 77) (i := 2) hC dX6_readPacked_76 rfl rfl rfl ?_
        obtain ⟨rfl, rfl, rfl, rfl, rfl, rfl⟩ := inj6 h; exact g_lret hC dX6_readPacked_77
    · refine g_lload_n (pc' := 77) (i := 2) hC dX6_readPacked_76 rfl rfl rfl ?_
      obtain ⟨rfl, rfl, rfl, rfl, rfl, rfl⟩ := inj6 h; exact g_lret hC dX6_readPacked_77)
set_option maxRecDepth 200000 in
theorem c_X6_readPacked (l : Launch) {E : GE} {rr : Int64} {maz : Int32} {mbz : Int32} {mbaz : Int32} {mblz : Int32} {mbyz : Int32} {v1 : Int32}  (h : p_X6_readPacked v1 mf ma me mb mba mbl mby = some (rr, maz, mbz, mbaz, mblz, mbyz)) : Met l yX6_readPacked (.code yX6_readPacked cX6_readPacked 5 (some .long) :: gU) rm_X6_readPacked (gP E (mws E mk mo mm mt mv mx mp mtd mf ms md mdd mn mst mpl mbb ma me mb mba mpg mdi mbl mby mw mz mso mbo mco mcd ml mr) [.ref (ea E 0), .int v1]) (gQ E (mws E mk mo mm mt mv mx mp mtd mf ms md mdd mn mst mpl mbb maz me mbz mbaz mpg mdi mblz mbyz mw mz mso mbo mco mcd ml mr) (some (.long rr))) 0 0 E.2.2.1 := by
  refine met_of (y := yX6_readPacked) (own := RX6) (lo := [some (.ref (ea E 0)), some (.int v1), none, none, none]) (by decide) rfl rfl rfl (fun κ hl hC => ?_)
  subst hl
  unfold p_X6_readPacked at h
  refine g_lconst (pc' := 1) (v := (lN 0)) hC dX6_readPacked_0 (by decide) rfl ?_
  refine g_lstore_n (pc' := 2) (i := 2) (lo' := [some (.ref (ea E 0)), some (.int v1), some (.long (lN 0)), none, none]) hC dX6_readPacked_1 rfl rfl rfl rfl rfl ?_
  refine g_iconst (pc' := 3) (v := (nI 0)) hC dX6_readPacked_2 (by decide) rfl ?_
  refine g_istore (pc' := 5) (i := 4) (lo' := [some (.ref (ea E 0)), some (.int v1), some (.long (lN 0)), none, some (.int (nI 0))]) hC dX6_readPacked_3 rfl rfl rfl rfl ?_
  refine w_X6_readPacked_L5 hC   _ _ _ _ _ _ _ _ h
set_option maxRecDepth 200000 in
theorem w_X6_readRuns_L208 {κ : GK} {E : GE} {rr : Int32} {mnz : Nat → Int64} {maz : Int32} {mbz : Int32} {mbaz : Int32} {mblz : Int32} {mbyz : Int32} {v1 : Int32} {v2 : Int32} {v7 : Int64} {v11 : Int64} {k233 : Int32 → (Nat → Int64) → Option (Int32 × (Nat → Int64) × Int32 × Int32 × Int32 × Int32 × Int32)} (hC : gC κ E cX6_readRuns RX6 (some .boolean) rm_X6_readRuns 14)  (hk233 : ∀ (v3 : Int32) (mn : Nat → Int64), k233 v3 mn = some (rr, mnz, maz, mbz, mbaz, mblz, mbyz) → GG κ E (mws E mk mo mm mt mv mx mp mtd mf ms md mdd mnz mst mpl mbb maz me mbz mbaz mpg mdi mblz mbyz mw mz mso mbo mco mcd ml mr, some (.int rr)) (mws E mk mo mm mt mv mx mp mtd mf ms md mdd mn mst mpl mbb ma me mb mba mpg mdi mbl mby mw mz mso mbo mco mcd ml mr) 233 [some (.ref (ea E 0)), some (.int v1), some (.int v2), some (.int v3), none, none, none, none, none, none, none, none, none, none] []) : ∀ (n : Nat) (v3 : Int32) (v13 : Int32) (mn : Nat → Int64), itr3 (p_X6_readRuns_L208 v7 v11 k233) n v3 v13 mn = some (rr, mnz, maz, mbz, mbaz, mblz, mbyz) → GG κ E (mws E mk mo mm mt mv mx mp mtd mf ms md mdd mnz mst mpl mbb maz me mbz mbaz mpg mdi mblz mbyz mw mz mso mbo mco mcd ml mr, some (.int rr)) (mws E mk mo mm mt mv mx mp mtd mf ms md mdd mn mst mpl mbb ma me mb mba mpg mdi mbl mby mw mz mso mbo mco mcd ml mr) 208 [some (.ref (ea E 0)), some (.int v1), some (.int v2), some (.int v3), none, none, none, some (.long v7), none, none, none, some (.long v11), none, some (.int v13)] [] :=
  itr3_ind (fun k208 hk208 v3 v13 mn h => by
    unfold p_X6_readRuns_L208 at h
    refine g_iload (pc' := 210) (i := 13) hC dX6_readRuns_208 rfl rfl ?_
    refine g_lload (pc' := 212) (i := 7) hC dX6_readRuns_210 rfl rfl ?_
    refine g_l2i (pc' := 213) hC dX6_readRuns_212 rfl ?_
    refine g_icmp_ge (pc' := 216) (tgt := 233) hC dX6_readRuns_213 (by decide) rfl h (fun h => ?_) (fun h => ?_)
    · refine g_aload_n (pc' := 217) (i := 0) hC dX6_readRuns_216 rfl rfl rfl ?_
      refine gf_X6_42 (pc' := 220) hC dX6_readRuns_217 rfl ?_
      refine g_iload_n (pc' := 221) (i := 3) hC dX6_readRuns_220 rfl rfl rfl ?_
      refine g_lload (pc' := 223) (i := 11) hC dX6_readRuns_221 rfl rfl ?_
      obtain ⟨g_21, h⟩ := gd_some h
      refine st_mn (pc' := 224) hC g_21 dX6_readRuns_223 rfl ?_
      refine g_iinc (pc' := 227) (i := 3) (x := v3) (k := (nI 1)) (lo' := [some (.ref (ea E 0)), some (.int v1), some (.int v2), some (.int (v3 + (nI 1))), none, none, none, some (.long v7), none, none, none, some (.long v11), none, some (.int v13)]) hC dX6_readRuns_224 rfl (by decide) rfl rfl rfl rfl ?_
      refine g_iinc (pc' := 230) (i := 13) (x := v13) (k := (nI 1)) (lo' := [some (.ref (ea E 0)), some (.int v1), some (.int v2), some (.int (v3 + (nI 1))), none, none, none, some (.long v7), none, none, none, some (.long v11), none, some (.int (v13 + (nI 1)))]) hC dX6_readRuns_227 rfl (by decide) rfl rfl rfl rfl ?_
      refine g_goto (tgt := 208) hC dX6_readRuns_230 (by decide) ?_
      exact hk208 _ _ _ h
    · refine g_weak (lo' := [some (.ref (ea E 0)), some (.int v1), some (.int v2), some (.int v3), none, none, none, none, none, none, none, none, none, none]) rfl ?_
      exact hk233 _ _ h)
set_option maxRecDepth 200000 in
theorem w_X6_readRuns_L108 {κ : GK} {E : GE} {rr : Int32} {mnz : Nat → Int64} {maz : Int32} {mbz : Int32} {mbaz : Int32} {mblz : Int32} {mbyz : Int32} {v1 : Int32} {v2 : Int32} {v7 : Int64} {k157 : Int32 → (Nat → Int64) → Int32 → Int32 → Int32 → Int32 → Int32 → Option (Int32 × (Nat → Int64) × Int32 × Int32 × Int32 × Int32 × Int32)} (hC : gC κ E cX6_readRuns RX6 (some .boolean) rm_X6_readRuns 14)  (hk157 : ∀ (v3 : Int32) (mn : Nat → Int64) (ma : Int32) (mb : Int32) (mba : Int32) (mbl : Int32) (mby : Int32), k157 v3 mn ma mb mba mbl mby = some (rr, mnz, maz, mbz, mbaz, mblz, mbyz) → GG κ E (mws E mk mo mm mt mv mx mp mtd mf ms md mdd mnz mst mpl mbb maz me mbz mbaz mpg mdi mblz mbyz mw mz mso mbo mco mcd ml mr, some (.int rr)) (mws E mk mo mm mt mv mx mp mtd mf ms md mdd mn mst mpl mbb ma me mb mba mpg mdi mbl mby mw mz mso mbo mco mcd ml mr) 157 [some (.ref (ea E 0)), some (.int v1), some (.int v2), some (.int v3), none, none, none, none, none, none, none, none, none, none] []) : ∀ (n : Nat) (v3 : Int32) (v11 : Int32) (mn : Nat → Int64) (ma : Int32) (mb : Int32) (mba : Int32) (mbl : Int32) (mby : Int32), itr8 (p_X6_readRuns_L108 v1 v2 v7 mf me k157) n v3 v11 mn ma mb mba mbl mby = some (rr, mnz, maz, mbz, mbaz, mblz, mbyz) → GG κ E (mws E mk mo mm mt mv mx mp mtd mf ms md mdd mnz mst mpl mbb maz me mbz mbaz mpg mdi mblz mbyz mw mz mso mbo mco mcd ml mr, some (.int rr)) (mws E mk mo mm mt mv mx mp mtd mf ms md mdd mn mst mpl mbb ma me mb mba mpg mdi mbl mby mw mz mso mbo mco mcd ml mr) 108 [some (.ref (ea E 0)), some (.int v1), some (.int v2), some (.int v3), none, none, none, some (.long v7), none, none, none, some (.int v11), none, none] [] :=
  itr8_ind (fun k108 hk108 v3 v11 mn ma mb mba mbl mby h => by
    unfold p_X6_readRuns_L108 at h
    refine g_iload (pc' := 110) (i := 11) hC dX6_readRuns_108 rfl rfl ?_
    refine g_bipush (pc' := 112) (v := (nI 8)) hC dX6_readRuns_110 (by decide) rfl ?_
    refine g_lload (pc' := 114) (i := 7) hC dX6_readRuns_112 rfl rfl ?_
    refine g_l2i (pc' := 115) hC dX6_readRuns_114 rfl ?_
    refine g_imul (pc' := 116) hC dX6_readRuns_115 rfl ?_
    refine g_icmp_ge (pc' := 119) (tgt := 157) hC dX6_readRuns_116 (by decide) rfl h (fun h => ?_) (fun h => ?_)
    · refine g_aload_n (pc' := 120) (i := 0) hC dX6_readRuns_119 rfl rfl rfl ?_
      refine g_iload_n (pc' := 121) (i := 2) hC dX6_readRuns_120 rfl rfl rfl ?_
      obtain ⟨a_29, ma_30, mb_31, mba_32, mbl_33, mby_34, hc_35, h⟩ := bd6_some h
      refine g_callV (pc' := 124) hC (c_X6_readPacked _ hc_35) ml_X6_198 (rc_M) (by decide) rfl rfl rfl rfl dX6_readRuns_121 rfl ?_
      refine g_lstore (pc' := 126) (i := 12) (lo' := [some (.ref (ea E 0)), some (.int v1), some (.int v2), some (.int v3), none, none, none, some (.long v7), none, none, none, some (.int v11), some (.long a_29), none]) hC dX6_readRuns_124 rfl rfl rfl rfl ?_
      refine g_aload_n (pc' := 127) (i := 0) hC dX6_readRuns_126 rfl rfl rfl ?_
      refine gf_X6_169 (pc' := 130) hC dX6_readRuns_127 rfl ?_
      refine g_if_eq (pc' := 133) (tgt := 135) hC dX6_readRuns_130 (by decide) rfl h (fun h => ?_) (fun h => ?_)
      · refine g_iload_n (pc' := 136) (i := 3) hC dX6_readRuns_135 rfl rfl rfl ?_
        refine g_iload_n (pc' := 137) (i := 1) hC dX6_readRuns_136 rfl rfl rfl ?_
        refine g_icmp_ge (pc' := 140) (tgt := 151) hC dX6_readRuns_137 (by decide) rfl h (fun h => ?_) (fun h => ?_)
        · refine g_aload_n (pc' := 141) (i := 0) hC dX6_readRuns_140 rfl rfl rfl ?_
          refine gf_X6_42 (pc' := 144) hC dX6_readRuns_141 rfl ?_
          refine g_iload_n (pc' := 145) (i := 3) hC dX6_readRuns_144 rfl rfl rfl ?_
          refine g_lload (pc' := 147) (i := 12) hC dX6_readRuns_145 rfl rfl ?_
          obtain ⟨g_36, h⟩ := gd_some h
          refine st_mn (pc' := 148) hC g_36 dX6_readRuns_147 rfl ?_
          refine g_iinc (pc' := 151) (i := 3) (x := v3) (k := (nI 1)) (lo' := [some (.ref (ea E 0)), some (.int v1), some (.int v2), some (.int (v3 + (nI 1))), none, none, none, some (.long v7), none, none, none, some (.int v11), some (.long a_29), none]) hC dX6_readRuns_148 rfl (by decide) rfl rfl rfl rfl ?_
          refine g_iinc (pc' := 154) (i := 11) (x := v11) (k := (nI 1)) (lo' := [some (.ref (ea E 0)), some (.int v1), some (.int v2), some (.int (v3 + (nI 1))), none, none, none, some (.long v7), none, none, none, some (.int (v11 + (nI 1))), some (.long a_29), none]) hC dX6_readRuns_151 rfl (by decide) rfl rfl rfl rfl ?_
          refine g_goto (tgt := 108) hC dX6_readRuns_154 (by decide) ?_
          refine g_weak (lo' := [some (.ref (ea E 0)), some (.int v1), some (.int v2), some (.int (v3 + (nI 1))), none, none, none, some (.long v7), none, none, none, some (.int (v11 + (nI 1))), none, none]) rfl ?_
          exact hk108 _ _ _ _ _ _ _ _ h
        · refine g_iinc (pc' := 154) (i := 11) (x := v11) (k := (nI 1)) (lo' := [some (.ref (ea E 0)), some (.int v1), some (.int v2), some (.int v3), none, none, none, some (.long v7), none, none, none, some (.int (v11 + (nI 1))), some (.long a_29), none]) hC dX6_readRuns_151 rfl (by decide) rfl rfl rfl rfl ?_
          refine g_goto (tgt := 108) hC dX6_readRuns_154 (by decide) ?_
          refine g_weak (lo' := [some (.ref (ea E 0)), some (.int v1), some (.int v2), some (.int v3), none, none, none, some (.long v7), none, none, none, some (.int (v11 + (nI 1))), none, none]) rfl ?_
          exact hk108 _ _ _ _ _ _ _ _ h
      · refine g_iconst (pc' := 134) (v := (nI 0)) hC dX6_readRuns_133 (by decide) rfl ?_
        obtain ⟨rfl, rfl, rfl, rfl, rfl, rfl, rfl⟩ := inj7 h; exact g_zret hC (by decide) dX6_readRuns_134
    · refine g_weak (lo' := [some (.ref (ea E 0)), some (.int v1), some (.int v2), some (.int v3), none, none, none, none, none, none, none, none, none, none]) rfl ?_
      exact hk157 _ _ _ _ _ _ _ h)
set_option maxRecDepth 200000 in
theorem w_X6_readRuns_J82 {κ : GK} {E : GE} {rr : Int32} {mnz : Nat → Int64} {maz : Int32} {mbz : Int32} {mbaz : Int32} {mblz : Int32} {mbyz : Int32} {v1 : Int32} {v2 : Int32} {v3 : Int32} {v4 : Int32} {v7 : Int64} {v9 : Int32} {s0 : Int64} {s1 : Int32} {k2 : Int32 → (Nat → Int64) → Int32 → Int32 → Int32 → Int32 → Int32 → Option (Int32 × (Nat → Int64) × Int32 × Int32 × Int32 × Int32 × Int32)} (hC : gC κ E cX6_readRuns RX6 (some .boolean) rm_X6_readRuns 14)  (hk2 : ∀ (v3 : Int32) (mn : Nat → Int64) (ma : Int32) (mb : Int32) (mba : Int32) (mbl : Int32) (mby : Int32), k2 v3 mn ma mb mba mbl mby = some (rr, mnz, maz, mbz, mbaz, mblz, mbyz) → GG κ E (mws E mk mo mm mt mv mx mp mtd mf ms md mdd mnz mst mpl mbb maz me mbz mbaz mpg mdi mblz mbyz mw mz mso mbo mco mcd ml mr, some (.int rr)) (mws E mk mo mm mt mv mx mp mtd mf ms md mdd mn mst mpl mbb ma me mb mba mpg mdi mbl mby mw mz mso mbo mco mcd ml mr) 2 [some (.ref (ea E 0)), some (.int v1), some (.int v2), some (.int v3), none, none, none, none, none, none, none, none, none, none] []) (h : p_X6_readRuns_J82 v1 v2 v3 v4 v7 v9 s0 s1 mf mn ma me mb mba mbl mby k2 = some (rr, mnz, maz, mbz, mbaz, mblz, mbyz)) : GG κ E (mws E mk mo mm mt mv mx mp mtd mf ms md mdd mnz mst mpl mbb maz me mbz mbaz mpg mdi mblz mbyz mw mz mso mbo mco mcd ml mr, some (.int rr)) (mws E mk mo mm mt mv mx mp mtd mf ms md mdd mn mst mpl mbb ma me mb mba mpg mdi mbl mby mw mz mso mbo mco mcd ml mr) 82 [some (.ref (ea E 0)), some (.int v1), some (.int v2), some (.int v3), some (.int v4), none, none, some (.long v7), none, some (.int v9), none, none, none, none] [.int s1, .long s0] := by
  unfold p_X6_readRuns_J82 at h
  refine g_i2l (pc' := 83) hC dX6_readRuns_82 rfl ?_
  refine g_lcmp_le (pc' := 87) (tgt := 95) hC dX6_readRuns_83 dX6_readRuns_84 rfl (by decide) rfl h (fun h => ?_) (fun h => ?_)
  · refine g_aload_n (pc' := 88) (i := 0) hC dX6_readRuns_87 rfl rfl rfl ?_
    refine g_iconst (pc' := 89) (v := (nI 3)) hC dX6_readRuns_88 (by decide) rfl ?_
    refine g_iload (pc' := 91) (i := 4) hC dX6_readRuns_89 rfl rfl ?_
    obtain ⟨a_11, mb_12, mba_13, hc_14, h⟩ := bd3_some h
    refine g_callV (pc' := 94) hC (c_X6_fails _ hc_14) ml_X6_181 (rc_M) (by decide) rfl rfl rfl rfl dX6_readRuns_91 rfl ?_
    obtain ⟨g_15, h⟩ := gd_some h
    obtain ⟨rfl, rfl, rfl, rfl, rfl, rfl, rfl⟩ := inj7 h; exact g_zret hC g_15 dX6_readRuns_94
  · refine g_iload (pc' := 97) (i := 9) hC dX6_readRuns_95 rfl rfl ?_
    refine g_if_eq (pc' := 100) (tgt := 160) hC dX6_readRuns_97 (by decide) rfl h (fun h => ?_) (fun h => ?_)
    · refine g_aload_n (pc' := 161) (i := 0) hC dX6_readRuns_160 rfl rfl rfl ?_
      refine gf_X6_175 (pc' := 164) hC dX6_readRuns_161 rfl ?_
      refine g_istore (pc' := 166) (i := 4) (lo' := [some (.ref (ea E 0)), some (.int v1), some (.int v2), some (.int v3), some (.int ma), none, none, some (.long v7), none, some (.int v9), none, none, none, none]) hC dX6_readRuns_164 rfl rfl rfl rfl ?_
      refine g_aload_n (pc' := 167) (i := 0) hC dX6_readRuns_166 rfl rfl rfl ?_
      refine g_iload_n (pc' := 168) (i := 2) hC dX6_readRuns_167 rfl rfl rfl ?_
      refine g_bipush (pc' := 170) (v := (nI 7)) hC dX6_readRuns_168 (by decide) rfl ?_
      refine g_iadd (pc' := 171) hC dX6_readRuns_170 rfl ?_
      refine g_bipush (pc' := 173) (v := (nI 8)) hC dX6_readRuns_171 (by decide) rfl ?_
      refine g_idiv (pc' := 174) hC dX6_readRuns_173 (by decide) rfl ?_
      obtain ⟨a_16, ma_17, mb_18, mba_19, hc_20, h⟩ := bd4_some h
      refine g_callV (pc' := 177) hC (c_X6_readBytes _ hc_20) ml_X6_202 (rc_M) (by decide) rfl rfl rfl rfl dX6_readRuns_174 rfl ?_
      refine g_lstore (pc' := 179) (i := 11) (lo' := [some (.ref (ea E 0)), some (.int v1), some (.int v2), some (.int v3), some (.int ma), none, none, some (.long v7), none, some (.int v9), none, some (.long a_16), none, none]) hC dX6_readRuns_177 rfl rfl rfl rfl ?_
      refine g_aload_n (pc' := 180) (i := 0) hC dX6_readRuns_179 rfl rfl rfl ?_
      refine gf_X6_169 (pc' := 183) hC dX6_readRuns_180 rfl ?_
      refine g_if_eq (pc' := 186) (tgt := 188) hC dX6_readRuns_183 (by decide) rfl h (fun h => ?_) (fun h => ?_)
      · refine g_lload (pc' := 190) (i := 11) hC dX6_readRuns_188 rfl rfl ?_
        refine g_iload_n (pc' := 191) (i := 2) hC dX6_readRuns_190 rfl rfl rfl ?_
        refine g_lushr (pc' := 192) hC dX6_readRuns_191 rfl ?_
        refine g_lconst (pc' := 193) (v := (lN 0)) hC dX6_readRuns_192 (by decide) rfl ?_
        refine g_lcmp_eq (pc' := 197) (tgt := 205) hC dX6_readRuns_193 dX6_readRuns_194 rfl (by decide) rfl h (fun h => ?_) (fun h => ?_)
        · refine g_iconst (pc' := 206) (v := (nI 0)) hC dX6_readRuns_205 (by decide) rfl ?_
          refine g_istore (pc' := 208) (i := 13) (lo' := [some (.ref (ea E 0)), some (.int v1), some (.int v2), some (.int v3), some (.int ma), none, none, some (.long v7), none, some (.int v9), none, some (.long a_16), none, some (.int (nI 0))]) hC dX6_readRuns_206 rfl rfl rfl rfl ?_
          refine g_weak (lo' := [some (.ref (ea E 0)), some (.int v1), some (.int v2), some (.int v3), none, none, none, some (.long v7), none, none, none, some (.long a_16), none, some (.int (nI 0))]) rfl ?_
          refine w_X6_readRuns_L208 hC  ?_ _ _ _ _ h
          · intro v3_22 mn_23 h
            refine g_goto (tgt := 2) hC dX6_readRuns_233 (by decide) ?_
            exact hk2 _ _ _ _ _ _ _ h
        · refine g_aload_n (pc' := 198) (i := 0) hC dX6_readRuns_197 rfl rfl rfl ?_
          refine g_iconst (pc' := 199) (v := (nI 4)) hC dX6_readRuns_198 (by decide) rfl ?_
          refine g_iload (pc' := 201) (i := 4) hC dX6_readRuns_199 rfl rfl ?_
          obtain ⟨a_24, mb_25, mba_26, hc_27, h⟩ := bd3_some h
          refine g_callV (pc' := 204) hC (c_X6_fails _ hc_27) ml_X6_181 (rc_M) (by decide) rfl rfl rfl rfl dX6_readRuns_201 rfl ?_
          obtain ⟨g_28, h⟩ := gd_some h
          obtain ⟨rfl, rfl, rfl, rfl, rfl, rfl, rfl⟩ := inj7 h; exact g_zret hC g_28 dX6_readRuns_204
      · refine g_iconst (pc' := 187) (v := (nI 0)) hC dX6_readRuns_186 (by decide) rfl ?_
        obtain ⟨rfl, rfl, rfl, rfl, rfl, rfl, rfl⟩ := inj7 h; exact g_zret hC (by decide) dX6_readRuns_187
    · refine g_aload_n (pc' := 101) (i := 0) hC dX6_readRuns_100 rfl rfl rfl ?_
      refine g_iconst (pc' := 102) (v := (nI 0)) hC dX6_readRuns_101 (by decide) rfl ?_
      refine pf_X6_192 (pc' := 105) hC dX6_readRuns_102 rfl ?_
      refine g_iconst (pc' := 106) (v := (nI 0)) hC dX6_readRuns_105 (by decide) rfl ?_
      refine g_istore (pc' := 108) (i := 11) (lo' := [some (.ref (ea E 0)), some (.int v1), some (.int v2), some (.int v3), some (.int v4), none, none, some (.long v7), none, some (.int v9), none, some (.int (nI 0)), none, none]) hC dX6_readRuns_106 rfl rfl rfl rfl ?_
      refine g_weak (lo' := [some (.ref (ea E 0)), some (.int v1), some (.int v2), some (.int v3), none, none, none, some (.long v7), none, none, none, some (.int (nI 0)), none, none]) rfl ?_
      refine w_X6_readRuns_L108 hC  ?_ _ _ _ _ _ _ _ _ _ h
      · intro v3_37 mn_38 ma_39 mb_40 mba_41 mbl_42 mby_43 h
        refine g_goto (tgt := 233) hC dX6_readRuns_157 (by decide) ?_
        refine g_goto (tgt := 2) hC dX6_readRuns_233 (by decide) ?_
        exact hk2 _ _ _ _ _ _ _ h
set_option maxRecDepth 200000 in
theorem w_X6_readRuns_J48 {κ : GK} {E : GE} {rr : Int32} {mnz : Nat → Int64} {maz : Int32} {mbz : Int32} {mbaz : Int32} {mblz : Int32} {mbyz : Int32} {v1 : Int32} {v2 : Int32} {v3 : Int32} {v4 : Int32} {v7 : Int64} {s0 : Int32} {k2 : Int32 → (Nat → Int64) → Int32 → Int32 → Int32 → Int32 → Int32 → Option (Int32 × (Nat → Int64) × Int32 × Int32 × Int32 × Int32 × Int32)} (hC : gC κ E cX6_readRuns RX6 (some .boolean) rm_X6_readRuns 14)  (hk2 : ∀ (v3 : Int32) (mn : Nat → Int64) (ma : Int32) (mb : Int32) (mba : Int32) (mbl : Int32) (mby : Int32), k2 v3 mn ma mb mba mbl mby = some (rr, mnz, maz, mbz, mbaz, mblz, mbyz) → GG κ E (mws E mk mo mm mt mv mx mp mtd mf ms md mdd mnz mst mpl mbb maz me mbz mbaz mpg mdi mblz mbyz mw mz mso mbo mco mcd ml mr, some (.int rr)) (mws E mk mo mm mt mv mx mp mtd mf ms md mdd mn mst mpl mbb ma me mb mba mpg mdi mbl mby mw mz mso mbo mco mcd ml mr) 2 [some (.ref (ea E 0)), some (.int v1), some (.int v2), some (.int v3), none, none, none, none, none, none, none, none, none, none] []) (h : p_X6_readRuns_J48 v1 v2 v3 v4 v7 s0 mf mn ma me mb mba mbl mby k2 = some (rr, mnz, maz, mbz, mbaz, mblz, mbyz)) : GG κ E (mws E mk mo mm mt mv mx mp mtd mf ms md mdd mnz mst mpl mbb maz me mbz mbaz mpg mdi mblz mbyz mw mz mso mbo mco mcd ml mr, some (.int rr)) (mws E mk mo mm mt mv mx mp mtd mf ms md mdd mn mst mpl mbb ma me mb mba mpg mdi mbl mby mw mz mso mbo mco mcd ml mr) 48 [some (.ref (ea E 0)), some (.int v1), some (.int v2), some (.int v3), some (.int v4), none, none, some (.long v7), none, none, none, none, none, none] [.int s0] := by
  unfold p_X6_readRuns_J48 at h
  refine g_istore (pc' := 50) (i := 9) (lo' := [some (.ref (ea E 0)), some (.int v1), some (.int v2), some (.int v3), some (.int v4), none, none, some (.long v7), none, some (.int s0), none, none, none, none]) hC dX6_readRuns_48 rfl rfl rfl rfl ?_
  refine g_iload_n (pc' := 51) (i := 1) hC dX6_readRuns_50 rfl rfl rfl ?_
  refine g_iload_n (pc' := 52) (i := 3) hC dX6_readRuns_51 rfl rfl rfl ?_
  refine g_isub (pc' := 53) hC dX6_readRuns_52 rfl ?_
  refine g_istore (pc' := 55) (i := 10) (lo' := [some (.ref (ea E 0)), some (.int v1), some (.int v2), some (.int v3), some (.int v4), none, none, some (.long v7), none, some (.int s0), some (.int (v1 - v3)), none, none, none]) hC dX6_readRuns_53 rfl rfl rfl rfl ?_
  refine g_lload (pc' := 57) (i := 7) hC dX6_readRuns_55 rfl rfl ?_
  refine g_lconst (pc' := 58) (v := (lN 0)) hC dX6_readRuns_57 (by decide) rfl ?_
  refine g_lcmp_eq (pc' := 62) (tgt := 87) hC dX6_readRuns_58 dX6_readRuns_59 rfl (by decide) rfl h (fun h => ?_) (fun h => ?_)
  · refine g_aload_n (pc' := 88) (i := 0) hC dX6_readRuns_87 rfl rfl rfl ?_
    refine g_iconst (pc' := 89) (v := (nI 3)) hC dX6_readRuns_88 (by decide) rfl ?_
    refine g_iload (pc' := 91) (i := 4) hC dX6_readRuns_89 rfl rfl ?_
    obtain ⟨a_6, mb_7, mba_8, hc_9, h⟩ := bd3_some h
    refine g_callV (pc' := 94) hC (c_X6_fails _ hc_9) ml_X6_181 (rc_M) (by decide) rfl rfl rfl rfl dX6_readRuns_91 rfl ?_
    obtain ⟨g_10, h⟩ := gd_some h
    obtain ⟨rfl, rfl, rfl, rfl, rfl, rfl, rfl⟩ := inj7 h; exact g_zret hC g_10 dX6_readRuns_94
  · refine g_lload (pc' := 64) (i := 7) hC dX6_readRuns_62 rfl rfl ?_
    refine g_iload (pc' := 66) (i := 9) hC dX6_readRuns_64 rfl rfl ?_
    refine g_if_eq (pc' := 69) (tgt := 80) hC dX6_readRuns_66 (by decide) rfl h (fun h => ?_) (fun h => ?_)
    · refine g_iload (pc' := 82) (i := 10) hC dX6_readRuns_80 rfl rfl ?_
      refine g_weak (lo' := [some (.ref (ea E 0)), some (.int v1), some (.int v2), some (.int v3), some (.int v4), none, none, some (.long v7), none, some (.int s0), none, none, none, none]) rfl ?_
      exact w_X6_readRuns_J82 hC  hk2 h
    · refine g_iload (pc' := 71) (i := 10) hC dX6_readRuns_69 rfl rfl ?_
      refine g_bipush (pc' := 73) (v := (nI 7)) hC dX6_readRuns_71 (by decide) rfl ?_
      refine g_iadd (pc' := 74) hC dX6_readRuns_73 rfl ?_
      refine g_bipush (pc' := 76) (v := (nI 8)) hC dX6_readRuns_74 (by decide) rfl ?_
      refine g_idiv (pc' := 77) hC dX6_readRuns_76 (by decide) rfl ?_
      refine g_goto (tgt := 82) hC dX6_readRuns_77 (by decide) ?_
      refine g_weak (lo' := [some (.ref (ea E 0)), some (.int v1), some (.int v2), some (.int v3), some (.int v4), none, none, some (.long v7), none, some (.int s0), none, none, none, none]) rfl ?_
      exact w_X6_readRuns_J82 hC  hk2 h
set_option maxRecDepth 200000 in
theorem w_X6_readRuns_L2 {κ : GK} {E : GE} {rr : Int32} {mnz : Nat → Int64} {maz : Int32} {mbz : Int32} {mbaz : Int32} {mblz : Int32} {mbyz : Int32} {v1 : Int32} {v2 : Int32}  (hC : gC κ E cX6_readRuns RX6 (some .boolean) rm_X6_readRuns 14)   : ∀ (n : Nat) (v3 : Int32) (mn : Nat → Int64) (ma : Int32) (mb : Int32) (mba : Int32) (mbl : Int32) (mby : Int32), itr7 (p_X6_readRuns_L2 v1 v2 mf me) n v3 mn ma mb mba mbl mby = some (rr, mnz, maz, mbz, mbaz, mblz, mbyz) → GG κ E (mws E mk mo mm mt mv mx mp mtd mf ms md mdd mnz mst mpl mbb maz me mbz mbaz mpg mdi mblz mbyz mw mz mso mbo mco mcd ml mr, some (.int rr)) (mws E mk mo mm mt mv mx mp mtd mf ms md mdd mn mst mpl mbb ma me mb mba mpg mdi mbl mby mw mz mso mbo mco mcd ml mr) 2 [some (.ref (ea E 0)), some (.int v1), some (.int v2), some (.int v3), none, none, none, none, none, none, none, none, none, none] [] :=
  itr7_ind (fun k2 hk2 v3 mn ma mb mba mbl mby h => by
    unfold p_X6_readRuns_L2 at h
    refine g_iload_n (pc' := 3) (i := 3) hC dX6_readRuns_2 rfl rfl rfl ?_
    refine g_iload_n (pc' := 4) (i := 1) hC dX6_readRuns_3 rfl rfl rfl ?_
    refine g_icmp_ge (pc' := 7) (tgt := 236) hC dX6_readRuns_4 (by decide) rfl h (fun h => ?_) (fun h => ?_)
    · refine g_aload_n (pc' := 8) (i := 0) hC dX6_readRuns_7 rfl rfl rfl ?_
      refine gf_X6_175 (pc' := 11) hC dX6_readRuns_8 rfl ?_
      refine g_istore (pc' := 13) (i := 4) (lo' := [some (.ref (ea E 0)), some (.int v1), some (.int v2), some (.int v3), some (.int ma), none, none, none, none, none, none, none, none, none]) hC dX6_readRuns_11 rfl rfl rfl rfl ?_
      refine g_aload_n (pc' := 14) (i := 0) hC dX6_readRuns_13 rfl rfl rfl ?_
      obtain ⟨a_1, ma_2, mb_3, mba_4, hc_5, h⟩ := bd4_some h
      refine g_callV (pc' := 17) hC (c_X6_readVar _ hc_5) ml_X6_188 (rc_M) (by decide) rfl rfl rfl rfl dX6_readRuns_14 rfl ?_
      refine g_lstore (pc' := 19) (i := 5) (lo' := [some (.ref (ea E 0)), some (.int v1), some (.int v2), some (.int v3), some (.int ma), some (.long a_1), none, none, none, none, none, none, none, none]) hC dX6_readRuns_17 rfl rfl rfl rfl ?_
      refine g_aload_n (pc' := 20) (i := 0) hC dX6_readRuns_19 rfl rfl rfl ?_
      refine gf_X6_169 (pc' := 23) hC dX6_readRuns_20 rfl ?_
      refine g_if_eq (pc' := 26) (tgt := 28) hC dX6_readRuns_23 (by decide) rfl h (fun h => ?_) (fun h => ?_)
      · refine g_lload (pc' := 30) (i := 5) hC dX6_readRuns_28 rfl rfl ?_
        refine g_iconst (pc' := 31) (v := (nI 1)) hC dX6_readRuns_30 (by decide) rfl ?_
        refine g_lushr (pc' := 32) hC dX6_readRuns_31 rfl ?_
        refine g_lstore (pc' := 34) (i := 7) (lo' := [some (.ref (ea E 0)), some (.int v1), some (.int v2), some (.int v3), some (.int ma), some (.long a_1), none, some (.long (lushr a_1 (nI 1))), none, none, none, none, none, none]) hC dX6_readRuns_32 rfl rfl rfl rfl ?_
        refine g_lload (pc' := 36) (i := 5) hC dX6_readRuns_34 rfl rfl ?_
        refine g_lconst (pc' := 37) (v := (lN 1)) hC dX6_readRuns_36 (by decide) rfl ?_
        refine g_land (pc' := 38) hC dX6_readRuns_37 rfl ?_
        refine g_lconst (pc' := 39) (v := (lN 1)) hC dX6_readRuns_38 (by decide) rfl ?_
        refine g_lcmp_ne (pc' := 43) (tgt := 47) hC dX6_readRuns_39 dX6_readRuns_40 rfl (by decide) rfl h (fun h => ?_) (fun h => ?_)
        · refine g_iconst (pc' := 44) (v := (nI 1)) hC dX6_readRuns_43 (by decide) rfl ?_
          refine g_goto (tgt := 48) hC dX6_readRuns_44 (by decide) ?_
          refine g_weak (lo' := [some (.ref (ea E 0)), some (.int v1), some (.int v2), some (.int v3), some (.int ma), none, none, some (.long (lushr a_1 (nI 1))), none, none, none, none, none, none]) rfl ?_
          exact w_X6_readRuns_J48 hC  hk2 h
        · refine g_iconst (pc' := 48) (v := (nI 0)) hC dX6_readRuns_47 (by decide) rfl ?_
          refine g_weak (lo' := [some (.ref (ea E 0)), some (.int v1), some (.int v2), some (.int v3), some (.int ma), none, none, some (.long (lushr a_1 (nI 1))), none, none, none, none, none, none]) rfl ?_
          exact w_X6_readRuns_J48 hC  hk2 h
      · refine g_iconst (pc' := 27) (v := (nI 0)) hC dX6_readRuns_26 (by decide) rfl ?_
        obtain ⟨rfl, rfl, rfl, rfl, rfl, rfl, rfl⟩ := inj7 h; exact g_zret hC (by decide) dX6_readRuns_27
    · refine g_iconst (pc' := 237) (v := (nI 1)) hC dX6_readRuns_236 (by decide) rfl ?_
      obtain ⟨rfl, rfl, rfl, rfl, rfl, rfl, rfl⟩ := inj7 h; exact g_zret hC (by decide) dX6_readRuns_237)
set_option maxRecDepth 200000 in
theorem c_X6_readRuns (l : Launch) {E : GE} {rr : Int32} {mnz : Nat → Int64} {maz : Int32} {mbz : Int32} {mbaz : Int32} {mblz : Int32} {mbyz : Int32} {v1 : Int32} {v2 : Int32}  (h : p_X6_readRuns v1 v2 mf mn ma me mb mba mbl mby = some (rr, mnz, maz, mbz, mbaz, mblz, mbyz)) : Met l yX6_readRuns (.code yX6_readRuns cX6_readRuns 14 (some .boolean) :: gU) rm_X6_readRuns (gP E (mws E mk mo mm mt mv mx mp mtd mf ms md mdd mn mst mpl mbb ma me mb mba mpg mdi mbl mby mw mz mso mbo mco mcd ml mr) [.ref (ea E 0), .int v1, .int v2]) (gQ E (mws E mk mo mm mt mv mx mp mtd mf ms md mdd mnz mst mpl mbb maz me mbz mbaz mpg mdi mblz mbyz mw mz mso mbo mco mcd ml mr) (some (.int rr))) 0 0 E.2.2.1 := by
  refine met_of (y := yX6_readRuns) (own := RX6) (lo := [some (.ref (ea E 0)), some (.int v1), some (.int v2), none, none, none, none, none, none, none, none, none, none, none]) (by decide) rfl rfl rfl (fun κ hl hC => ?_)
  subst hl
  unfold p_X6_readRuns at h
  refine g_iconst (pc' := 1) (v := (nI 0)) hC dX6_readRuns_0 (by decide) rfl ?_
  refine g_istore_n (pc' := 2) (i := 3) (lo' := [some (.ref (ea E 0)), some (.int v1), some (.int v2), some (.int (nI 0)), none, none, none, none, none, none, none, none, none, none]) hC dX6_readRuns_1 rfl rfl rfl rfl rfl ?_
  refine w_X6_readRuns_L2 hC   _ _ _ _ _ _ _ _ h
set_option maxRecDepth 200000 in
theorem c_X6_wants (l : Launch) {E : GE} {rr : Int32} {maz : Int32} {mbz : Int32} {mbaz : Int32} {v1 : Int64} {v3 : Int32}  (h : p_X6_wants v1 v3 mf ma me mb mba = some (rr, maz, mbz, mbaz)) : Met l yX6_wants (.code yX6_wants cX6_wants 6 (some .boolean) :: gU) rm_X6_wants (gP E (mws E mk mo mm mt mv mx mp mtd mf ms md mdd mn mst mpl mbb ma me mb mba mpg mdi mbl mby mw mz mso mbo mco mcd ml mr) [.ref (ea E 0), .long v1, .int v3]) (gQ E (mws E mk mo mm mt mv mx mp mtd mf ms md mdd mn mst mpl mbb maz me mbz mbaz mpg mdi mbl mby mw mz mso mbo mco mcd ml mr) (some (.int rr))) 0 0 E.2.2.1 := by
  refine met_of (y := yX6_wants) (own := RX6) (lo := [some (.ref (ea E 0)), some (.long v1), none, some (.int v3), none, none]) (by decide) rfl rfl rfl (fun κ hl hC => ?_)
  subst hl
  unfold p_X6_wants at h
  refine g_aload_n (pc' := 1) (i := 0) hC dX6_wants_0 rfl rfl rfl ?_
  obtain ⟨a_1, ma_2, mb_3, mba_4, hc_5, h⟩ := bd4_some h
  refine g_callV (pc' := 4) hC (c_X6_readVar _ hc_5) ml_X6_188 (rc_M) (by decide) rfl rfl rfl rfl dX6_wants_1 rfl ?_
  refine g_lstore (pc' := 6) (i := 4) (lo' := [some (.ref (ea E 0)), some (.long v1), none, some (.int v3), some (.long a_1), none]) hC dX6_wants_4 rfl rfl rfl rfl ?_
  refine g_aload_n (pc' := 7) (i := 0) hC dX6_wants_6 rfl rfl rfl ?_
  refine gf_X6_169 (pc' := 10) hC dX6_wants_7 rfl ?_
  refine g_if_ne (pc' := 13) (tgt := 33) hC dX6_wants_10 (by decide) rfl h (fun h => ?_) (fun h => ?_)
  · refine g_lload (pc' := 15) (i := 4) hC dX6_wants_13 rfl rfl ?_
    refine g_lload_n (pc' := 16) (i := 1) hC dX6_wants_15 rfl rfl rfl ?_
    refine g_lcmp_eq (pc' := 20) (tgt := 29) hC dX6_wants_16 dX6_wants_17 rfl (by decide) rfl h (fun h => ?_) (fun h => ?_)
    · refine g_iconst (pc' := 30) (v := (nI 1)) hC dX6_wants_29 (by decide) rfl ?_
      refine g_goto (tgt := 34) hC dX6_wants_30 (by decide) ?_
      obtain ⟨rfl, rfl, rfl, rfl⟩ := inj4 h; exact g_zret hC (by decide) dX6_wants_34
    · refine g_aload_n (pc' := 21) (i := 0) hC dX6_wants_20 rfl rfl rfl ?_
      refine g_iconst (pc' := 22) (v := (nI 5)) hC dX6_wants_21 (by decide) rfl ?_
      refine g_iload_n (pc' := 23) (i := 3) hC dX6_wants_22 rfl rfl rfl ?_
      obtain ⟨a_6, mb_7, mba_8, hc_9, h⟩ := bd3_some h
      refine g_callV (pc' := 26) hC (c_X6_fails _ hc_9) ml_X6_181 (rc_M) (by decide) rfl rfl rfl rfl dX6_wants_23 rfl ?_
      refine g_if_eq (pc' := 29) (tgt := 33) hC dX6_wants_26 (by decide) rfl h (fun h => ?_) (fun h => ?_)
      · refine g_iconst (pc' := 34) (v := (nI 0)) hC dX6_wants_33 (by decide) rfl ?_
        obtain ⟨rfl, rfl, rfl, rfl⟩ := inj4 h; exact g_zret hC (by decide) dX6_wants_34
      · refine g_iconst (pc' := 30) (v := (nI 1)) hC dX6_wants_29 (by decide) rfl ?_
        refine g_goto (tgt := 34) hC dX6_wants_30 (by decide) ?_
        obtain ⟨rfl, rfl, rfl, rfl⟩ := inj4 h; exact g_zret hC (by decide) dX6_wants_34
  · refine g_iconst (pc' := 34) (v := (nI 0)) hC dX6_wants_33 (by decide) rfl ?_
    obtain ⟨rfl, rfl, rfl, rfl⟩ := inj4 h; exact g_zret hC (by decide) dX6_wants_34
end WALK
