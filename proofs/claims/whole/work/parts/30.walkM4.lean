section WALK
variable {mk : Nat → Int32} {mo : Nat → Int32} {mm : Nat → Int32} {mt : Nat → Int32} {mv : Nat → Int64} {mx : Nat → Int32} {mp : Nat → Int32} {mtd : Int32} {mf : Nat → Int32} {ms : Int32} {md : Nat → Int32} {mdd : Int32} {mn : Nat → Int64} {mst : Nat → Int64} {mpl : Nat → Int32} {mbb : Nat → Int32} {ma : Int32} {me : Int32} {mb : Int32} {mba : Int32} {mpg : Int32} {mdi : Int32} {mbl : Int32} {mby : Int32} {mw : Nat → Int32} {mz : Int32} {mso : Int32} {mbo : Int32} {mco : Int32} {mcd : Int32} {ml : Nat → Int32} {mr : Int32}
set_option maxRecDepth 200000 in
theorem w_X6_readDifferences_J201 {κ : GK} {E : GE} {rr : Int32} {mnz : Nat → Int64} {maz : Int32} {mbz : Int32} {mbaz : Int32} {mblz : Int32} {mbyz : Int32} {mwz : Nat → Int32} {v1 : Int32} {v2 : Int32} {v4 : Int64} {v6 : Int32} {v7 : Int32} {v8 : Int64} {v10 : Int32} {v11 : Int32} {s0 : Int32} {s1 : Int32} {k117 : Int32 → Int32 → Int32 → Int32 → (Nat → Int32) → Option (Int32 × (Nat → Int64) × Int32 × Int32 × Int32 × Int32 × Int32 × (Nat → Int32))} (hC : gC κ E cX6_readDifferences RX6 (some .boolean) rm_X6_readDifferences 14)  (hk117 : ∀ (v10 : Int32) (ma : Int32) (mb : Int32) (mba : Int32) (mw : Nat → Int32), k117 v10 ma mb mba mw = some (rr, mnz, maz, mbz, mbaz, mblz, mbyz, mwz) → GG κ E (mws E mk mo mm mt mv mx mp mtd mf ms md mdd mnz mst mpl mbb maz me mbz mbaz mpg mdi mblz mbyz mwz mz mso mbo mco mcd ml mr, some (.int rr)) (mws E mk mo mm mt mv mx mp mtd mf ms md mdd mn mst mpl mbb ma me mb mba mpg mdi mbl mby mw mz mso mbo mco mcd ml mr) 117 [some (.ref (ea E 0)), some (.int v1), some (.int v2), none, some (.long v4), none, some (.int v6), some (.int v7), some (.long v8), none, some (.int v10), none, none, none] []) (h : p_X6_readDifferences_J201 v10 v11 s0 s1 mn ma mb mba mbl mby mw k117 = some (rr, mnz, maz, mbz, mbaz, mblz, mbyz, mwz)) : GG κ E (mws E mk mo mm mt mv mx mp mtd mf ms md mdd mnz mst mpl mbb maz me mbz mbaz mpg mdi mblz mbyz mwz mz mso mbo mco mcd ml mr, some (.int rr)) (mws E mk mo mm mt mv mx mp mtd mf ms md mdd mn mst mpl mbb ma me mb mba mpg mdi mbl mby mw mz mso mbo mco mcd ml mr) 201 [some (.ref (ea E 0)), some (.int v1), some (.int v2), none, some (.long v4), none, some (.int v6), some (.int v7), some (.long v8), none, some (.int v10), some (.int v11), none, none] [.int s1, .int s0] := by
  unfold p_X6_readDifferences_J201 at h
  refine g_icmp_le (pc' := 204) (tgt := 213) hC dX6_readDifferences_201 (by decide) rfl h (fun h => ?_) (fun h => ?_)
  · refine g_aload_n (pc' := 205) (i := 0) hC dX6_readDifferences_204 rfl rfl rfl ?_
    refine g_bipush (pc' := 207) (v := (nI 6)) hC dX6_readDifferences_205 (by decide) rfl ?_
    refine g_iload (pc' := 209) (i := 11) hC dX6_readDifferences_207 rfl rfl ?_
    obtain ⟨a_34, mb_35, mba_36, hc_37, h⟩ := bd3_some h
    refine g_callV (pc' := 212) hC (c_X6_fails _ hc_37) ml_X6_181 (rc_M) (by decide) rfl rfl rfl rfl dX6_readDifferences_209 rfl ?_
    obtain ⟨g_38, h⟩ := gd_some h
    obtain ⟨rfl, rfl, rfl, rfl, rfl, rfl, rfl, rfl⟩ := inj8 h; exact g_zret hC g_38 dX6_readDifferences_212
  · refine g_iinc (pc' := 216) (i := 10) (x := v10) (k := (nI 1)) (lo' := [some (.ref (ea E 0)), some (.int v1), some (.int v2), none, some (.long v4), none, some (.int v6), some (.int v7), some (.long v8), none, some (.int (v10 + (nI 1))), some (.int v11), none, none]) hC dX6_readDifferences_213 rfl (by decide) rfl rfl rfl rfl ?_
    refine g_goto (tgt := 117) hC dX6_readDifferences_216 (by decide) ?_
    refine g_weak (lo' := [some (.ref (ea E 0)), some (.int v1), some (.int v2), none, some (.long v4), none, some (.int v6), some (.int v7), some (.long v8), none, some (.int (v10 + (nI 1))), none, none, none]) rfl ?_
    exact hk117 _ _ _ _ _ h
set_option maxRecDepth 200000 in
theorem w_X6_readDifferences_J165 {κ : GK} {E : GE} {rr : Int32} {mnz : Nat → Int64} {maz : Int32} {mbz : Int32} {mbaz : Int32} {mblz : Int32} {mbyz : Int32} {mwz : Nat → Int32} {v1 : Int32} {v2 : Int32} {v4 : Int64} {v6 : Int32} {v7 : Int32} {v8 : Int64} {v10 : Int32} {v11 : Int32} {s0 : Int32} {k117 : Int32 → Int32 → Int32 → Int32 → (Nat → Int32) → Option (Int32 × (Nat → Int64) × Int32 × Int32 × Int32 × Int32 × Int32 × (Nat → Int32))} (hC : gC κ E cX6_readDifferences RX6 (some .boolean) rm_X6_readDifferences 14)  (hk117 : ∀ (v10 : Int32) (ma : Int32) (mb : Int32) (mba : Int32) (mw : Nat → Int32), k117 v10 ma mb mba mw = some (rr, mnz, maz, mbz, mbaz, mblz, mbyz, mwz) → GG κ E (mws E mk mo mm mt mv mx mp mtd mf ms md mdd mnz mst mpl mbb maz me mbz mbaz mpg mdi mblz mbyz mwz mz mso mbo mco mcd ml mr, some (.int rr)) (mws E mk mo mm mt mv mx mp mtd mf ms md mdd mn mst mpl mbb ma me mb mba mpg mdi mbl mby mw mz mso mbo mco mcd ml mr) 117 [some (.ref (ea E 0)), some (.int v1), some (.int v2), none, some (.long v4), none, some (.int v6), some (.int v7), some (.long v8), none, some (.int v10), none, none, none] []) (h : p_X6_readDifferences_J165 v2 v10 v11 s0 mn ma mb mba mbl mby mw k117 = some (rr, mnz, maz, mbz, mbaz, mblz, mbyz, mwz)) : GG κ E (mws E mk mo mm mt mv mx mp mtd mf ms md mdd mnz mst mpl mbb maz me mbz mbaz mpg mdi mblz mbyz mwz mz mso mbo mco mcd ml mr, some (.int rr)) (mws E mk mo mm mt mv mx mp mtd mf ms md mdd mn mst mpl mbb ma me mb mba mpg mdi mbl mby mw mz mso mbo mco mcd ml mr) 165 [some (.ref (ea E 0)), some (.int v1), some (.int v2), none, some (.long v4), none, some (.int v6), some (.int v7), some (.long v8), none, some (.int v10), some (.int v11), none, none] [.int s0] := by
  unfold p_X6_readDifferences_J165 at h
  refine g_istore (pc' := 167) (i := 12) (lo' := [some (.ref (ea E 0)), some (.int v1), some (.int v2), none, some (.long v4), none, some (.int v6), some (.int v7), some (.long v8), none, some (.int v10), some (.int v11), some (.int s0), none]) hC dX6_readDifferences_165 rfl rfl rfl rfl ?_
  refine g_aload_n (pc' := 168) (i := 0) hC dX6_readDifferences_167 rfl rfl rfl ?_
  refine gf_X6_169 (pc' := 171) hC dX6_readDifferences_168 rfl ?_
  refine g_if_ne (pc' := 174) (tgt := 213) hC dX6_readDifferences_171 (by decide) rfl h (fun h => ?_) (fun h => ?_)
  · refine g_aload_n (pc' := 175) (i := 0) hC dX6_readDifferences_174 rfl rfl rfl ?_
    refine gf_X6_54 (pc' := 178) hC dX6_readDifferences_175 rfl ?_
    refine g_iload (pc' := 180) (i := 10) hC dX6_readDifferences_178 rfl rfl ?_
    obtain ⟨g_33, h⟩ := gd_some h
    refine ld_mw (pc' := 181) hC g_33 dX6_readDifferences_180 rfl ?_
    refine g_iload (pc' := 183) (i := 12) hC dX6_readDifferences_181 rfl rfl ?_
    refine g_if_eq (pc' := 186) (tgt := 200) hC dX6_readDifferences_183 (by decide) rfl h (fun h => ?_) (fun h => ?_)
    · refine g_iconst (pc' := 201) (v := (nI 0)) hC dX6_readDifferences_200 (by decide) rfl ?_
      refine g_weak (lo' := [some (.ref (ea E 0)), some (.int v1), some (.int v2), none, some (.long v4), none, some (.int v6), some (.int v7), some (.long v8), none, some (.int v10), some (.int v11), none, none]) rfl ?_
      exact w_X6_readDifferences_J201 hC  hk117 h
    · refine g_iload_n (pc' := 187) (i := 2) hC dX6_readDifferences_186 rfl rfl rfl ?_
      refine g_if_eq (pc' := 190) (tgt := 195) hC dX6_readDifferences_187 (by decide) rfl h (fun h => ?_) (fun h => ?_)
      · refine g_bipush (pc' := 197) (v := (nI 64)) hC dX6_readDifferences_195 (by decide) rfl ?_
        refine g_goto (tgt := 201) hC dX6_readDifferences_197 (by decide) ?_
        refine g_weak (lo' := [some (.ref (ea E 0)), some (.int v1), some (.int v2), none, some (.long v4), none, some (.int v6), some (.int v7), some (.long v8), none, some (.int v10), some (.int v11), none, none]) rfl ?_
        exact w_X6_readDifferences_J201 hC  hk117 h
      · refine g_bipush (pc' := 192) (v := (nI 32)) hC dX6_readDifferences_190 (by decide) rfl ?_
        refine g_goto (tgt := 201) hC dX6_readDifferences_192 (by decide) ?_
        refine g_weak (lo' := [some (.ref (ea E 0)), some (.int v1), some (.int v2), none, some (.long v4), none, some (.int v6), some (.int v7), some (.long v8), none, some (.int v10), some (.int v11), none, none]) rfl ?_
        exact w_X6_readDifferences_J201 hC  hk117 h
  · refine g_iinc (pc' := 216) (i := 10) (x := v10) (k := (nI 1)) (lo' := [some (.ref (ea E 0)), some (.int v1), some (.int v2), none, some (.long v4), none, some (.int v6), some (.int v7), some (.long v8), none, some (.int (v10 + (nI 1))), some (.int v11), some (.int s0), none]) hC dX6_readDifferences_213 rfl (by decide) rfl rfl rfl rfl ?_
    refine g_goto (tgt := 117) hC dX6_readDifferences_216 (by decide) ?_
    refine g_weak (lo' := [some (.ref (ea E 0)), some (.int v1), some (.int v2), none, some (.long v4), none, some (.int v6), some (.int v7), some (.long v8), none, some (.int (v10 + (nI 1))), none, none, none]) rfl ?_
    exact hk117 _ _ _ _ _ h
set_option maxRecDepth 200000 in
theorem w_X6_readDifferences_L117 {κ : GK} {E : GE} {rr : Int32} {mnz : Nat → Int64} {maz : Int32} {mbz : Int32} {mbaz : Int32} {mblz : Int32} {mbyz : Int32} {mwz : Nat → Int32} {v1 : Int32} {v2 : Int32} {v4 : Int64} {v6 : Int32} {v7 : Int32} {v8 : Int64} {k219 : Int32 → Int32 → Int32 → (Nat → Int32) → Option (Int32 × (Nat → Int64) × Int32 × Int32 × Int32 × Int32 × Int32 × (Nat → Int32))} (hC : gC κ E cX6_readDifferences RX6 (some .boolean) rm_X6_readDifferences 14)  (hk219 : ∀ (ma : Int32) (mb : Int32) (mba : Int32) (mw : Nat → Int32), k219 ma mb mba mw = some (rr, mnz, maz, mbz, mbaz, mblz, mbyz, mwz) → GG κ E (mws E mk mo mm mt mv mx mp mtd mf ms md mdd mnz mst mpl mbb maz me mbz mbaz mpg mdi mblz mbyz mwz mz mso mbo mco mcd ml mr, some (.int rr)) (mws E mk mo mm mt mv mx mp mtd mf ms md mdd mn mst mpl mbb ma me mb mba mpg mdi mbl mby mw mz mso mbo mco mcd ml mr) 219 [some (.ref (ea E 0)), some (.int v1), some (.int v2), none, some (.long v4), none, some (.int v6), some (.int v7), some (.long v8), none, none, none, none, none] []) : ∀ (n : Nat) (v10 : Int32) (ma : Int32) (mb : Int32) (mba : Int32) (mw : Nat → Int32), itr5 (p_X6_readDifferences_L117 v2 v6 v7 mf mn me mbl mby k219) n v10 ma mb mba mw = some (rr, mnz, maz, mbz, mbaz, mblz, mbyz, mwz) → GG κ E (mws E mk mo mm mt mv mx mp mtd mf ms md mdd mnz mst mpl mbb maz me mbz mbaz mpg mdi mblz mbyz mwz mz mso mbo mco mcd ml mr, some (.int rr)) (mws E mk mo mm mt mv mx mp mtd mf ms md mdd mn mst mpl mbb ma me mb mba mpg mdi mbl mby mw mz mso mbo mco mcd ml mr) 117 [some (.ref (ea E 0)), some (.int v1), some (.int v2), none, some (.long v4), none, some (.int v6), some (.int v7), some (.long v8), none, some (.int v10), none, none, none] [] :=
  itr5_ind (fun k117 hk117 v10 ma mb mba mw h => by
    unfold p_X6_readDifferences_L117 at h
    refine g_iload (pc' := 119) (i := 10) hC dX6_readDifferences_117 rfl rfl ?_
    refine g_iconst (pc' := 120) (v := (nI 4)) hC dX6_readDifferences_119 (by decide) rfl ?_
    refine g_icmp_ge (pc' := 123) (tgt := 219) hC dX6_readDifferences_120 (by decide) rfl h (fun h => ?_) (fun h => ?_)
    · refine g_aload_n (pc' := 124) (i := 0) hC dX6_readDifferences_123 rfl rfl rfl ?_
      refine gf_X6_169 (pc' := 127) hC dX6_readDifferences_124 rfl ?_
      refine g_if_ne (pc' := 130) (tgt := 219) hC dX6_readDifferences_127 (by decide) rfl h (fun h => ?_) (fun h => ?_)
      · refine g_aload_n (pc' := 131) (i := 0) hC dX6_readDifferences_130 rfl rfl rfl ?_
        refine gf_X6_175 (pc' := 134) hC dX6_readDifferences_131 rfl ?_
        refine g_istore (pc' := 136) (i := 11) (lo' := [some (.ref (ea E 0)), some (.int v1), some (.int v2), none, some (.long v4), none, some (.int v6), some (.int v7), some (.long v8), none, some (.int v10), some (.int ma), none, none]) hC dX6_readDifferences_134 rfl rfl rfl rfl ?_
        refine g_aload_n (pc' := 137) (i := 0) hC dX6_readDifferences_136 rfl rfl rfl ?_
        refine gf_X6_54 (pc' := 140) hC dX6_readDifferences_137 rfl ?_
        refine g_iload (pc' := 142) (i := 10) hC dX6_readDifferences_140 rfl rfl ?_
        refine g_aload_n (pc' := 143) (i := 0) hC dX6_readDifferences_142 rfl rfl rfl ?_
        obtain ⟨a_27, ma_28, mb_29, mba_30, hc_31, h⟩ := bd4_some h
        refine g_callV (pc' := 146) hC (c_X6_next _ hc_31) ml_X6_184 (rc_M) (by decide) rfl rfl rfl rfl dX6_readDifferences_143 rfl ?_
        obtain ⟨g_32, h⟩ := gd_some h
        refine st_mw (pc' := 147) hC g_32 dX6_readDifferences_146 rfl ?_
        refine g_iload (pc' := 149) (i := 6) hC dX6_readDifferences_147 rfl rfl ?_
        refine g_bipush (pc' := 151) (v := (nI 32)) hC dX6_readDifferences_149 (by decide) rfl ?_
        refine g_iload (pc' := 153) (i := 10) hC dX6_readDifferences_151 rfl rfl ?_
        refine g_imul (pc' := 154) hC dX6_readDifferences_153 rfl ?_
        refine g_iadd (pc' := 155) hC dX6_readDifferences_154 rfl ?_
        refine g_iload (pc' := 157) (i := 7) hC dX6_readDifferences_155 rfl rfl ?_
        refine g_icmp_ge (pc' := 160) (tgt := 164) hC dX6_readDifferences_157 (by decide) rfl h (fun h => ?_) (fun h => ?_)
        · refine g_iconst (pc' := 161) (v := (nI 1)) hC dX6_readDifferences_160 (by decide) rfl ?_
          refine g_goto (tgt := 165) hC dX6_readDifferences_161 (by decide) ?_
          exact w_X6_readDifferences_J165 hC  hk117 h
        · refine g_iconst (pc' := 165) (v := (nI 0)) hC dX6_readDifferences_164 (by decide) rfl ?_
          exact w_X6_readDifferences_J165 hC  hk117 h
      · refine g_weak (lo' := [some (.ref (ea E 0)), some (.int v1), some (.int v2), none, some (.long v4), none, some (.int v6), some (.int v7), some (.long v8), none, none, none, none, none]) rfl ?_
        exact hk219 _ _ _ _ h
    · refine g_weak (lo' := [some (.ref (ea E 0)), some (.int v1), some (.int v2), none, some (.long v4), none, some (.int v6), some (.int v7), some (.long v8), none, none, none, none, none]) rfl ?_
      exact hk219 _ _ _ _ h)
set_option maxRecDepth 200000 in
theorem w_X6_readDifferences_L250 {κ : GK} {E : GE} {rr : Int32} {mnz : Nat → Int64} {maz : Int32} {mbz : Int32} {mbaz : Int32} {mblz : Int32} {mbyz : Int32} {mwz : Nat → Int32} {v1 : Int32} {v2 : Int32} {v6 : Int32} {v7 : Int32} {v8 : Int64} {v10 : Int32} {k346 : Int64 → (Nat → Int64) → Int32 → Int32 → Int32 → Int32 → Int32 → Option (Int32 × (Nat → Int64) × Int32 × Int32 × Int32 × Int32 × Int32 × (Nat → Int32))} (hC : gC κ E cX6_readDifferences RX6 (some .boolean) rm_X6_readDifferences 14)  (hk346 : ∀ (v4 : Int64) (mn : Nat → Int64) (ma : Int32) (mb : Int32) (mba : Int32) (mbl : Int32) (mby : Int32), k346 v4 mn ma mb mba mbl mby = some (rr, mnz, maz, mbz, mbaz, mblz, mbyz, mwz) → GG κ E (mws E mk mo mm mt mv mx mp mtd mf ms md mdd mnz mst mpl mbb maz me mbz mbaz mpg mdi mblz mbyz mwz mz mso mbo mco mcd ml mr, some (.int rr)) (mws E mk mo mm mt mv mx mp mtd mf ms md mdd mn mst mpl mbb ma me mb mba mpg mdi mbl mby mw mz mso mbo mco mcd ml mr) 346 [some (.ref (ea E 0)), some (.int v1), some (.int v2), none, some (.long v4), none, some (.int v6), some (.int v7), some (.long v8), none, some (.int v10), none, none, none] []) : ∀ (n : Nat) (v4 : Int64) (v11 : Int32) (mn : Nat → Int64) (ma : Int32) (mb : Int32) (mba : Int32) (mbl : Int32) (mby : Int32), itr8 (p_X6_readDifferences_L250 v2 v6 v7 v8 v10 mf me mw k346) n v4 v11 mn ma mb mba mbl mby = some (rr, mnz, maz, mbz, mbaz, mblz, mbyz, mwz) → GG κ E (mws E mk mo mm mt mv mx mp mtd mf ms md mdd mnz mst mpl mbb maz me mbz mbaz mpg mdi mblz mbyz mwz mz mso mbo mco mcd ml mr, some (.int rr)) (mws E mk mo mm mt mv mx mp mtd mf ms md mdd mn mst mpl mbb ma me mb mba mpg mdi mbl mby mw mz mso mbo mco mcd ml mr) 250 [some (.ref (ea E 0)), some (.int v1), some (.int v2), none, some (.long v4), none, some (.int v6), some (.int v7), some (.long v8), none, some (.int v10), some (.int v11), none, none] [] :=
  itr8_ind (fun k250 hk250 v4 v11 mn ma mb mba mbl mby h => by
    unfold p_X6_readDifferences_L250 at h
    refine g_iload (pc' := 252) (i := 11) hC dX6_readDifferences_250 rfl rfl ?_
    refine g_iload (pc' := 254) (i := 6) hC dX6_readDifferences_252 rfl rfl ?_
    refine g_bipush (pc' := 256) (v := (nI 32)) hC dX6_readDifferences_254 (by decide) rfl ?_
    refine g_iload (pc' := 258) (i := 10) hC dX6_readDifferences_256 rfl rfl ?_
    refine g_imul (pc' := 259) hC dX6_readDifferences_258 rfl ?_
    refine g_iadd (pc' := 260) hC dX6_readDifferences_259 rfl ?_
    refine g_bipush (pc' := 262) (v := (nI 32)) hC dX6_readDifferences_260 (by decide) rfl ?_
    refine g_iadd (pc' := 263) hC dX6_readDifferences_262 rfl ?_
    refine g_icmp_ge (pc' := 266) (tgt := 346) hC dX6_readDifferences_263 (by decide) rfl h (fun h => ?_) (fun h => ?_)
    · refine g_iload (pc' := 268) (i := 6) hC dX6_readDifferences_266 rfl rfl ?_
      refine g_bipush (pc' := 270) (v := (nI 32)) hC dX6_readDifferences_268 (by decide) rfl ?_
      refine g_iload (pc' := 272) (i := 10) hC dX6_readDifferences_270 rfl rfl ?_
      refine g_imul (pc' := 273) hC dX6_readDifferences_272 rfl ?_
      refine g_iadd (pc' := 274) hC dX6_readDifferences_273 rfl ?_
      refine g_iload (pc' := 276) (i := 7) hC dX6_readDifferences_274 rfl rfl ?_
      refine g_icmp_ge (pc' := 279) (tgt := 346) hC dX6_readDifferences_276 (by decide) rfl h (fun h => ?_) (fun h => ?_)
      · refine g_aload_n (pc' := 280) (i := 0) hC dX6_readDifferences_279 rfl rfl rfl ?_
        refine gf_X6_169 (pc' := 283) hC dX6_readDifferences_280 rfl ?_
        refine g_if_ne (pc' := 286) (tgt := 346) hC dX6_readDifferences_283 (by decide) rfl h (fun h => ?_) (fun h => ?_)
        · refine g_aload_n (pc' := 287) (i := 0) hC dX6_readDifferences_286 rfl rfl rfl ?_
          refine g_aload_n (pc' := 288) (i := 0) hC dX6_readDifferences_287 rfl rfl rfl ?_
          refine gf_X6_54 (pc' := 291) hC dX6_readDifferences_288 rfl ?_
          refine g_iload (pc' := 293) (i := 10) hC dX6_readDifferences_291 rfl rfl ?_
          obtain ⟨g_43, h⟩ := gd_some h
          refine ld_mw (pc' := 294) hC g_43 dX6_readDifferences_293 rfl ?_
          obtain ⟨a_44, ma_45, mb_46, mba_47, mbl_48, mby_49, hc_50, h⟩ := bd6_some h
          refine g_callV (pc' := 297) hC (c_X6_readPacked _ hc_50) ml_X6_198 (rc_M) (by decide) rfl rfl rfl rfl dX6_readDifferences_294 rfl ?_
          refine g_lstore (pc' := 299) (i := 12) (lo' := [some (.ref (ea E 0)), some (.int v1), some (.int v2), none, some (.long v4), none, some (.int v6), some (.int v7), some (.long v8), none, some (.int v10), some (.int v11), some (.long a_44), none]) hC dX6_readDifferences_297 rfl rfl rfl rfl ?_
          refine g_iload (pc' := 301) (i := 11) hC dX6_readDifferences_299 rfl rfl ?_
          refine g_iload (pc' := 303) (i := 7) hC dX6_readDifferences_301 rfl rfl ?_
          refine g_icmp_ge (pc' := 306) (tgt := 340) hC dX6_readDifferences_303 (by decide) rfl h (fun h => ?_) (fun h => ?_)
          · refine g_lload (pc' := 308) (i := 4) hC dX6_readDifferences_306 rfl rfl ?_
            refine g_lload (pc' := 310) (i := 8) hC dX6_readDifferences_308 rfl rfl ?_
            refine g_ladd (pc' := 311) hC dX6_readDifferences_310 rfl ?_
            refine g_lload (pc' := 313) (i := 12) hC dX6_readDifferences_311 rfl rfl ?_
            refine g_ladd (pc' := 314) hC dX6_readDifferences_313 rfl ?_
            refine g_lstore (pc' := 316) (i := 4) (lo' := [some (.ref (ea E 0)), some (.int v1), some (.int v2), none, some (.long ((v4 + v8) + a_44)), none, some (.int v6), some (.int v7), some (.long v8), none, some (.int v10), some (.int v11), some (.long a_44), none]) hC dX6_readDifferences_314 rfl rfl rfl rfl ?_
            refine g_iload_n (pc' := 317) (i := 2) hC dX6_readDifferences_316 rfl rfl rfl ?_
            refine g_if_eq (pc' := 320) (tgt := 327) hC dX6_readDifferences_317 (by decide) rfl h (fun h => ?_) (fun h => ?_)
            · refine g_lload (pc' := 329) (i := 4) hC dX6_readDifferences_327 rfl rfl ?_
              refine g_lstore (pc' := 331) (i := 4) (lo' := [some (.ref (ea E 0)), some (.int v1), some (.int v2), none, some (.long ((v4 + v8) + a_44)), none, some (.int v6), some (.int v7), some (.long v8), none, some (.int v10), some (.int v11), some (.long a_44), none]) hC dX6_readDifferences_329 rfl rfl rfl rfl ?_
              refine g_aload_n (pc' := 332) (i := 0) hC dX6_readDifferences_331 rfl rfl rfl ?_
              refine gf_X6_42 (pc' := 335) hC dX6_readDifferences_332 rfl ?_
              refine g_iload (pc' := 337) (i := 11) hC dX6_readDifferences_335 rfl rfl ?_
              refine g_lload (pc' := 339) (i := 4) hC dX6_readDifferences_337 rfl rfl ?_
              obtain ⟨g_51, h⟩ := gd_some h
              refine st_mn (pc' := 340) hC g_51 dX6_readDifferences_339 rfl ?_
              refine g_iinc (pc' := 343) (i := 11) (x := v11) (k := (nI 1)) (lo' := [some (.ref (ea E 0)), some (.int v1), some (.int v2), none, some (.long ((v4 + v8) + a_44)), none, some (.int v6), some (.int v7), some (.long v8), none, some (.int v10), some (.int (v11 + (nI 1))), some (.long a_44), none]) hC dX6_readDifferences_340 rfl (by decide) rfl rfl rfl rfl ?_
              refine g_goto (tgt := 250) hC dX6_readDifferences_343 (by decide) ?_
              refine g_weak (lo' := [some (.ref (ea E 0)), some (.int v1), some (.int v2), none, some (.long ((v4 + v8) + a_44)), none, some (.int v6), some (.int v7), some (.long v8), none, some (.int v10), some (.int (v11 + (nI 1))), none, none]) rfl ?_
              exact hk250 _ _ _ _ _ _ _ _ h
            · refine g_lload (pc' := 322) (i := 4) hC dX6_readDifferences_320 rfl rfl ?_
              refine g_l2i (pc' := 323) hC dX6_readDifferences_322 rfl ?_
              refine g_i2l (pc' := 324) hC dX6_readDifferences_323 rfl ?_
              refine g_goto (tgt := 329) hC dX6_readDifferences_324 (by decide) ?_
              refine g_lstore (pc' := 331) (i := 4) (lo' := [some (.ref (ea E 0)), some (.int v1), some (.int v2), none, some (.long (i2l (l2i ((v4 + v8) + a_44)))), none, some (.int v6), some (.int v7), some (.long v8), none, some (.int v10), some (.int v11), some (.long a_44), none]) hC dX6_readDifferences_329 rfl rfl rfl rfl ?_
              refine g_aload_n (pc' := 332) (i := 0) hC dX6_readDifferences_331 rfl rfl rfl ?_
              refine gf_X6_42 (pc' := 335) hC dX6_readDifferences_332 rfl ?_
              refine g_iload (pc' := 337) (i := 11) hC dX6_readDifferences_335 rfl rfl ?_
              refine g_lload (pc' := 339) (i := 4) hC dX6_readDifferences_337 rfl rfl ?_
              obtain ⟨g_52, h⟩ := gd_some h
              refine st_mn (pc' := 340) hC g_52 dX6_readDifferences_339 rfl ?_
              refine g_iinc (pc' := 343) (i := 11) (x := v11) (k := (nI 1)) (lo' := [some (.ref (ea E 0)), some (.int v1), some (.int v2), none, some (.long (i2l (l2i ((v4 + v8) + a_44)))), none, some (.int v6), some (.int v7), some (.long v8), none, some (.int v10), some (.int (v11 + (nI 1))), some (.long a_44), none]) hC dX6_readDifferences_340 rfl (by decide) rfl rfl rfl rfl ?_
              refine g_goto (tgt := 250) hC dX6_readDifferences_343 (by decide) ?_
              refine g_weak (lo' := [some (.ref (ea E 0)), some (.int v1), some (.int v2), none, some (.long (i2l (l2i ((v4 + v8) + a_44)))), none, some (.int v6), some (.int v7), some (.long v8), none, some (.int v10), some (.int (v11 + (nI 1))), none, none]) rfl ?_
              exact hk250 _ _ _ _ _ _ _ _ h
          · refine g_iinc (pc' := 343) (i := 11) (x := v11) (k := (nI 1)) (lo' := [some (.ref (ea E 0)), some (.int v1), some (.int v2), none, some (.long v4), none, some (.int v6), some (.int v7), some (.long v8), none, some (.int v10), some (.int (v11 + (nI 1))), some (.long a_44), none]) hC dX6_readDifferences_340 rfl (by decide) rfl rfl rfl rfl ?_
            refine g_goto (tgt := 250) hC dX6_readDifferences_343 (by decide) ?_
            refine g_weak (lo' := [some (.ref (ea E 0)), some (.int v1), some (.int v2), none, some (.long v4), none, some (.int v6), some (.int v7), some (.long v8), none, some (.int v10), some (.int (v11 + (nI 1))), none, none]) rfl ?_
            exact hk250 _ _ _ _ _ _ _ _ h
        · refine g_weak (lo' := [some (.ref (ea E 0)), some (.int v1), some (.int v2), none, some (.long v4), none, some (.int v6), some (.int v7), some (.long v8), none, some (.int v10), none, none, none]) rfl ?_
          exact hk346 _ _ _ _ _ _ _ h
      · refine g_weak (lo' := [some (.ref (ea E 0)), some (.int v1), some (.int v2), none, some (.long v4), none, some (.int v6), some (.int v7), some (.long v8), none, some (.int v10), none, none, none]) rfl ?_
        exact hk346 _ _ _ _ _ _ _ h
    · refine g_weak (lo' := [some (.ref (ea E 0)), some (.int v1), some (.int v2), none, some (.long v4), none, some (.int v6), some (.int v7), some (.long v8), none, some (.int v10), none, none, none]) rfl ?_
      exact hk346 _ _ _ _ _ _ _ h)
set_option maxRecDepth 200000 in
theorem w_X6_readDifferences_L222 {κ : GK} {E : GE} {rr : Int32} {mnz : Nat → Int64} {maz : Int32} {mbz : Int32} {mbaz : Int32} {mblz : Int32} {mbyz : Int32} {mwz : Nat → Int32} {v1 : Int32} {v2 : Int32} {v6 : Int32} {v7 : Int32} {v8 : Int64} {k352 : Int64 → (Nat → Int64) → Int32 → Int32 → Int32 → Int32 → Int32 → Option (Int32 × (Nat → Int64) × Int32 × Int32 × Int32 × Int32 × Int32 × (Nat → Int32))} (hC : gC κ E cX6_readDifferences RX6 (some .boolean) rm_X6_readDifferences 14)  (hk352 : ∀ (v4 : Int64) (mn : Nat → Int64) (ma : Int32) (mb : Int32) (mba : Int32) (mbl : Int32) (mby : Int32), k352 v4 mn ma mb mba mbl mby = some (rr, mnz, maz, mbz, mbaz, mblz, mbyz, mwz) → GG κ E (mws E mk mo mm mt mv mx mp mtd mf ms md mdd mnz mst mpl mbb maz me mbz mbaz mpg mdi mblz mbyz mwz mz mso mbo mco mcd ml mr, some (.int rr)) (mws E mk mo mm mt mv mx mp mtd mf ms md mdd mn mst mpl mbb ma me mb mba mpg mdi mbl mby mw mz mso mbo mco mcd ml mr) 352 [some (.ref (ea E 0)), some (.int v1), some (.int v2), none, some (.long v4), none, some (.int v6), none, none, none, none, none, none, none] []) : ∀ (n : Nat) (v4 : Int64) (v10 : Int32) (mn : Nat → Int64) (ma : Int32) (mb : Int32) (mba : Int32) (mbl : Int32) (mby : Int32), itr8 (p_X6_readDifferences_L222 v2 v6 v7 v8 mf me mw k352) n v4 v10 mn ma mb mba mbl mby = some (rr, mnz, maz, mbz, mbaz, mblz, mbyz, mwz) → GG κ E (mws E mk mo mm mt mv mx mp mtd mf ms md mdd mnz mst mpl mbb maz me mbz mbaz mpg mdi mblz mbyz mwz mz mso mbo mco mcd ml mr, some (.int rr)) (mws E mk mo mm mt mv mx mp mtd mf ms md mdd mn mst mpl mbb ma me mb mba mpg mdi mbl mby mw mz mso mbo mco mcd ml mr) 222 [some (.ref (ea E 0)), some (.int v1), some (.int v2), none, some (.long v4), none, some (.int v6), some (.int v7), some (.long v8), none, some (.int v10), none, none, none] [] :=
  itr8_ind (fun k222 hk222 v4 v10 mn ma mb mba mbl mby h => by
    unfold p_X6_readDifferences_L222 at h
    refine g_iload (pc' := 224) (i := 10) hC dX6_readDifferences_222 rfl rfl ?_
    refine g_iconst (pc' := 225) (v := (nI 4)) hC dX6_readDifferences_224 (by decide) rfl ?_
    refine g_icmp_ge (pc' := 228) (tgt := 352) hC dX6_readDifferences_225 (by decide) rfl h (fun h => ?_) (fun h => ?_)
    · refine g_aload_n (pc' := 229) (i := 0) hC dX6_readDifferences_228 rfl rfl rfl ?_
      refine gf_X6_169 (pc' := 232) hC dX6_readDifferences_229 rfl ?_
      refine g_if_ne (pc' := 235) (tgt := 352) hC dX6_readDifferences_232 (by decide) rfl h (fun h => ?_) (fun h => ?_)
      · refine g_aload_n (pc' := 236) (i := 0) hC dX6_readDifferences_235 rfl rfl rfl ?_
        refine g_iconst (pc' := 237) (v := (nI 0)) hC dX6_readDifferences_236 (by decide) rfl ?_
        refine pf_X6_192 (pc' := 240) hC dX6_readDifferences_237 rfl ?_
        refine g_iload (pc' := 242) (i := 6) hC dX6_readDifferences_240 rfl rfl ?_
        refine g_bipush (pc' := 244) (v := (nI 32)) hC dX6_readDifferences_242 (by decide) rfl ?_
        refine g_iload (pc' := 246) (i := 10) hC dX6_readDifferences_244 rfl rfl ?_
        refine g_imul (pc' := 247) hC dX6_readDifferences_246 rfl ?_
        refine g_iadd (pc' := 248) hC dX6_readDifferences_247 rfl ?_
        refine g_istore (pc' := 250) (i := 11) (lo' := [some (.ref (ea E 0)), some (.int v1), some (.int v2), none, some (.long v4), none, some (.int v6), some (.int v7), some (.long v8), none, some (.int v10), some (.int (v6 + ((nI 32) * v10))), none, none]) hC dX6_readDifferences_248 rfl rfl rfl rfl ?_
        refine w_X6_readDifferences_L250 hC  ?_ _ _ _ _ _ _ _ _ _ h
        · intro v4_53 mn_54 ma_55 mb_56 mba_57 mbl_58 mby_59 h
          refine g_iinc (pc' := 349) (i := 10) (x := v10) (k := (nI 1)) (lo' := [some (.ref (ea E 0)), some (.int v1), some (.int v2), none, some (.long v4_53), none, some (.int v6), some (.int v7), some (.long v8), none, some (.int (v10 + (nI 1))), none, none, none]) hC dX6_readDifferences_346 rfl (by decide) rfl rfl rfl rfl ?_
          refine g_goto (tgt := 222) hC dX6_readDifferences_349 (by decide) ?_
          exact hk222 _ _ _ _ _ _ _ _ h
      · refine g_weak (lo' := [some (.ref (ea E 0)), some (.int v1), some (.int v2), none, some (.long v4), none, some (.int v6), none, none, none, none, none, none, none]) rfl ?_
        exact hk352 _ _ _ _ _ _ _ h
    · refine g_weak (lo' := [some (.ref (ea E 0)), some (.int v1), some (.int v2), none, some (.long v4), none, some (.int v6), none, none, none, none, none, none, none]) rfl ?_
      exact hk352 _ _ _ _ _ _ _ h)
set_option maxRecDepth 200000 in
theorem w_X6_readDifferences_J352 {κ : GK} {E : GE} {rr : Int32} {mnz : Nat → Int64} {maz : Int32} {mbz : Int32} {mbaz : Int32} {mblz : Int32} {mbyz : Int32} {mwz : Nat → Int32} {v1 : Int32} {v2 : Int32} {v4 : Int64} {v6 : Int32} {k80 : Int64 → Int32 → (Nat → Int64) → Int32 → Int32 → Int32 → Int32 → Int32 → (Nat → Int32) → Option (Int32 × (Nat → Int64) × Int32 × Int32 × Int32 × Int32 × Int32 × (Nat → Int32))} (hC : gC κ E cX6_readDifferences RX6 (some .boolean) rm_X6_readDifferences 14)  (hk80 : ∀ (v4 : Int64) (v6 : Int32) (mn : Nat → Int64) (ma : Int32) (mb : Int32) (mba : Int32) (mbl : Int32) (mby : Int32) (mw : Nat → Int32), k80 v4 v6 mn ma mb mba mbl mby mw = some (rr, mnz, maz, mbz, mbaz, mblz, mbyz, mwz) → GG κ E (mws E mk mo mm mt mv mx mp mtd mf ms md mdd mnz mst mpl mbb maz me mbz mbaz mpg mdi mblz mbyz mwz mz mso mbo mco mcd ml mr, some (.int rr)) (mws E mk mo mm mt mv mx mp mtd mf ms md mdd mn mst mpl mbb ma me mb mba mpg mdi mbl mby mw mz mso mbo mco mcd ml mr) 80 [some (.ref (ea E 0)), some (.int v1), some (.int v2), none, some (.long v4), none, some (.int v6), none, none, none, none, none, none, none] []) (h : p_X6_readDifferences_J352 v4 v6 mn ma mb mba mbl mby mw k80 = some (rr, mnz, maz, mbz, mbaz, mblz, mbyz, mwz)) : GG κ E (mws E mk mo mm mt mv mx mp mtd mf ms md mdd mnz mst mpl mbb maz me mbz mbaz mpg mdi mblz mbyz mwz mz mso mbo mco mcd ml mr, some (.int rr)) (mws E mk mo mm mt mv mx mp mtd mf ms md mdd mn mst mpl mbb ma me mb mba mpg mdi mbl mby mw mz mso mbo mco mcd ml mr) 352 [some (.ref (ea E 0)), some (.int v1), some (.int v2), none, some (.long v4), none, some (.int v6), none, none, none, none, none, none, none] [] := by
  unfold p_X6_readDifferences_J352 at h
  refine g_aload_n (pc' := 353) (i := 0) hC dX6_readDifferences_352 rfl rfl rfl ?_
  refine gf_X6_169 (pc' := 356) hC dX6_readDifferences_353 rfl ?_
  refine g_if_eq (pc' := 359) (tgt := 361) hC dX6_readDifferences_356 (by decide) rfl h (fun h => ?_) (fun h => ?_)
  · refine g_iincW (pc' := 367) (i := 6) (x := v6) (k := (nI 128)) (lo' := [some (.ref (ea E 0)), some (.int v1), some (.int v2), none, some (.long v4), none, some (.int (v6 + (nI 128))), none, none, none, none, none, none, none]) hC dX6_readDifferences_361 rfl (by decide) rfl rfl rfl rfl ?_
    refine g_goto (tgt := 80) hC dX6_readDifferences_367 (by decide) ?_
    exact hk80 _ _ _ _ _ _ _ _ _ h
  · refine g_iconst (pc' := 360) (v := (nI 0)) hC dX6_readDifferences_359 (by decide) rfl ?_
    obtain ⟨rfl, rfl, rfl, rfl, rfl, rfl, rfl, rfl⟩ := inj8 h; exact g_zret hC (by decide) dX6_readDifferences_360
set_option maxRecDepth 200000 in
theorem w_X6_readDifferences_L80 {κ : GK} {E : GE} {rr : Int32} {mnz : Nat → Int64} {maz : Int32} {mbz : Int32} {mbaz : Int32} {mblz : Int32} {mbyz : Int32} {mwz : Nat → Int32} {v1 : Int32} {v2 : Int32}  (hC : gC κ E cX6_readDifferences RX6 (some .boolean) rm_X6_readDifferences 14)   : ∀ (n : Nat) (v4 : Int64) (v6 : Int32) (mn : Nat → Int64) (ma : Int32) (mb : Int32) (mba : Int32) (mbl : Int32) (mby : Int32) (mw : Nat → Int32), itr9 (p_X6_readDifferences_L80 v1 v2 mf me) n v4 v6 mn ma mb mba mbl mby mw = some (rr, mnz, maz, mbz, mbaz, mblz, mbyz, mwz) → GG κ E (mws E mk mo mm mt mv mx mp mtd mf ms md mdd mnz mst mpl mbb maz me mbz mbaz mpg mdi mblz mbyz mwz mz mso mbo mco mcd ml mr, some (.int rr)) (mws E mk mo mm mt mv mx mp mtd mf ms md mdd mn mst mpl mbb ma me mb mba mpg mdi mbl mby mw mz mso mbo mco mcd ml mr) 80 [some (.ref (ea E 0)), some (.int v1), some (.int v2), none, some (.long v4), none, some (.int v6), none, none, none, none, none, none, none] [] :=
  itr9_ind (fun k80 hk80 v4 v6 mn ma mb mba mbl mby mw h => by
    unfold p_X6_readDifferences_L80 at h
    refine g_iload (pc' := 82) (i := 6) hC dX6_readDifferences_80 rfl rfl ?_
    refine g_iload_n (pc' := 83) (i := 1) hC dX6_readDifferences_82 rfl rfl rfl ?_
    refine g_icmp_ge (pc' := 86) (tgt := 370) hC dX6_readDifferences_83 (by decide) rfl h (fun h => ?_) (fun h => ?_)
    · refine g_iload (pc' := 88) (i := 6) hC dX6_readDifferences_86 rfl rfl ?_
      refine g_sipush (pc' := 91) (v := (nI 128)) hC dX6_readDifferences_88 (by decide) rfl ?_
      refine g_iadd (pc' := 92) hC dX6_readDifferences_91 rfl ?_
      refine g_iload_n (pc' := 93) (i := 1) hC dX6_readDifferences_92 rfl rfl rfl ?_
      refine g_icmp_ge (pc' := 96) (tgt := 105) hC dX6_readDifferences_93 (by decide) rfl h (fun h => ?_) (fun h => ?_)
      · refine g_iload (pc' := 98) (i := 6) hC dX6_readDifferences_96 rfl rfl ?_
        refine g_sipush (pc' := 101) (v := (nI 128)) hC dX6_readDifferences_98 (by decide) rfl ?_
        refine g_iadd (pc' := 102) hC dX6_readDifferences_101 rfl ?_
        refine g_goto (tgt := 106) hC dX6_readDifferences_102 (by decide) ?_
        refine g_istore (pc' := 108) (i := 7) (lo' := [some (.ref (ea E 0)), some (.int v1), some (.int v2), none, some (.long v4), none, some (.int v6), some (.int (v6 + (nI 128))), none, none, none, none, none, none]) hC dX6_readDifferences_106 rfl rfl rfl rfl ?_
        refine g_aload_n (pc' := 109) (i := 0) hC dX6_readDifferences_108 rfl rfl rfl ?_
        obtain ⟨a_22, ma_23, mb_24, mba_25, hc_26, h⟩ := bd4_some h
        refine g_callV (pc' := 112) hC (c_X6_readZig _ hc_26) ml_X6_209 (rc_M) (by decide) rfl rfl rfl rfl dX6_readDifferences_109 rfl ?_
        refine g_lstore (pc' := 114) (i := 8) (lo' := [some (.ref (ea E 0)), some (.int v1), some (.int v2), none, some (.long v4), none, some (.int v6), some (.int (v6 + (nI 128))), some (.long a_22), none, none, none, none, none]) hC dX6_readDifferences_112 rfl rfl rfl rfl ?_
        refine g_iconst (pc' := 115) (v := (nI 0)) hC dX6_readDifferences_114 (by decide) rfl ?_
        refine g_istore (pc' := 117) (i := 10) (lo' := [some (.ref (ea E 0)), some (.int v1), some (.int v2), none, some (.long v4), none, some (.int v6), some (.int (v6 + (nI 128))), some (.long a_22), none, some (.int (nI 0)), none, none, none]) hC dX6_readDifferences_115 rfl rfl rfl rfl ?_
        refine w_X6_readDifferences_L117 hC  ?_ _ _ _ _ _ _ h
        · intro ma_39 mb_40 mba_41 mw_42 h
          refine g_iconst (pc' := 220) (v := (nI 0)) hC dX6_readDifferences_219 (by decide) rfl ?_
          refine g_istore (pc' := 222) (i := 10) (lo' := [some (.ref (ea E 0)), some (.int v1), some (.int v2), none, some (.long v4), none, some (.int v6), some (.int (v6 + (nI 128))), some (.long a_22), none, some (.int (nI 0)), none, none, none]) hC dX6_readDifferences_220 rfl rfl rfl rfl ?_
          refine w_X6_readDifferences_L222 hC  ?_ _ _ _ _ _ _ _ _ _ h
          · intro v4_60 mn_61 ma_62 mb_63 mba_64 mbl_65 mby_66 h
            exact w_X6_readDifferences_J352 hC  hk80 h
      · refine g_iload_n (pc' := 106) (i := 1) hC dX6_readDifferences_105 rfl rfl rfl ?_
        refine g_istore (pc' := 108) (i := 7) (lo' := [some (.ref (ea E 0)), some (.int v1), some (.int v2), none, some (.long v4), none, some (.int v6), some (.int v1), none, none, none, none, none, none]) hC dX6_readDifferences_106 rfl rfl rfl rfl ?_
        refine g_aload_n (pc' := 109) (i := 0) hC dX6_readDifferences_108 rfl rfl rfl ?_
        obtain ⟨a_67, ma_68, mb_69, mba_70, hc_71, h⟩ := bd4_some h
        refine g_callV (pc' := 112) hC (c_X6_readZig _ hc_71) ml_X6_209 (rc_M) (by decide) rfl rfl rfl rfl dX6_readDifferences_109 rfl ?_
        refine g_lstore (pc' := 114) (i := 8) (lo' := [some (.ref (ea E 0)), some (.int v1), some (.int v2), none, some (.long v4), none, some (.int v6), some (.int v1), some (.long a_67), none, none, none, none, none]) hC dX6_readDifferences_112 rfl rfl rfl rfl ?_
        refine g_iconst (pc' := 115) (v := (nI 0)) hC dX6_readDifferences_114 (by decide) rfl ?_
        refine g_istore (pc' := 117) (i := 10) (lo' := [some (.ref (ea E 0)), some (.int v1), some (.int v2), none, some (.long v4), none, some (.int v6), some (.int v1), some (.long a_67), none, some (.int (nI 0)), none, none, none]) hC dX6_readDifferences_115 rfl rfl rfl rfl ?_
        refine w_X6_readDifferences_L117 hC  ?_ _ _ _ _ _ _ h
        · intro ma_72 mb_73 mba_74 mw_75 h
          refine g_iconst (pc' := 220) (v := (nI 0)) hC dX6_readDifferences_219 (by decide) rfl ?_
          refine g_istore (pc' := 222) (i := 10) (lo' := [some (.ref (ea E 0)), some (.int v1), some (.int v2), none, some (.long v4), none, some (.int v6), some (.int v1), some (.long a_67), none, some (.int (nI 0)), none, none, none]) hC dX6_readDifferences_220 rfl rfl rfl rfl ?_
          refine w_X6_readDifferences_L222 hC  ?_ _ _ _ _ _ _ _ _ _ h
          · intro v4_76 mn_77 ma_78 mb_79 mba_80 mbl_81 mby_82 h
            exact w_X6_readDifferences_J352 hC  hk80 h
    · refine g_iconst (pc' := 371) (v := (nI 1)) hC dX6_readDifferences_370 (by decide) rfl ?_
      obtain ⟨rfl, rfl, rfl, rfl, rfl, rfl, rfl, rfl⟩ := inj8 h; exact g_zret hC (by decide) dX6_readDifferences_371)
set_option maxRecDepth 200000 in
theorem c_X6_readDifferences (l : Launch) {E : GE} {rr : Int32} {mnz : Nat → Int64} {maz : Int32} {mbz : Int32} {mbaz : Int32} {mblz : Int32} {mbyz : Int32} {mwz : Nat → Int32} {v1 : Int32} {v2 : Int32}  (h : p_X6_readDifferences v1 v2 mf mn ma me mb mba mbl mby mw = some (rr, mnz, maz, mbz, mbaz, mblz, mbyz, mwz)) : Met l yX6_readDifferences (.code yX6_readDifferences cX6_readDifferences 14 (some .boolean) :: gU) rm_X6_readDifferences (gP E (mws E mk mo mm mt mv mx mp mtd mf ms md mdd mn mst mpl mbb ma me mb mba mpg mdi mbl mby mw mz mso mbo mco mcd ml mr) [.ref (ea E 0), .int v1, .int v2]) (gQ E (mws E mk mo mm mt mv mx mp mtd mf ms md mdd mnz mst mpl mbb maz me mbz mbaz mpg mdi mblz mbyz mwz mz mso mbo mco mcd ml mr) (some (.int rr))) 0 0 E.2.2.1 := by
  refine met_of (y := yX6_readDifferences) (own := RX6) (lo := [some (.ref (ea E 0)), some (.int v1), some (.int v2), none, none, none, none, none, none, none, none, none, none, none]) (by decide) rfl rfl rfl (fun κ hl hC => ?_)
  subst hl
  unfold p_X6_readDifferences at h
  refine g_aload_n (pc' := 1) (i := 0) hC dX6_readDifferences_0 rfl rfl rfl ?_
  refine gf_X6_175 (pc' := 4) hC dX6_readDifferences_1 rfl ?_
  refine g_istore_n (pc' := 5) (i := 3) (lo' := [some (.ref (ea E 0)), some (.int v1), some (.int v2), some (.int ma), none, none, none, none, none, none, none, none, none, none]) hC dX6_readDifferences_4 rfl rfl rfl rfl rfl ?_
  refine g_aload_n (pc' := 6) (i := 0) hC dX6_readDifferences_5 rfl rfl rfl ?_
  refine g_ldc2_w (pc' := 9) (v := (lN 128)) hC u_20 dX6_readDifferences_6 rfl ?_
  refine g_iload_n (pc' := 10) (i := 3) hC dX6_readDifferences_9 rfl rfl rfl ?_
  obtain ⟨a_1, ma_2, mb_3, mba_4, hc_5, h⟩ := bd4_some h
  refine g_callV (pc' := 13) hC (c_X6_wants _ hc_5) ml_X6_205 (rc_M) (by decide) rfl rfl rfl rfl dX6_readDifferences_10 rfl ?_
  refine g_if_eq (pc' := 16) (tgt := 37) hC dX6_readDifferences_13 (by decide) rfl h (fun h => ?_) (fun h => ?_)
  · refine g_iconst (pc' := 38) (v := (nI 0)) hC dX6_readDifferences_37 (by decide) rfl ?_
    obtain ⟨rfl, rfl, rfl, rfl, rfl, rfl, rfl, rfl⟩ := inj8 h; exact g_zret hC (by decide) dX6_readDifferences_38
  · refine g_aload_n (pc' := 17) (i := 0) hC dX6_readDifferences_16 rfl rfl rfl ?_
    refine g_ldc2_w (pc' := 20) (v := (lN 4)) hC u_16 dX6_readDifferences_17 rfl ?_
    refine g_iload_n (pc' := 21) (i := 3) hC dX6_readDifferences_20 rfl rfl rfl ?_
    obtain ⟨a_6, ma_7, mb_8, mba_9, hc_10, h⟩ := bd4_some h
    refine g_callV (pc' := 24) hC (c_X6_wants _ hc_10) ml_X6_205 (rc_M) (by decide) rfl rfl rfl rfl dX6_readDifferences_21 rfl ?_
    refine g_if_eq (pc' := 27) (tgt := 37) hC dX6_readDifferences_24 (by decide) rfl h (fun h => ?_) (fun h => ?_)
    · refine g_iconst (pc' := 38) (v := (nI 0)) hC dX6_readDifferences_37 (by decide) rfl ?_
      obtain ⟨rfl, rfl, rfl, rfl, rfl, rfl, rfl, rfl⟩ := inj8 h; exact g_zret hC (by decide) dX6_readDifferences_38
    · refine g_aload_n (pc' := 28) (i := 0) hC dX6_readDifferences_27 rfl rfl rfl ?_
      refine g_iload_n (pc' := 29) (i := 1) hC dX6_readDifferences_28 rfl rfl rfl ?_
      refine g_i2l (pc' := 30) hC dX6_readDifferences_29 rfl ?_
      refine g_iload_n (pc' := 31) (i := 3) hC dX6_readDifferences_30 rfl rfl rfl ?_
      obtain ⟨a_11, ma_12, mb_13, mba_14, hc_15, h⟩ := bd4_some h
      refine g_callV (pc' := 34) hC (c_X6_wants _ hc_15) ml_X6_205 (rc_M) (by decide) rfl rfl rfl rfl dX6_readDifferences_31 rfl ?_
      refine g_if_ne (pc' := 37) (tgt := 39) hC dX6_readDifferences_34 (by decide) rfl h (fun h => ?_) (fun h => ?_)
      · refine g_iconst (pc' := 38) (v := (nI 0)) hC dX6_readDifferences_37 (by decide) rfl ?_
        obtain ⟨rfl, rfl, rfl, rfl, rfl, rfl, rfl, rfl⟩ := inj8 h; exact g_zret hC (by decide) dX6_readDifferences_38
      · refine g_aload_n (pc' := 40) (i := 0) hC dX6_readDifferences_39 rfl rfl rfl ?_
        obtain ⟨a_16, ma_17, mb_18, mba_19, hc_20, h⟩ := bd4_some h
        refine g_callV (pc' := 43) hC (c_X6_readZig _ hc_20) ml_X6_209 (rc_M) (by decide) rfl rfl rfl rfl dX6_readDifferences_40 rfl ?_
        refine g_lstore (pc' := 45) (i := 4) (lo' := [some (.ref (ea E 0)), some (.int v1), some (.int v2), some (.int ma), some (.long a_16), none, none, none, none, none, none, none, none, none]) hC dX6_readDifferences_43 rfl rfl rfl rfl ?_
        refine g_aload_n (pc' := 46) (i := 0) hC dX6_readDifferences_45 rfl rfl rfl ?_
        refine gf_X6_169 (pc' := 49) hC dX6_readDifferences_46 rfl ?_
        refine g_if_eq (pc' := 52) (tgt := 54) hC dX6_readDifferences_49 (by decide) rfl h (fun h => ?_) (fun h => ?_)
        · refine g_iload_n (pc' := 55) (i := 2) hC dX6_readDifferences_54 rfl rfl rfl ?_
          refine g_if_eq (pc' := 58) (tgt := 65) hC dX6_readDifferences_55 (by decide) rfl h (fun h => ?_) (fun h => ?_)
          · refine g_lload (pc' := 67) (i := 4) hC dX6_readDifferences_65 rfl rfl ?_
            refine g_lstore (pc' := 69) (i := 4) (lo' := [some (.ref (ea E 0)), some (.int v1), some (.int v2), some (.int ma), some (.long a_16), none, none, none, none, none, none, none, none, none]) hC dX6_readDifferences_67 rfl rfl rfl rfl ?_
            refine g_aload_n (pc' := 70) (i := 0) hC dX6_readDifferences_69 rfl rfl rfl ?_
            refine gf_X6_42 (pc' := 73) hC dX6_readDifferences_70 rfl ?_
            refine g_iconst (pc' := 74) (v := (nI 0)) hC dX6_readDifferences_73 (by decide) rfl ?_
            refine g_lload (pc' := 76) (i := 4) hC dX6_readDifferences_74 rfl rfl ?_
            obtain ⟨g_21, h⟩ := gd_some h
            refine st_mn (pc' := 77) hC g_21 dX6_readDifferences_76 rfl ?_
            refine g_iconst (pc' := 78) (v := (nI 1)) hC dX6_readDifferences_77 (by decide) rfl ?_
            refine g_istore (pc' := 80) (i := 6) (lo' := [some (.ref (ea E 0)), some (.int v1), some (.int v2), some (.int ma), some (.long a_16), none, some (.int (nI 1)), none, none, none, none, none, none, none]) hC dX6_readDifferences_78 rfl rfl rfl rfl ?_
            refine g_weak (lo' := [some (.ref (ea E 0)), some (.int v1), some (.int v2), none, some (.long a_16), none, some (.int (nI 1)), none, none, none, none, none, none, none]) rfl ?_
            refine w_X6_readDifferences_L80 hC   _ _ _ _ _ _ _ _ _ _ h
          · refine g_lload (pc' := 60) (i := 4) hC dX6_readDifferences_58 rfl rfl ?_
            refine g_l2i (pc' := 61) hC dX6_readDifferences_60 rfl ?_
            refine g_i2l (pc' := 62) hC dX6_readDifferences_61 rfl ?_
            refine g_goto (tgt := 67) hC dX6_readDifferences_62 (by decide) ?_
            refine g_lstore (pc' := 69) (i := 4) (lo' := [some (.ref (ea E 0)), some (.int v1), some (.int v2), some (.int ma), some (.long (i2l (l2i a_16))), none, none, none, none, none, none, none, none, none]) hC dX6_readDifferences_67 rfl rfl rfl rfl ?_
            refine g_aload_n (pc' := 70) (i := 0) hC dX6_readDifferences_69 rfl rfl rfl ?_
            refine gf_X6_42 (pc' := 73) hC dX6_readDifferences_70 rfl ?_
            refine g_iconst (pc' := 74) (v := (nI 0)) hC dX6_readDifferences_73 (by decide) rfl ?_
            refine g_lload (pc' := 76) (i := 4) hC dX6_readDifferences_74 rfl rfl ?_
            obtain ⟨g_83, h⟩ := gd_some h
            refine st_mn (pc' := 77) hC g_83 dX6_readDifferences_76 rfl ?_
            refine g_iconst (pc' := 78) (v := (nI 1)) hC dX6_readDifferences_77 (by decide) rfl ?_
            refine g_istore (pc' := 80) (i := 6) (lo' := [some (.ref (ea E 0)), some (.int v1), some (.int v2), some (.int ma), some (.long (i2l (l2i a_16))), none, some (.int (nI 1)), none, none, none, none, none, none, none]) hC dX6_readDifferences_78 rfl rfl rfl rfl ?_
            refine g_weak (lo' := [some (.ref (ea E 0)), some (.int v1), some (.int v2), none, some (.long (i2l (l2i a_16))), none, some (.int (nI 1)), none, none, none, none, none, none, none]) rfl ?_
            refine w_X6_readDifferences_L80 hC   _ _ _ _ _ _ _ _ _ _ h
        · refine g_iconst (pc' := 53) (v := (nI 0)) hC dX6_readDifferences_52 (by decide) rfl ?_
          obtain ⟨rfl, rfl, rfl, rfl, rfl, rfl, rfl, rfl⟩ := inj8 h; exact g_zret hC (by decide) dX6_readDifferences_53
set_option maxRecDepth 200000 in
theorem c_X6_reads (l : Launch) {E : GE} {mmz : Nat → Int32} {mtz : Nat → Int32} {mvz : Nat → Int64} {mxz : Nat → Int32} {v1 : Int32} {v2 : Int64}  (h : p_X6_reads v1 v2 mm mt mv mx = some (mmz, mtz, mvz, mxz)) : Met l yX6_reads (.code yX6_reads cX6_reads 5 none :: gU) rm_X6_reads (gP E (mws E mk mo mm mt mv mx mp mtd mf ms md mdd mn mst mpl mbb ma me mb mba mpg mdi mbl mby mw mz mso mbo mco mcd ml mr) [.ref (ea E 0), .int v1, .long v2]) (gQ E (mws E mk mo mmz mtz mvz mxz mp mtd mf ms md mdd mn mst mpl mbb ma me mb mba mpg mdi mbl mby mw mz mso mbo mco mcd ml mr) none) 0 0 E.2.2.1 := by
  refine met_of (y := yX6_reads) (own := RX6) (lo := [some (.ref (ea E 0)), some (.int v1), some (.long v2), none, none]) (by decide) rfl rfl rfl (fun κ hl hC => ?_)
  subst hl
  unfold p_X6_reads at h
  refine g_aload_n (pc' := 1) (i := 0) hC dX6_reads_0 rfl rfl rfl ?_
  refine g_iload_n (pc' := 2) (i := 1) hC dX6_reads_1 rfl rfl rfl ?_
  refine g_iconst (pc' := 3) (v := (nI 1)) hC dX6_reads_2 (by decide) rfl ?_
  refine g_lload_n (pc' := 4) (i := 2) hC dX6_reads_3 rfl rfl rfl ?_
  obtain ⟨a_1, mm_2, mt_3, mv_4, mx_5, hc_6, h⟩ := bd5_some h
  refine g_callV (pc' := 7) hC (c_X6_adds _ hc_6) ml_X6_70 (rc_M) (by decide) rfl rfl rfl rfl dX6_reads_4 rfl ?_
  refine g_istore (pc' := 9) (i := 4) (lo' := [some (.ref (ea E 0)), some (.int v1), some (.long v2), none, some (.int a_1)]) hC dX6_reads_7 rfl rfl rfl rfl ?_
  obtain ⟨rfl, rfl, rfl, rfl⟩ := inj4 h; exact g_vret hC dX6_reads_9
set_option maxRecDepth 200000 in
theorem w_X6_readLetters_L12 {κ : GK} {E : GE} {rr : Int32} {mmz : Nat → Int32} {mtz : Nat → Int32} {mvz : Nat → Int64} {mxz : Nat → Int32} {maz : Int32} {mbz : Int32} {mbaz : Int32} {v1 : Int32} {v2 : Int32} {v3 : Int32} {k54 : (Nat → Int32) → Int32 → Int32 → Int32 → Option (Int32 × (Nat → Int32) × (Nat → Int32) × (Nat → Int64) × (Nat → Int32) × Int32 × Int32 × Int32)} (hC : gC κ E cX6_readLetters RX6 (some .boolean) rm_X6_readLetters 5)  (hk54 : ∀ (mx : Nat → Int32) (ma : Int32) (mb : Int32) (mba : Int32), k54 mx ma mb mba = some (rr, mmz, mtz, mvz, mxz, maz, mbz, mbaz) → GG κ E (mws E mk mo mmz mtz mvz mxz mp mtd mf ms md mdd mn mst mpl mbb maz me mbz mbaz mpg mdi mbl mby mw mz mso mbo mco mcd ml mr, some (.int rr)) (mws E mk mo mm mt mv mx mp mtd mf ms md mdd mn mst mpl mbb ma me mb mba mpg mdi mbl mby mw mz mso mbo mco mcd ml mr) 54 [some (.ref (ea E 0)), none, none, none, none] []) : ∀ (n : Nat) (v4 : Int32) (mx : Nat → Int32) (ma : Int32) (mb : Int32) (mba : Int32), itr5 (p_X6_readLetters_L12 v1 v2 v3 mf me k54) n v4 mx ma mb mba = some (rr, mmz, mtz, mvz, mxz, maz, mbz, mbaz) → GG κ E (mws E mk mo mmz mtz mvz mxz mp mtd mf ms md mdd mn mst mpl mbb maz me mbz mbaz mpg mdi mbl mby mw mz mso mbo mco mcd ml mr, some (.int rr)) (mws E mk mo mm mt mv mx mp mtd mf ms md mdd mn mst mpl mbb ma me mb mba mpg mdi mbl mby mw mz mso mbo mco mcd ml mr) 12 [some (.ref (ea E 0)), some (.int v1), some (.int v2), some (.int v3), some (.int v4)] [] :=
  itr5_ind (fun k12 hk12 v4 mx ma mb mba h => by
    unfold p_X6_readLetters_L12 at h
    refine g_iload (pc' := 14) (i := 4) hC dX6_readLetters_12 rfl rfl ?_
    refine g_iload_n (pc' := 15) (i := 2) hC dX6_readLetters_14 rfl rfl rfl ?_
    refine g_icmp_ge (pc' := 18) (tgt := 54) hC dX6_readLetters_15 (by decide) rfl h (fun h => ?_) (fun h => ?_)
    · refine g_aload_n (pc' := 19) (i := 0) hC dX6_readLetters_18 rfl rfl rfl ?_
      refine gf_X6_169 (pc' := 22) hC dX6_readLetters_19 rfl ?_
      refine g_if_ne (pc' := 25) (tgt := 54) hC dX6_readLetters_22 (by decide) rfl h (fun h => ?_) (fun h => ?_)
      · refine g_aload_n (pc' := 26) (i := 0) hC dX6_readLetters_25 rfl rfl rfl ?_
        refine gf_X6_28 (pc' := 29) hC dX6_readLetters_26 rfl ?_
        refine g_bipush (pc' := 31) (v := (nI 40)) hC dX6_readLetters_29 (by decide) rfl ?_
        refine g_sipush (pc' := 34) (v := (nI 200)) hC dX6_readLetters_31 (by decide) rfl ?_
        refine g_iload_n (pc' := 35) (i := 1) hC dX6_readLetters_34 rfl rfl rfl ?_
        refine g_imul (pc' := 36) hC dX6_readLetters_35 rfl ?_
        refine g_iload_n (pc' := 37) (i := 3) hC dX6_readLetters_36 rfl rfl rfl ?_
        refine g_iadd (pc' := 38) hC dX6_readLetters_37 rfl ?_
        refine g_imul (pc' := 39) hC dX6_readLetters_38 rfl ?_
        refine g_iload (pc' := 41) (i := 4) hC dX6_readLetters_39 rfl rfl ?_
        refine g_iadd (pc' := 42) hC dX6_readLetters_41 rfl ?_
        refine g_aload_n (pc' := 43) (i := 0) hC dX6_readLetters_42 rfl rfl rfl ?_
        obtain ⟨a_7, ma_8, mb_9, mba_10, hc_11, h⟩ := bd4_some h
        refine g_callV (pc' := 46) hC (c_X6_next _ hc_11) ml_X6_184 (rc_M) (by decide) rfl rfl rfl rfl dX6_readLetters_43 rfl ?_
        refine g_i2b (pc' := 47) hC dX6_readLetters_46 rfl ?_
        obtain ⟨g_12, h⟩ := gd_some h
        refine st_mxb (pc' := 48) hC g_12 dX6_readLetters_47 rfl ?_
        refine g_iinc (pc' := 51) (i := 4) (x := v4) (k := (nI 1)) (lo' := [some (.ref (ea E 0)), some (.int v1), some (.int v2), some (.int v3), some (.int (v4 + (nI 1)))]) hC dX6_readLetters_48 rfl (by decide) rfl rfl rfl rfl ?_
        refine g_goto (tgt := 12) hC dX6_readLetters_51 (by decide) ?_
        exact hk12 _ _ _ _ _ h
      · refine g_weak (lo' := [some (.ref (ea E 0)), none, none, none, none]) rfl ?_
        exact hk54 _ _ _ _ h
    · refine g_weak (lo' := [some (.ref (ea E 0)), none, none, none, none]) rfl ?_
      exact hk54 _ _ _ _ h)
set_option maxRecDepth 200000 in
theorem w_X6_readLetters_J54 {κ : GK} {E : GE} {rr : Int32} {mmz : Nat → Int32} {mtz : Nat → Int32} {mvz : Nat → Int64} {mxz : Nat → Int32} {maz : Int32} {mbz : Int32} {mbaz : Int32}   (hC : gC κ E cX6_readLetters RX6 (some .boolean) rm_X6_readLetters 5)   (h : p_X6_readLetters_J54 mm mt mv mx ma mb mba = some (rr, mmz, mtz, mvz, mxz, maz, mbz, mbaz)) : GG κ E (mws E mk mo mmz mtz mvz mxz mp mtd mf ms md mdd mn mst mpl mbb maz me mbz mbaz mpg mdi mbl mby mw mz mso mbo mco mcd ml mr, some (.int rr)) (mws E mk mo mm mt mv mx mp mtd mf ms md mdd mn mst mpl mbb ma me mb mba mpg mdi mbl mby mw mz mso mbo mco mcd ml mr) 54 [some (.ref (ea E 0)), none, none, none, none] [] := by
  unfold p_X6_readLetters_J54 at h
  refine g_aload_n (pc' := 55) (i := 0) hC dX6_readLetters_54 rfl rfl rfl ?_
  refine gf_X6_169 (pc' := 58) hC dX6_readLetters_55 rfl ?_
  refine g_if_ne (pc' := 61) (tgt := 65) hC dX6_readLetters_58 (by decide) rfl h (fun h => ?_) (fun h => ?_)
  · refine g_iconst (pc' := 62) (v := (nI 1)) hC dX6_readLetters_61 (by decide) rfl ?_
    refine g_goto (tgt := 66) hC dX6_readLetters_62 (by decide) ?_
    obtain ⟨rfl, rfl, rfl, rfl, rfl, rfl, rfl, rfl⟩ := inj8 h; exact g_zret hC (by decide) dX6_readLetters_66
  · refine g_iconst (pc' := 66) (v := (nI 0)) hC dX6_readLetters_65 (by decide) rfl ?_
    obtain ⟨rfl, rfl, rfl, rfl, rfl, rfl, rfl, rfl⟩ := inj8 h; exact g_zret hC (by decide) dX6_readLetters_66
set_option maxRecDepth 200000 in
theorem c_X6_readLetters (l : Launch) {E : GE} {rr : Int32} {mmz : Nat → Int32} {mtz : Nat → Int32} {mvz : Nat → Int64} {mxz : Nat → Int32} {maz : Int32} {mbz : Int32} {mbaz : Int32} {v1 : Int32} {v2 : Int32}  (h : p_X6_readLetters v1 v2 mm mt mv mx mf ma me mb mba = some (rr, mmz, mtz, mvz, mxz, maz, mbz, mbaz)) : Met l yX6_readLetters (.code yX6_readLetters cX6_readLetters 5 (some .boolean) :: gU) rm_X6_readLetters (gP E (mws E mk mo mm mt mv mx mp mtd mf ms md mdd mn mst mpl mbb ma me mb mba mpg mdi mbl mby mw mz mso mbo mco mcd ml mr) [.ref (ea E 0), .int v1, .int v2]) (gQ E (mws E mk mo mmz mtz mvz mxz mp mtd mf ms md mdd mn mst mpl mbb maz me mbz mbaz mpg mdi mbl mby mw mz mso mbo mco mcd ml mr) (some (.int rr))) 0 0 E.2.2.1 := by
  refine met_of (y := yX6_readLetters) (own := RX6) (lo := [some (.ref (ea E 0)), some (.int v1), some (.int v2), none, none]) (by decide) rfl rfl rfl (fun κ hl hC => ?_)
  subst hl
  unfold p_X6_readLetters at h
  refine g_aload_n (pc' := 1) (i := 0) hC dX6_readLetters_0 rfl rfl rfl ?_
  refine g_iload_n (pc' := 2) (i := 1) hC dX6_readLetters_1 rfl rfl rfl ?_
  refine g_iconst (pc' := 3) (v := (nI 1)) hC dX6_readLetters_2 (by decide) rfl ?_
  refine g_iload_n (pc' := 4) (i := 2) hC dX6_readLetters_3 rfl rfl rfl ?_
  refine g_i2l (pc' := 5) hC dX6_readLetters_4 rfl ?_
  obtain ⟨a_1, mm_2, mt_3, mv_4, mx_5, hc_6, h⟩ := bd5_some h
  refine g_callV (pc' := 8) hC (c_X6_adds _ hc_6) ml_X6_70 (rc_M) (by decide) rfl rfl rfl rfl dX6_readLetters_5 rfl ?_
  refine g_istore_n (pc' := 9) (i := 3) (lo' := [some (.ref (ea E 0)), some (.int v1), some (.int v2), some (.int a_1), none]) hC dX6_readLetters_8 rfl rfl rfl rfl rfl ?_
  refine g_iconst (pc' := 10) (v := (nI 0)) hC dX6_readLetters_9 (by decide) rfl ?_
  refine g_istore (pc' := 12) (i := 4) (lo' := [some (.ref (ea E 0)), some (.int v1), some (.int v2), some (.int a_1), some (.int (nI 0))]) hC dX6_readLetters_10 rfl rfl rfl rfl ?_
  refine w_X6_readLetters_L12 hC  ?_ _ _ _ _ _ _ h
  · intro mx_13 ma_14 mb_15 mba_16 h
    exact w_X6_readLetters_J54 hC   h
set_option maxRecDepth 200000 in
theorem c_X6_readLength (l : Launch) {E : GE} {rr : Int32} {maz : Int32} {mbz : Int32} {mbaz : Int32} {v1 : Int32}  (h : p_X6_readLength v1 mf ma me mb mba = some (rr, maz, mbz, mbaz)) : Met l yX6_readLength (.code yX6_readLength cX6_readLength 5 (some .int) :: gU) rm_X6_readLength (gP E (mws E mk mo mm mt mv mx mp mtd mf ms md mdd mn mst mpl mbb ma me mb mba mpg mdi mbl mby mw mz mso mbo mco mcd ml mr) [.ref (ea E 0), .int v1]) (gQ E (mws E mk mo mm mt mv mx mp mtd mf ms md mdd mn mst mpl mbb maz me mbz mbaz mpg mdi mbl mby mw mz mso mbo mco mcd ml mr) (some (.int rr))) 0 0 E.2.2.1 := by
  refine met_of (y := yX6_readLength) (own := RX6) (lo := [some (.ref (ea E 0)), some (.int v1), none, none, none]) (by decide) rfl rfl rfl (fun κ hl hC => ?_)
  subst hl
  unfold p_X6_readLength at h
  refine g_aload_n (pc' := 1) (i := 0) hC dX6_readLength_0 rfl rfl rfl ?_
  refine gf_X6_175 (pc' := 4) hC dX6_readLength_1 rfl ?_
  refine g_istore_n (pc' := 5) (i := 2) (lo' := [some (.ref (ea E 0)), some (.int v1), some (.int ma), none, none]) hC dX6_readLength_4 rfl rfl rfl rfl rfl ?_
  refine g_aload_n (pc' := 6) (i := 0) hC dX6_readLength_5 rfl rfl rfl ?_
  refine g_iconst (pc' := 7) (v := (nI 4)) hC dX6_readLength_6 (by decide) rfl ?_
  obtain ⟨a_1, ma_2, mb_3, mba_4, hc_5, h⟩ := bd4_some h
  refine g_callV (pc' := 10) hC (c_X6_readBytes _ hc_5) ml_X6_202 (rc_M) (by decide) rfl rfl rfl rfl dX6_readLength_7 rfl ?_
  refine g_l2i (pc' := 11) hC dX6_readLength_10 rfl ?_
  refine g_istore_n (pc' := 12) (i := 3) (lo' := [some (.ref (ea E 0)), some (.int v1), some (.int ma), some (.int (l2i a_1)), none]) hC dX6_readLength_11 rfl rfl rfl rfl rfl ?_
  refine g_aload_n (pc' := 13) (i := 0) hC dX6_readLength_12 rfl rfl rfl ?_
  refine gf_X6_169 (pc' := 16) hC dX6_readLength_13 rfl ?_
  refine g_if_eq (pc' := 19) (tgt := 21) hC dX6_readLength_16 (by decide) rfl h (fun h => ?_) (fun h => ?_)
  · refine g_iload_n (pc' := 22) (i := 3) hC dX6_readLength_21 rfl rfl rfl ?_
    refine g_if_lt (pc' := 25) (tgt := 43) hC dX6_readLength_22 (by decide) rfl h (fun h => ?_) (fun h => ?_)
    · refine g_aload_n (pc' := 44) (i := 0) hC dX6_readLength_43 rfl rfl rfl ?_
      refine g_bipush (pc' := 46) (v := (nI 10)) hC dX6_readLength_44 (by decide) rfl ?_
      refine g_iload_n (pc' := 47) (i := 2) hC dX6_readLength_46 rfl rfl rfl ?_
      obtain ⟨a_6, mb_7, mba_8, hc_9, h⟩ := bd3_some h
      refine g_callV (pc' := 50) hC (c_X6_fails _ hc_9) ml_X6_181 (rc_M) (by decide) rfl rfl rfl rfl dX6_readLength_47 rfl ?_
      refine g_istore (pc' := 52) (i := 4) (lo' := [some (.ref (ea E 0)), some (.int v1), some (.int ma), some (.int (l2i a_1)), some (.int a_6)]) hC dX6_readLength_50 rfl rfl rfl rfl ?_
      refine g_iconst (pc' := 53) (v := (-1 : Int32)) hC dX6_readLength_52 (by decide) rfl ?_
      obtain ⟨rfl, rfl, rfl, rfl⟩ := inj4 h; exact g_iret hC dX6_readLength_53
    · refine g_iload_n (pc' := 26) (i := 3) hC dX6_readLength_25 rfl rfl rfl ?_
      refine g_aload_n (pc' := 27) (i := 0) hC dX6_readLength_26 rfl rfl rfl ?_
      refine gf_X6_178 (pc' := 30) hC dX6_readLength_27 rfl ?_
      refine g_aload_n (pc' := 31) (i := 0) hC dX6_readLength_30 rfl rfl rfl ?_
      refine gf_X6_175 (pc' := 34) hC dX6_readLength_31 rfl ?_
      refine g_isub (pc' := 35) hC dX6_readLength_34 rfl ?_
      refine g_icmp_gt (pc' := 38) (tgt := 43) hC dX6_readLength_35 (by decide) rfl h (fun h => ?_) (fun h => ?_)
      · refine g_aload_n (pc' := 44) (i := 0) hC dX6_readLength_43 rfl rfl rfl ?_
        refine g_bipush (pc' := 46) (v := (nI 10)) hC dX6_readLength_44 (by decide) rfl ?_
        refine g_iload_n (pc' := 47) (i := 2) hC dX6_readLength_46 rfl rfl rfl ?_
        obtain ⟨a_10, mb_11, mba_12, hc_13, h⟩ := bd3_some h
        refine g_callV (pc' := 50) hC (c_X6_fails _ hc_13) ml_X6_181 (rc_M) (by decide) rfl rfl rfl rfl dX6_readLength_47 rfl ?_
        refine g_istore (pc' := 52) (i := 4) (lo' := [some (.ref (ea E 0)), some (.int v1), some (.int ma), some (.int (l2i a_1)), some (.int a_10)]) hC dX6_readLength_50 rfl rfl rfl rfl ?_
        refine g_iconst (pc' := 53) (v := (-1 : Int32)) hC dX6_readLength_52 (by decide) rfl ?_
        obtain ⟨rfl, rfl, rfl, rfl⟩ := inj4 h; exact g_iret hC dX6_readLength_53
      · refine g_iload_n (pc' := 39) (i := 3) hC dX6_readLength_38 rfl rfl rfl ?_
        refine g_iload_n (pc' := 40) (i := 1) hC dX6_readLength_39 rfl rfl rfl ?_
        refine g_icmp_le (pc' := 43) (tgt := 54) hC dX6_readLength_40 (by decide) rfl h (fun h => ?_) (fun h => ?_)
        · refine g_aload_n (pc' := 44) (i := 0) hC dX6_readLength_43 rfl rfl rfl ?_
          refine g_bipush (pc' := 46) (v := (nI 10)) hC dX6_readLength_44 (by decide) rfl ?_
          refine g_iload_n (pc' := 47) (i := 2) hC dX6_readLength_46 rfl rfl rfl ?_
          obtain ⟨a_14, mb_15, mba_16, hc_17, h⟩ := bd3_some h
          refine g_callV (pc' := 50) hC (c_X6_fails _ hc_17) ml_X6_181 (rc_M) (by decide) rfl rfl rfl rfl dX6_readLength_47 rfl ?_
          refine g_istore (pc' := 52) (i := 4) (lo' := [some (.ref (ea E 0)), some (.int v1), some (.int ma), some (.int (l2i a_1)), some (.int a_14)]) hC dX6_readLength_50 rfl rfl rfl rfl ?_
          refine g_iconst (pc' := 53) (v := (-1 : Int32)) hC dX6_readLength_52 (by decide) rfl ?_
          obtain ⟨rfl, rfl, rfl, rfl⟩ := inj4 h; exact g_iret hC dX6_readLength_53
        · refine g_iload_n (pc' := 55) (i := 3) hC dX6_readLength_54 rfl rfl rfl ?_
          obtain ⟨rfl, rfl, rfl, rfl⟩ := inj4 h; exact g_iret hC dX6_readLength_55
  · refine g_iconst (pc' := 20) (v := (-1 : Int32)) hC dX6_readLength_19 (by decide) rfl ?_
    obtain ⟨rfl, rfl, rfl, rfl⟩ := inj4 h; exact g_iret hC dX6_readLength_20
set_option maxRecDepth 200000 in
theorem w_X6_readPlain_J42 {κ : GK} {E : GE} {rr : Int32} {mmz : Nat → Int32} {mtz : Nat → Int32} {mvz : Nat → Int64} {mxz : Nat → Int32} {maz : Int32} {mbz : Int32} {mbaz : Int32} {v1 : Int32} {v2 : Int32} {s1 : Int32}  (hC : gC κ E cX6_readPlain RX6 (some .boolean) rm_X6_readPlain 5)   (h : p_X6_readPlain_J42 v1 v2 s1 mm mt mv mx mf ma me mb mba = some (rr, mmz, mtz, mvz, mxz, maz, mbz, mbaz)) : GG κ E (mws E mk mo mmz mtz mvz mxz mp mtd mf ms md mdd mn mst mpl mbb maz me mbz mbaz mpg mdi mbl mby mw mz mso mbo mco mcd ml mr, some (.int rr)) (mws E mk mo mm mt mv mx mp mtd mf ms md mdd mn mst mpl mbb ma me mb mba mpg mdi mbl mby mw mz mso mbo mco mcd ml mr) 42 [some (.ref (ea E 0)), some (.int v1), some (.int v2), none, none] [.int s1, .ref (ea E 0)] := by
  unfold p_X6_readPlain_J42 at h
  obtain ⟨a_15, ma_16, mb_17, mba_18, hc_19, h⟩ := bd4_some h
  refine g_callV (pc' := 45) hC (c_X6_readBytes _ hc_19) ml_X6_202 (rc_M) (by decide) rfl rfl rfl rfl dX6_readPlain_42 rfl ?_
  refine g_lstore_n (pc' := 46) (i := 3) (lo' := [some (.ref (ea E 0)), some (.int v1), some (.int v2), some (.long a_15), none]) hC dX6_readPlain_45 rfl rfl rfl rfl rfl ?_
  refine g_aload_n (pc' := 47) (i := 0) hC dX6_readPlain_46 rfl rfl rfl ?_
  refine gf_X6_169 (pc' := 50) hC dX6_readPlain_47 rfl ?_
  refine g_if_eq (pc' := 53) (tgt := 55) hC dX6_readPlain_50 (by decide) rfl h (fun h => ?_) (fun h => ?_)
  · refine g_aload_n (pc' := 56) (i := 0) hC dX6_readPlain_55 rfl rfl rfl ?_
    refine g_iload_n (pc' := 57) (i := 1) hC dX6_readPlain_56 rfl rfl rfl ?_
    refine g_iload_n (pc' := 58) (i := 2) hC dX6_readPlain_57 rfl rfl rfl ?_
    refine g_if_ne (pc' := 61) (tgt := 67) hC dX6_readPlain_58 (by decide) rfl h (fun h => ?_) (fun h => ?_)
    · refine g_lload_n (pc' := 62) (i := 3) hC dX6_readPlain_61 rfl rfl rfl ?_
      refine g_l2i (pc' := 63) hC dX6_readPlain_62 rfl ?_
      refine g_i2l (pc' := 64) hC dX6_readPlain_63 rfl ?_
      refine g_goto (tgt := 68) hC dX6_readPlain_64 (by decide) ?_
      obtain ⟨mm_20, mt_21, mv_22, mx_23, hc_24, h⟩ := bd4_some h
      refine g_callV (pc' := 71) hC (c_X6_reads _ hc_24) ml_X6_219 (rc_M) (by decide) rfl rfl rfl rfl dX6_readPlain_68 rfl ?_
      refine g_iconst (pc' := 72) (v := (nI 1)) hC dX6_readPlain_71 (by decide) rfl ?_
      obtain ⟨rfl, rfl, rfl, rfl, rfl, rfl, rfl, rfl⟩ := inj8 h; exact g_zret hC (by decide) dX6_readPlain_72
    · refine g_lload_n (pc' := 68) (i := 3) hC dX6_readPlain_67 rfl rfl rfl ?_
      obtain ⟨mm_25, mt_26, mv_27, mx_28, hc_29, h⟩ := bd4_some h
      refine g_callV (pc' := 71) hC (c_X6_reads _ hc_29) ml_X6_219 (rc_M) (by decide) rfl rfl rfl rfl dX6_readPlain_68 rfl ?_
      refine g_iconst (pc' := 72) (v := (nI 1)) hC dX6_readPlain_71 (by decide) rfl ?_
      obtain ⟨rfl, rfl, rfl, rfl, rfl, rfl, rfl, rfl⟩ := inj8 h; exact g_zret hC (by decide) dX6_readPlain_72
  · refine g_iconst (pc' := 54) (v := (nI 0)) hC dX6_readPlain_53 (by decide) rfl ?_
    obtain ⟨rfl, rfl, rfl, rfl, rfl, rfl, rfl, rfl⟩ := inj8 h; exact g_zret hC (by decide) dX6_readPlain_54
set_option maxRecDepth 200000 in
theorem c_X6_readPlain (l : Launch) {E : GE} {rr : Int32} {mmz : Nat → Int32} {mtz : Nat → Int32} {mvz : Nat → Int64} {mxz : Nat → Int32} {maz : Int32} {mbz : Int32} {mbaz : Int32} {v1 : Int32} {v2 : Int32}  (h : p_X6_readPlain v1 v2 mm mt mv mx mf ma me mb mba = some (rr, mmz, mtz, mvz, mxz, maz, mbz, mbaz)) : Met l yX6_readPlain (.code yX6_readPlain cX6_readPlain 5 (some .boolean) :: gU) rm_X6_readPlain (gP E (mws E mk mo mm mt mv mx mp mtd mf ms md mdd mn mst mpl mbb ma me mb mba mpg mdi mbl mby mw mz mso mbo mco mcd ml mr) [.ref (ea E 0), .int v1, .int v2]) (gQ E (mws E mk mo mmz mtz mvz mxz mp mtd mf ms md mdd mn mst mpl mbb maz me mbz mbaz mpg mdi mbl mby mw mz mso mbo mco mcd ml mr) (some (.int rr))) 0 0 E.2.2.1 := by
  refine met_of (y := yX6_readPlain) (own := RX6) (lo := [some (.ref (ea E 0)), some (.int v1), some (.int v2), none, none]) (by decide) rfl rfl rfl (fun κ hl hC => ?_)
  subst hl
  unfold p_X6_readPlain at h
  refine g_iload_n (pc' := 1) (i := 2) hC dX6_readPlain_0 rfl rfl rfl ?_
  refine g_iconst (pc' := 2) (v := (nI 2)) hC dX6_readPlain_1 (by decide) rfl ?_
  refine g_icmp_ne (pc' := 5) (tgt := 31) hC dX6_readPlain_2 (by decide) rfl h (fun h => ?_) (fun h => ?_)
  · refine g_aload_n (pc' := 6) (i := 0) hC dX6_readPlain_5 rfl rfl rfl ?_
    refine g_bipush (pc' := 8) (v := (nI 40)) hC dX6_readPlain_6 (by decide) rfl ?_
    obtain ⟨a_1, ma_2, mb_3, mba_4, hc_5, h⟩ := bd4_some h
    refine g_callV (pc' := 11) hC (c_X6_readLength _ hc_5) ml_X6_212 (rc_M) (by decide) rfl rfl rfl rfl dX6_readPlain_8 rfl ?_
    refine g_istore_n (pc' := 12) (i := 3) (lo' := [some (.ref (ea E 0)), some (.int v1), some (.int v2), some (.int a_1), none]) hC dX6_readPlain_11 rfl rfl rfl rfl rfl ?_
    refine g_iload_n (pc' := 13) (i := 3) hC dX6_readPlain_12 rfl rfl rfl ?_
    refine g_if_lt (pc' := 16) (tgt := 29) hC dX6_readPlain_13 (by decide) rfl h (fun h => ?_) (fun h => ?_)
    · refine g_iconst (pc' := 30) (v := (nI 0)) hC dX6_readPlain_29 (by decide) rfl ?_
      obtain ⟨rfl, rfl, rfl, rfl, rfl, rfl, rfl, rfl⟩ := inj8 h; exact g_zret hC (by decide) dX6_readPlain_30
    · refine g_aload_n (pc' := 17) (i := 0) hC dX6_readPlain_16 rfl rfl rfl ?_
      refine g_iload_n (pc' := 18) (i := 1) hC dX6_readPlain_17 rfl rfl rfl ?_
      refine g_iload_n (pc' := 19) (i := 3) hC dX6_readPlain_18 rfl rfl rfl ?_
      obtain ⟨a_6, mm_7, mt_8, mv_9, mx_10, ma_11, mb_12, mba_13, hc_14, h⟩ := bd8_some h
      refine g_callV (pc' := 22) hC (c_X6_readLetters _ hc_14) ml_X6_216 (rc_M) (by decide) rfl rfl rfl rfl dX6_readPlain_19 rfl ?_
      refine g_if_eq (pc' := 25) (tgt := 29) hC dX6_readPlain_22 (by decide) rfl h (fun h => ?_) (fun h => ?_)
      · refine g_iconst (pc' := 30) (v := (nI 0)) hC dX6_readPlain_29 (by decide) rfl ?_
        obtain ⟨rfl, rfl, rfl, rfl, rfl, rfl, rfl, rfl⟩ := inj8 h; exact g_zret hC (by decide) dX6_readPlain_30
      · refine g_iconst (pc' := 26) (v := (nI 1)) hC dX6_readPlain_25 (by decide) rfl ?_
        refine g_goto (tgt := 30) hC dX6_readPlain_26 (by decide) ?_
        obtain ⟨rfl, rfl, rfl, rfl, rfl, rfl, rfl, rfl⟩ := inj8 h; exact g_zret hC (by decide) dX6_readPlain_30
  · refine g_aload_n (pc' := 32) (i := 0) hC dX6_readPlain_31 rfl rfl rfl ?_
    refine g_iload_n (pc' := 33) (i := 2) hC dX6_readPlain_32 rfl rfl rfl ?_
    refine g_if_ne (pc' := 36) (tgt := 40) hC dX6_readPlain_33 (by decide) rfl h (fun h => ?_) (fun h => ?_)
    · refine g_iconst (pc' := 37) (v := (nI 4)) hC dX6_readPlain_36 (by decide) rfl ?_
      refine g_goto (tgt := 42) hC dX6_readPlain_37 (by decide) ?_
      exact w_X6_readPlain_J42 hC   h
    · refine g_bipush (pc' := 42) (v := (nI 8)) hC dX6_readPlain_40 (by decide) rfl ?_
      exact w_X6_readPlain_J42 hC   h
set_option maxRecDepth 200000 in
theorem c_X6_field (l : Launch) {E : GE} {rr : Int32} {maz : Int32} {mbz : Int32} {mbaz : Int32} {v1 : Int32}  (h : p_X6_field v1 mf ma me mb mba = some (rr, maz, mbz, mbaz)) : Met l yX6_field (.code yX6_field cX6_field 4 (some .boolean) :: gU) rm_X6_field (gP E (mws E mk mo mm mt mv mx mp mtd mf ms md mdd mn mst mpl mbb ma me mb mba mpg mdi mbl mby mw mz mso mbo mco mcd ml mr) [.ref (ea E 0), .int v1]) (gQ E (mws E mk mo mm mt mv mx mp mtd mf ms md mdd mn mst mpl mbb maz me mbz mbaz mpg mdi mbl mby mw mz mso mbo mco mcd ml mr) (some (.int rr))) 0 0 E.2.2.1 := by
  refine met_of (y := yX6_field) (own := RX6) (lo := [some (.ref (ea E 0)), some (.int v1), none, none]) (by decide) rfl rfl rfl (fun κ hl hC => ?_)
  subst hl
  unfold p_X6_field at h
  refine g_aload_n (pc' := 1) (i := 0) hC dX6_field_0 rfl rfl rfl ?_
  refine gf_X6_175 (pc' := 4) hC dX6_field_1 rfl ?_
  refine g_istore_n (pc' := 5) (i := 2) (lo' := [some (.ref (ea E 0)), some (.int v1), some (.int ma), none]) hC dX6_field_4 rfl rfl rfl rfl rfl ?_
  refine g_aload_n (pc' := 6) (i := 0) hC dX6_field_5 rfl rfl rfl ?_
  obtain ⟨a_1, ma_2, mb_3, mba_4, hc_5, h⟩ := bd4_some h
  refine g_callV (pc' := 9) hC (c_X6_next _ hc_5) ml_X6_184 (rc_M) (by decide) rfl rfl rfl rfl dX6_field_6 rfl ?_
  refine g_istore_n (pc' := 10) (i := 3) (lo' := [some (.ref (ea E 0)), some (.int v1), some (.int ma), some (.int a_1)]) hC dX6_field_9 rfl rfl rfl rfl rfl ?_
  refine g_aload_n (pc' := 11) (i := 0) hC dX6_field_10 rfl rfl rfl ?_
  refine gf_X6_169 (pc' := 14) hC dX6_field_11 rfl ?_
  refine g_if_ne (pc' := 17) (tgt := 36) hC dX6_field_14 (by decide) rfl h (fun h => ?_) (fun h => ?_)
  · refine g_iload_n (pc' := 18) (i := 3) hC dX6_field_17 rfl rfl rfl ?_
    refine g_iload_n (pc' := 19) (i := 1) hC dX6_field_18 rfl rfl rfl ?_
    refine g_icmp_eq (pc' := 22) (tgt := 32) hC dX6_field_19 (by decide) rfl h (fun h => ?_) (fun h => ?_)
    · refine g_iconst (pc' := 33) (v := (nI 1)) hC dX6_field_32 (by decide) rfl ?_
      refine g_goto (tgt := 37) hC dX6_field_33 (by decide) ?_
      obtain ⟨rfl, rfl, rfl, rfl⟩ := inj4 h; exact g_zret hC (by decide) dX6_field_37
    · refine g_aload_n (pc' := 23) (i := 0) hC dX6_field_22 rfl rfl rfl ?_
      refine g_bipush (pc' := 25) (v := (nI 7)) hC dX6_field_23 (by decide) rfl ?_
      refine g_iload_n (pc' := 26) (i := 2) hC dX6_field_25 rfl rfl rfl ?_
      obtain ⟨a_6, mb_7, mba_8, hc_9, h⟩ := bd3_some h
      refine g_callV (pc' := 29) hC (c_X6_fails _ hc_9) ml_X6_181 (rc_M) (by decide) rfl rfl rfl rfl dX6_field_26 rfl ?_
      refine g_if_eq (pc' := 32) (tgt := 36) hC dX6_field_29 (by decide) rfl h (fun h => ?_) (fun h => ?_)
      · refine g_iconst (pc' := 37) (v := (nI 0)) hC dX6_field_36 (by decide) rfl ?_
        obtain ⟨rfl, rfl, rfl, rfl⟩ := inj4 h; exact g_zret hC (by decide) dX6_field_37
      · refine g_iconst (pc' := 33) (v := (nI 1)) hC dX6_field_32 (by decide) rfl ?_
        refine g_goto (tgt := 37) hC dX6_field_33 (by decide) ?_
        obtain ⟨rfl, rfl, rfl, rfl⟩ := inj4 h; exact g_zret hC (by decide) dX6_field_37
  · refine g_iconst (pc' := 37) (v := (nI 0)) hC dX6_field_36 (by decide) rfl ?_
    obtain ⟨rfl, rfl, rfl, rfl⟩ := inj4 h; exact g_zret hC (by decide) dX6_field_37
set_option maxRecDepth 200000 in
theorem c_X6_fieldZig (l : Launch) {E : GE} {rr : Int64} {maz : Int32} {mbz : Int32} {mbaz : Int32} {mzz : Int32}   (h : p_X6_fieldZig mf ma me mb mba mz = some (rr, maz, mbz, mbaz, mzz)) : Met l yX6_fieldZig (.code yX6_fieldZig cX6_fieldZig 1 (some .long) :: gU) rm_X6_fieldZig (gP E (mws E mk mo mm mt mv mx mp mtd mf ms md mdd mn mst mpl mbb ma me mb mba mpg mdi mbl mby mw mz mso mbo mco mcd ml mr) [.ref (ea E 0)]) (gQ E (mws E mk mo mm mt mv mx mp mtd mf ms md mdd mn mst mpl mbb maz me mbz mbaz mpg mdi mbl mby mw mzz mso mbo mco mcd ml mr) (some (.long rr))) 0 0 E.2.2.1 := by
  refine met_of (y := yX6_fieldZig) (own := RX6) (lo := [some (.ref (ea E 0))]) (by decide) rfl rfl rfl (fun κ hl hC => ?_)
  subst hl
  unfold p_X6_fieldZig at h
  refine g_aload_n (pc' := 1) (i := 0) hC dX6_fieldZig_0 rfl rfl rfl ?_
  refine g_aload_n (pc' := 2) (i := 0) hC dX6_fieldZig_1 rfl rfl rfl ?_
  refine gf_X6_175 (pc' := 5) hC dX6_fieldZig_2 rfl ?_
  refine pf_X6_223 (pc' := 8) hC dX6_fieldZig_5 rfl ?_
  refine g_aload_n (pc' := 9) (i := 0) hC dX6_fieldZig_8 rfl rfl rfl ?_
  obtain ⟨a_1, ma_2, mb_3, mba_4, hc_5, h⟩ := bd4_some h
  refine g_callV (pc' := 12) hC (c_X6_readZig _ hc_5) ml_X6_209 (rc_M) (by decide) rfl rfl rfl rfl dX6_fieldZig_9 rfl ?_
  obtain ⟨rfl, rfl, rfl, rfl, rfl⟩ := inj5 h; exact g_lret hC dX6_fieldZig_12
set_option maxRecDepth 200000 in
theorem w_X6_readInner_J190 {κ : GK} {E : GE} {rr : Int32} {maz : Int32} {mbz : Int32} {mbaz : Int32} {mzz : Int32} {mcoz : Int32} {mcdz : Int32} {v2 : Int64} {v4 : Int32}  (hC : gC κ E cX6_readInner RX6 (some .boolean) rm_X6_readInner 5)   (h : p_X6_readInner_J190 v2 v4 ma mb mba mz mco = some (rr, maz, mbz, mbaz, mzz, mcoz, mcdz)) : GG κ E (mws E mk mo mm mt mv mx mp mtd mf ms md mdd mn mst mpl mbb maz me mbz mbaz mpg mdi mbl mby mw mzz mso mbo mcoz mcdz ml mr, some (.int rr)) (mws E mk mo mm mt mv mx mp mtd mf ms md mdd mn mst mpl mbb ma me mb mba mpg mdi mbl mby mw mz mso mbo mco mcd ml mr) 190 [some (.ref (ea E 0)), none, some (.long v2), none, some (.int v4)] [] := by
  unfold p_X6_readInner_J190 at h
  refine g_aload_n (pc' := 191) (i := 0) hC dX6_readInner_190 rfl rfl rfl ?_
  refine g_lload_n (pc' := 192) (i := 2) hC dX6_readInner_191 rfl rfl rfl ?_
  refine g_l2i (pc' := 193) hC dX6_readInner_192 rfl ?_
  refine pf_X6_251 (pc' := 196) hC dX6_readInner_193 rfl ?_
  refine g_iload (pc' := 198) (i := 4) hC dX6_readInner_196 rfl rfl ?_
  refine g_if_ne (pc' := 201) (tgt := 214) hC dX6_readInner_198 (by decide) rfl h (fun h => ?_) (fun h => ?_)
  · refine g_aload_n (pc' := 202) (i := 0) hC dX6_readInner_201 rfl rfl rfl ?_
    refine g_bipush (pc' := 204) (v := (nI 8)) hC dX6_readInner_202 (by decide) rfl ?_
    refine g_aload_n (pc' := 205) (i := 0) hC dX6_readInner_204 rfl rfl rfl ?_
    refine gf_X6_223 (pc' := 208) hC dX6_readInner_205 rfl ?_
    obtain ⟨a_39, mb_40, mba_41, hc_42, h⟩ := bd3_some h
    refine g_callV (pc' := 211) hC (c_X6_fails _ hc_42) ml_X6_181 (rc_M) (by decide) rfl rfl rfl rfl dX6_readInner_208 rfl ?_
    refine g_if_eq (pc' := 214) (tgt := 218) hC dX6_readInner_211 (by decide) rfl h (fun h => ?_) (fun h => ?_)
    · refine g_iconst (pc' := 219) (v := (nI 0)) hC dX6_readInner_218 (by decide) rfl ?_
      obtain ⟨rfl, rfl, rfl, rfl, rfl, rfl, rfl⟩ := inj7 h; exact g_zret hC (by decide) dX6_readInner_219
    · refine g_iconst (pc' := 215) (v := (nI 1)) hC dX6_readInner_214 (by decide) rfl ?_
      refine g_goto (tgt := 219) hC dX6_readInner_215 (by decide) ?_
      obtain ⟨rfl, rfl, rfl, rfl, rfl, rfl, rfl⟩ := inj7 h; exact g_zret hC (by decide) dX6_readInner_219
  · refine g_iconst (pc' := 215) (v := (nI 1)) hC dX6_readInner_214 (by decide) rfl ?_
    refine g_goto (tgt := 219) hC dX6_readInner_215 (by decide) ?_
    obtain ⟨rfl, rfl, rfl, rfl, rfl, rfl, rfl⟩ := inj7 h; exact g_zret hC (by decide) dX6_readInner_219
set_option maxRecDepth 200000 in
theorem w_X6_readInner_J188 {κ : GK} {E : GE} {rr : Int32} {maz : Int32} {mbz : Int32} {mbaz : Int32} {mzz : Int32} {mcoz : Int32} {mcdz : Int32} {v2 : Int64} {s0 : Int32}  (hC : gC κ E cX6_readInner RX6 (some .boolean) rm_X6_readInner 5)   (h : p_X6_readInner_J188 v2 s0 ma mb mba mz mco = some (rr, maz, mbz, mbaz, mzz, mcoz, mcdz)) : GG κ E (mws E mk mo mm mt mv mx mp mtd mf ms md mdd mn mst mpl mbb maz me mbz mbaz mpg mdi mbl mby mw mzz mso mbo mcoz mcdz ml mr, some (.int rr)) (mws E mk mo mm mt mv mx mp mtd mf ms md mdd mn mst mpl mbb ma me mb mba mpg mdi mbl mby mw mz mso mbo mco mcd ml mr) 188 [some (.ref (ea E 0)), none, some (.long v2), none, none] [.int s0] := by
  unfold p_X6_readInner_J188 at h
  refine g_istore (pc' := 190) (i := 4) (lo' := [some (.ref (ea E 0)), none, some (.long v2), none, some (.int s0)]) hC dX6_readInner_188 rfl rfl rfl rfl ?_
  exact w_X6_readInner_J190 hC   h
set_option maxRecDepth 200000 in
theorem w_X6_readInner_J183 {κ : GK} {E : GE} {rr : Int32} {maz : Int32} {mbz : Int32} {mbaz : Int32} {mzz : Int32} {mcoz : Int32} {mcdz : Int32} {v2 : Int64}  (hC : gC κ E cX6_readInner RX6 (some .boolean) rm_X6_readInner 5)   (h : p_X6_readInner_J183 v2 ma mb mba mz mco = some (rr, maz, mbz, mbaz, mzz, mcoz, mcdz)) : GG κ E (mws E mk mo mm mt mv mx mp mtd mf ms md mdd mn mst mpl mbb maz me mbz mbaz mpg mdi mbl mby mw mzz mso mbo mcoz mcdz ml mr, some (.int rr)) (mws E mk mo mm mt mv mx mp mtd mf ms md mdd mn mst mpl mbb ma me mb mba mpg mdi mbl mby mw mz mso mbo mco mcd ml mr) 183 [some (.ref (ea E 0)), none, some (.long v2), none, none] [] := by
  unfold p_X6_readInner_J183 at h
  refine g_iconst (pc' := 184) (v := (nI 1)) hC dX6_readInner_183 (by decide) rfl ?_
  refine g_goto (tgt := 188) hC dX6_readInner_184 (by decide) ?_
  exact w_X6_readInner_J188 hC   h
set_option maxRecDepth 200000 in
theorem w_X6_readInner_J187 {κ : GK} {E : GE} {rr : Int32} {maz : Int32} {mbz : Int32} {mbaz : Int32} {mzz : Int32} {mcoz : Int32} {mcdz : Int32} {v2 : Int64}  (hC : gC κ E cX6_readInner RX6 (some .boolean) rm_X6_readInner 5)   (h : p_X6_readInner_J187 v2 ma mb mba mz mco = some (rr, maz, mbz, mbaz, mzz, mcoz, mcdz)) : GG κ E (mws E mk mo mm mt mv mx mp mtd mf ms md mdd mn mst mpl mbb maz me mbz mbaz mpg mdi mbl mby mw mzz mso mbo mcoz mcdz ml mr, some (.int rr)) (mws E mk mo mm mt mv mx mp mtd mf ms md mdd mn mst mpl mbb ma me mb mba mpg mdi mbl mby mw mz mso mbo mco mcd ml mr) 187 [some (.ref (ea E 0)), none, some (.long v2), none, none] [] := by
  unfold p_X6_readInner_J187 at h
  refine g_iconst (pc' := 188) (v := (nI 0)) hC dX6_readInner_187 (by decide) rfl ?_
  exact w_X6_readInner_J188 hC   h
set_option maxRecDepth 200000 in
theorem w_X6_readInner_J168 {κ : GK} {E : GE} {rr : Int32} {maz : Int32} {mbz : Int32} {mbaz : Int32} {mzz : Int32} {mcoz : Int32} {mcdz : Int32} {v2 : Int64}  (hC : gC κ E cX6_readInner RX6 (some .boolean) rm_X6_readInner 5)   (h : p_X6_readInner_J168 v2 ma mb mba mdi mz mco = some (rr, maz, mbz, mbaz, mzz, mcoz, mcdz)) : GG κ E (mws E mk mo mm mt mv mx mp mtd mf ms md mdd mn mst mpl mbb maz me mbz mbaz mpg mdi mbl mby mw mzz mso mbo mcoz mcdz ml mr, some (.int rr)) (mws E mk mo mm mt mv mx mp mtd mf ms md mdd mn mst mpl mbb ma me mb mba mpg mdi mbl mby mw mz mso mbo mco mcd ml mr) 168 [some (.ref (ea E 0)), none, some (.long v2), none, none] [] := by
  unfold p_X6_readInner_J168 at h
  refine g_lload_n (pc' := 169) (i := 2) hC dX6_readInner_168 rfl rfl rfl ?_
  refine g_ldc2_w (pc' := 172) (v := (lN 8)) hC u_14 dX6_readInner_169 rfl ?_
  refine g_lcmp_ne (pc' := 176) (tgt := 187) hC dX6_readInner_172 dX6_readInner_173 rfl (by decide) rfl h (fun h => ?_) (fun h => ?_)
  · refine g_aload_n (pc' := 177) (i := 0) hC dX6_readInner_176 rfl rfl rfl ?_
    refine gf_X6_248 (pc' := 180) hC dX6_readInner_177 rfl ?_
    refine g_if_lt (pc' := 183) (tgt := 187) hC dX6_readInner_180 (by decide) rfl h (fun h => ?_) (fun h => ?_)
    · exact w_X6_readInner_J187 hC   h
    · exact w_X6_readInner_J183 hC   h
  · exact w_X6_readInner_J187 hC   h
set_option maxRecDepth 200000 in
theorem w_X6_readInner_J155 {κ : GK} {E : GE} {rr : Int32} {maz : Int32} {mbz : Int32} {mbaz : Int32} {mzz : Int32} {mcoz : Int32} {mcdz : Int32} {v1 : Int32} {v2 : Int64}  (hC : gC κ E cX6_readInner RX6 (some .boolean) rm_X6_readInner 5)   (h : p_X6_readInner_J155 v1 v2 ma mb mba mdi mz mco = some (rr, maz, mbz, mbaz, mzz, mcoz, mcdz)) : GG κ E (mws E mk mo mm mt mv mx mp mtd mf ms md mdd mn mst mpl mbb maz me mbz mbaz mpg mdi mbl mby mw mzz mso mbo mcoz mcdz ml mr, some (.int rr)) (mws E mk mo mm mt mv mx mp mtd mf ms md mdd mn mst mpl mbb ma me mb mba mpg mdi mbl mby mw mz mso mbo mco mcd ml mr) 155 [some (.ref (ea E 0)), some (.int v1), some (.long v2), none, none] [] := by
  unfold p_X6_readInner_J155 at h
  refine g_lload_n (pc' := 156) (i := 2) hC dX6_readInner_155 rfl rfl rfl ?_
  refine g_ldc2_w (pc' := 159) (v := (lN 3)) hC u_13 dX6_readInner_156 rfl ?_
  refine g_lcmp_ne (pc' := 163) (tgt := 168) hC dX6_readInner_159 dX6_readInner_160 rfl (by decide) rfl h (fun h => ?_) (fun h => ?_)
  · refine g_iload_n (pc' := 164) (i := 1) hC dX6_readInner_163 rfl rfl rfl ?_
    refine g_iconst (pc' := 165) (v := (nI 3)) hC dX6_readInner_164 (by decide) rfl ?_
    refine g_icmp_eq (pc' := 168) (tgt := 183) hC dX6_readInner_165 (by decide) rfl h (fun h => ?_) (fun h => ?_)
    · refine g_weak (lo' := [some (.ref (ea E 0)), none, some (.long v2), none, none]) rfl ?_
      exact w_X6_readInner_J183 hC   h
    · refine g_weak (lo' := [some (.ref (ea E 0)), none, some (.long v2), none, none]) rfl ?_
      exact w_X6_readInner_J168 hC   h
  · refine g_weak (lo' := [some (.ref (ea E 0)), none, some (.long v2), none, none]) rfl ?_
    exact w_X6_readInner_J168 hC   h
set_option maxRecDepth 200000 in
theorem w_X6_readInner_J142 {κ : GK} {E : GE} {rr : Int32} {maz : Int32} {mbz : Int32} {mbaz : Int32} {mzz : Int32} {mcoz : Int32} {mcdz : Int32} {v1 : Int32} {v2 : Int64}  (hC : gC κ E cX6_readInner RX6 (some .boolean) rm_X6_readInner 5)   (h : p_X6_readInner_J142 v1 v2 ma mb mba mdi mz mco = some (rr, maz, mbz, mbaz, mzz, mcoz, mcdz)) : GG κ E (mws E mk mo mm mt mv mx mp mtd mf ms md mdd mn mst mpl mbb maz me mbz mbaz mpg mdi mbl mby mw mzz mso mbo mcoz mcdz ml mr, some (.int rr)) (mws E mk mo mm mt mv mx mp mtd mf ms md mdd mn mst mpl mbb ma me mb mba mpg mdi mbl mby mw mz mso mbo mco mcd ml mr) 142 [some (.ref (ea E 0)), some (.int v1), some (.long v2), none, none] [] := by
  unfold p_X6_readInner_J142 at h
  refine g_lload_n (pc' := 143) (i := 2) hC dX6_readInner_142 rfl rfl rfl ?_
  refine g_ldc2_w (pc' := 146) (v := (lN 6)) hC u_23 dX6_readInner_143 rfl ?_
  refine g_lcmp_ne (pc' := 150) (tgt := 155) hC dX6_readInner_146 dX6_readInner_147 rfl (by decide) rfl h (fun h => ?_) (fun h => ?_)
  · refine g_iload_n (pc' := 151) (i := 1) hC dX6_readInner_150 rfl rfl rfl ?_
    refine g_iconst (pc' := 152) (v := (nI 2)) hC dX6_readInner_151 (by decide) rfl ?_
    refine g_icmp_eq (pc' := 155) (tgt := 183) hC dX6_readInner_152 (by decide) rfl h (fun h => ?_) (fun h => ?_)
    · refine g_weak (lo' := [some (.ref (ea E 0)), none, some (.long v2), none, none]) rfl ?_
      exact w_X6_readInner_J183 hC   h
    · exact w_X6_readInner_J155 hC   h
  · exact w_X6_readInner_J155 hC   h
set_option maxRecDepth 200000 in
theorem w_X6_readInner_J115 {κ : GK} {E : GE} {rr : Int32} {maz : Int32} {mbz : Int32} {mbaz : Int32} {mzz : Int32} {mcoz : Int32} {mcdz : Int32} {v1 : Int32} {v2 : Int64} {s0 : Int32}  (hC : gC κ E cX6_readInner RX6 (some .boolean) rm_X6_readInner 5)   (h : p_X6_readInner_J115 v1 v2 s0 ma mb mba mdi mz mso mco = some (rr, maz, mbz, mbaz, mzz, mcoz, mcdz)) : GG κ E (mws E mk mo mm mt mv mx mp mtd mf ms md mdd mn mst mpl mbb maz me mbz mbaz mpg mdi mbl mby mw mzz mso mbo mcoz mcdz ml mr, some (.int rr)) (mws E mk mo mm mt mv mx mp mtd mf ms md mdd mn mst mpl mbb ma me mb mba mpg mdi mbl mby mw mz mso mbo mco mcd ml mr) 115 [some (.ref (ea E 0)), some (.int v1), some (.long v2), none, none] [.int s0] := by
  unfold p_X6_readInner_J115 at h
  refine g_istore (pc' := 117) (i := 4) (lo' := [some (.ref (ea E 0)), some (.int v1), some (.long v2), none, some (.int s0)]) hC dX6_readInner_115 rfl rfl rfl rfl ?_
  refine g_aload_n (pc' := 118) (i := 0) hC dX6_readInner_117 rfl rfl rfl ?_
  refine gf_X6_232 (pc' := 121) hC dX6_readInner_118 rfl ?_
  refine g_if_ne (pc' := 124) (tgt := 190) hC dX6_readInner_121 (by decide) rfl h (fun h => ?_) (fun h => ?_)
  · refine g_iload (pc' := 126) (i := 4) hC dX6_readInner_124 rfl rfl ?_
    refine g_if_ne (pc' := 129) (tgt := 183) hC dX6_readInner_126 (by decide) rfl h (fun h => ?_) (fun h => ?_)
    · refine g_lload_n (pc' := 130) (i := 2) hC dX6_readInner_129 rfl rfl rfl ?_
      refine g_ldc2_w (pc' := 133) (v := (lN 5)) hC u_22 dX6_readInner_130 rfl ?_
      refine g_lcmp_ne (pc' := 137) (tgt := 142) hC dX6_readInner_133 dX6_readInner_134 rfl (by decide) rfl h (fun h => ?_) (fun h => ?_)
      · refine g_iload_n (pc' := 138) (i := 1) hC dX6_readInner_137 rfl rfl rfl ?_
        refine g_iconst (pc' := 139) (v := (nI 2)) hC dX6_readInner_138 (by decide) rfl ?_
        refine g_icmp_lt (pc' := 142) (tgt := 183) hC dX6_readInner_139 (by decide) rfl h (fun h => ?_) (fun h => ?_)
        · refine g_weak (lo' := [some (.ref (ea E 0)), none, some (.long v2), none, none]) rfl ?_
          exact w_X6_readInner_J183 hC   h
        · refine g_weak (lo' := [some (.ref (ea E 0)), some (.int v1), some (.long v2), none, none]) rfl ?_
          exact w_X6_readInner_J142 hC   h
      · refine g_weak (lo' := [some (.ref (ea E 0)), some (.int v1), some (.long v2), none, none]) rfl ?_
        exact w_X6_readInner_J142 hC   h
    · refine g_weak (lo' := [some (.ref (ea E 0)), none, some (.long v2), none, none]) rfl ?_
      exact w_X6_readInner_J183 hC   h
  · refine g_weak (lo' := [some (.ref (ea E 0)), none, some (.long v2), none, some (.int s0)]) rfl ?_
    exact w_X6_readInner_J190 hC   h
set_option maxRecDepth 200000 in
theorem w_X6_readInner_J73 {κ : GK} {E : GE} {rr : Int32} {maz : Int32} {mbz : Int32} {mbaz : Int32} {mzz : Int32} {mcoz : Int32} {mcdz : Int32} {v1 : Int32} {v2 : Int64}  (hC : gC κ E cX6_readInner RX6 (some .boolean) rm_X6_readInner 5)   (h : p_X6_readInner_J73 v1 v2 mf ma me mb mba mdi mz mso mcd = some (rr, maz, mbz, mbaz, mzz, mcoz, mcdz)) : GG κ E (mws E mk mo mm mt mv mx mp mtd mf ms md mdd mn mst mpl mbb maz me mbz mbaz mpg mdi mbl mby mw mzz mso mbo mcoz mcdz ml mr, some (.int rr)) (mws E mk mo mm mt mv mx mp mtd mf ms md mdd mn mst mpl mbb ma me mb mba mpg mdi mbl mby mw mz mso mbo mco mcd ml mr) 73 [some (.ref (ea E 0)), some (.int v1), some (.long v2), none, none] [] := by
  unfold p_X6_readInner_J73 at h
  refine g_aload_n (pc' := 74) (i := 0) hC dX6_readInner_73 rfl rfl rfl ?_
  refine g_lload_n (pc' := 75) (i := 2) hC dX6_readInner_74 rfl rfl rfl ?_
  refine g_l2i (pc' := 76) hC dX6_readInner_75 rfl ?_
  refine pf_X6_241 (pc' := 79) hC dX6_readInner_76 rfl ?_
  refine g_aload_n (pc' := 80) (i := 0) hC dX6_readInner_79 rfl rfl rfl ?_
  refine g_bipush (pc' := 82) (v := (nI 21)) hC dX6_readInner_80 (by decide) rfl ?_
  obtain ⟨a_28, ma_29, mb_30, mba_31, hc_32, h⟩ := bd4_some h
  refine g_callV (pc' := 85) hC (c_X6_field _ hc_32) ml_X6_226 (rc_M) (by decide) rfl rfl rfl rfl dX6_readInner_82 rfl ?_
  refine g_if_ne (pc' := 88) (tgt := 90) hC dX6_readInner_85 (by decide) rfl h (fun h => ?_) (fun h => ?_)
  · refine g_iconst (pc' := 89) (v := (nI 0)) hC dX6_readInner_88 (by decide) rfl ?_
    obtain ⟨rfl, rfl, rfl, rfl, rfl, rfl, rfl⟩ := inj7 h; exact g_zret hC (by decide) dX6_readInner_89
  · refine g_aload_n (pc' := 91) (i := 0) hC dX6_readInner_90 rfl rfl rfl ?_
    obtain ⟨a_33, ma_34, mb_35, mba_36, mz_37, hc_38, h⟩ := bd5_some h
    refine g_callV (pc' := 94) hC (c_X6_fieldZig _ hc_38) ml_X6_229 (rc_M) (by decide) rfl rfl rfl rfl dX6_readInner_91 rfl ?_
    refine g_lstore_n (pc' := 95) (i := 2) (lo' := [some (.ref (ea E 0)), some (.int v1), some (.long a_33), none, none]) hC dX6_readInner_94 rfl rfl rfl rfl rfl ?_
    refine g_aload_n (pc' := 96) (i := 0) hC dX6_readInner_95 rfl rfl rfl ?_
    refine gf_X6_169 (pc' := 99) hC dX6_readInner_96 rfl ?_
    refine g_if_eq (pc' := 102) (tgt := 104) hC dX6_readInner_99 (by decide) rfl h (fun h => ?_) (fun h => ?_)
    · refine g_lload_n (pc' := 105) (i := 2) hC dX6_readInner_104 rfl rfl rfl ?_
      refine g_lconst (pc' := 106) (v := (lN 0)) hC dX6_readInner_105 (by decide) rfl ?_
      refine g_lcmp_ne (pc' := 110) (tgt := 114) hC dX6_readInner_106 dX6_readInner_107 rfl (by decide) rfl h (fun h => ?_) (fun h => ?_)
      · refine g_iconst (pc' := 111) (v := (nI 1)) hC dX6_readInner_110 (by decide) rfl ?_
        refine g_goto (tgt := 115) hC dX6_readInner_111 (by decide) ?_
        exact w_X6_readInner_J115 hC   h
      · refine g_iconst (pc' := 115) (v := (nI 0)) hC dX6_readInner_114 (by decide) rfl ?_
        exact w_X6_readInner_J115 hC   h
    · refine g_iconst (pc' := 103) (v := (nI 0)) hC dX6_readInner_102 (by decide) rfl ?_
      obtain ⟨rfl, rfl, rfl, rfl, rfl, rfl, rfl⟩ := inj7 h; exact g_zret hC (by decide) dX6_readInner_103
set_option maxRecDepth 200000 in
theorem c_X6_readInner (l : Launch) {E : GE} {rr : Int32} {maz : Int32} {mbz : Int32} {mbaz : Int32} {mzz : Int32} {mcoz : Int32} {mcdz : Int32} {v1 : Int32}  (h : p_X6_readInner v1 mm mf ma me mb mba mdi mz mso mco mcd = some (rr, maz, mbz, mbaz, mzz, mcoz, mcdz)) : Met l yX6_readInner (.code yX6_readInner cX6_readInner 5 (some .boolean) :: gU) rm_X6_readInner (gP E (mws E mk mo mm mt mv mx mp mtd mf ms md mdd mn mst mpl mbb ma me mb mba mpg mdi mbl mby mw mz mso mbo mco mcd ml mr) [.ref (ea E 0), .int v1]) (gQ E (mws E mk mo mm mt mv mx mp mtd mf ms md mdd mn mst mpl mbb maz me mbz mbaz mpg mdi mbl mby mw mzz mso mbo mcoz mcdz ml mr) (some (.int rr))) 0 0 E.2.2.1 := by
  refine met_of (y := yX6_readInner) (own := RX6) (lo := [some (.ref (ea E 0)), some (.int v1), none, none, none]) (by decide) rfl rfl rfl (fun κ hl hC => ?_)
  subst hl
  unfold p_X6_readInner at h
  refine g_aload_n (pc' := 1) (i := 0) hC dX6_readInner_0 rfl rfl rfl ?_
  refine g_bipush (pc' := 3) (v := (nI 21)) hC dX6_readInner_1 (by decide) rfl ?_
  obtain ⟨a_1, ma_2, mb_3, mba_4, hc_5, h⟩ := bd4_some h
  refine g_callV (pc' := 6) hC (c_X6_field _ hc_5) ml_X6_226 (rc_M) (by decide) rfl rfl rfl rfl dX6_readInner_3 rfl ?_
  refine g_if_ne (pc' := 9) (tgt := 11) hC dX6_readInner_6 (by decide) rfl h (fun h => ?_) (fun h => ?_)
  · refine g_iconst (pc' := 10) (v := (nI 0)) hC dX6_readInner_9 (by decide) rfl ?_
    obtain ⟨rfl, rfl, rfl, rfl, rfl, rfl, rfl⟩ := inj7 h; exact g_zret hC (by decide) dX6_readInner_10
  · refine g_aload_n (pc' := 12) (i := 0) hC dX6_readInner_11 rfl rfl rfl ?_
    obtain ⟨a_6, ma_7, mb_8, mba_9, mz_10, hc_11, h⟩ := bd5_some h
    refine g_callV (pc' := 15) hC (c_X6_fieldZig _ hc_11) ml_X6_229 (rc_M) (by decide) rfl rfl rfl rfl dX6_readInner_12 rfl ?_
    refine g_lstore_n (pc' := 16) (i := 2) (lo' := [some (.ref (ea E 0)), some (.int v1), some (.long a_6), none, none]) hC dX6_readInner_15 rfl rfl rfl rfl rfl ?_
    refine g_aload_n (pc' := 17) (i := 0) hC dX6_readInner_16 rfl rfl rfl ?_
    refine gf_X6_169 (pc' := 20) hC dX6_readInner_17 rfl ?_
    refine g_if_eq (pc' := 23) (tgt := 25) hC dX6_readInner_20 (by decide) rfl h (fun h => ?_) (fun h => ?_)
    · refine g_lload_n (pc' := 26) (i := 2) hC dX6_readInner_25 rfl rfl rfl ?_
      refine g_lconst (pc' := 27) (v := (lN 0)) hC dX6_readInner_26 (by decide) rfl ?_
      refine g_lcmp_lt (pc' := 31) (tgt := 62) hC dX6_readInner_27 dX6_readInner_28 rfl (by decide) rfl h (fun h => ?_) (fun h => ?_)
      · refine g_aload_n (pc' := 63) (i := 0) hC dX6_readInner_62 rfl rfl rfl ?_
        refine g_bipush (pc' := 65) (v := (nI 8)) hC dX6_readInner_63 (by decide) rfl ?_
        refine g_aload_n (pc' := 66) (i := 0) hC dX6_readInner_65 rfl rfl rfl ?_
        refine gf_X6_223 (pc' := 69) hC dX6_readInner_66 rfl ?_
        obtain ⟨a_12, mb_13, mba_14, hc_15, h⟩ := bd3_some h
        refine g_callV (pc' := 72) hC (c_X6_fails _ hc_15) ml_X6_181 (rc_M) (by decide) rfl rfl rfl rfl dX6_readInner_69 rfl ?_
        obtain ⟨g_16, h⟩ := gd_some h
        obtain ⟨rfl, rfl, rfl, rfl, rfl, rfl, rfl⟩ := inj7 h; exact g_zret hC g_16 dX6_readInner_72
      · refine g_lload_n (pc' := 32) (i := 2) hC dX6_readInner_31 rfl rfl rfl ?_
        refine g_ldc2_w (pc' := 35) (v := (lN 200)) hC u_15 dX6_readInner_32 rfl ?_
        refine g_lcmp_gt (pc' := 39) (tgt := 62) hC dX6_readInner_35 dX6_readInner_36 rfl (by decide) rfl h (fun h => ?_) (fun h => ?_)
        · refine g_aload_n (pc' := 63) (i := 0) hC dX6_readInner_62 rfl rfl rfl ?_
          refine g_bipush (pc' := 65) (v := (nI 8)) hC dX6_readInner_63 (by decide) rfl ?_
          refine g_aload_n (pc' := 66) (i := 0) hC dX6_readInner_65 rfl rfl rfl ?_
          refine gf_X6_223 (pc' := 69) hC dX6_readInner_66 rfl ?_
          obtain ⟨a_17, mb_18, mba_19, hc_20, h⟩ := bd3_some h
          refine g_callV (pc' := 72) hC (c_X6_fails _ hc_20) ml_X6_181 (rc_M) (by decide) rfl rfl rfl rfl dX6_readInner_69 rfl ?_
          obtain ⟨g_21, h⟩ := gd_some h
          obtain ⟨rfl, rfl, rfl, rfl, rfl, rfl, rfl⟩ := inj7 h; exact g_zret hC g_21 dX6_readInner_72
        · refine g_aload_n (pc' := 40) (i := 0) hC dX6_readInner_39 rfl rfl rfl ?_
          refine gf_X6_232 (pc' := 43) hC dX6_readInner_40 rfl ?_
          refine g_if_ne (pc' := 46) (tgt := 73) hC dX6_readInner_43 (by decide) rfl h (fun h => ?_) (fun h => ?_)
          · refine g_lload_n (pc' := 47) (i := 2) hC dX6_readInner_46 rfl rfl rfl ?_
            refine g_aload_n (pc' := 48) (i := 0) hC dX6_readInner_47 rfl rfl rfl ?_
            refine gf_X6_17 (pc' := 51) hC dX6_readInner_48 rfl ?_
            refine g_iconst (pc' := 52) (v := (nI 4)) hC dX6_readInner_51 (by decide) rfl ?_
            obtain ⟨g_22, h⟩ := gd_some h
            refine ld_mm (pc' := 53) hC g_22 dX6_readInner_52 rfl ?_
            refine g_i2l (pc' := 54) hC dX6_readInner_53 rfl ?_
            refine g_ladd (pc' := 55) hC dX6_readInner_54 rfl ?_
            refine g_ldc2_w (pc' := 58) (v := (lN 200)) hC u_15 dX6_readInner_55 rfl ?_
            refine g_lcmp_le (pc' := 62) (tgt := 73) hC dX6_readInner_58 dX6_readInner_59 rfl (by decide) rfl h (fun h => ?_) (fun h => ?_)
            · refine g_aload_n (pc' := 63) (i := 0) hC dX6_readInner_62 rfl rfl rfl ?_
              refine g_bipush (pc' := 65) (v := (nI 8)) hC dX6_readInner_63 (by decide) rfl ?_
              refine g_aload_n (pc' := 66) (i := 0) hC dX6_readInner_65 rfl rfl rfl ?_
              refine gf_X6_223 (pc' := 69) hC dX6_readInner_66 rfl ?_
              obtain ⟨a_23, mb_24, mba_25, hc_26, h⟩ := bd3_some h
              refine g_callV (pc' := 72) hC (c_X6_fails _ hc_26) ml_X6_181 (rc_M) (by decide) rfl rfl rfl rfl dX6_readInner_69 rfl ?_
              obtain ⟨g_27, h⟩ := gd_some h
              obtain ⟨rfl, rfl, rfl, rfl, rfl, rfl, rfl⟩ := inj7 h; exact g_zret hC g_27 dX6_readInner_72
            · exact w_X6_readInner_J73 hC   h
          · exact w_X6_readInner_J73 hC   h
    · refine g_iconst (pc' := 24) (v := (nI 0)) hC dX6_readInner_23 (by decide) rfl ?_
      obtain ⟨rfl, rfl, rfl, rfl, rfl, rfl, rfl⟩ := inj7 h; exact g_zret hC (by decide) dX6_readInner_24
set_option maxRecDepth 200000 in
theorem w_X6_readHead_J218 {κ : GK} {E : GE} {rr : Int32} {maz : Int32} {mez : Int32} {mbz : Int32} {mbaz : Int32} {mzz : Int32} {msoz : Int32} {mboz : Int32} {mcoz : Int32} {mcdz : Int32} {v1 : Int32} {s1 : Int32}  (hC : gC κ E cX6_readHead RX6 (some .boolean) rm_X6_readHead 5)   (h : p_X6_readHead_J218 v1 s1 mm mf ma me mb mba mdi mz mso mbo mco mcd = some (rr, maz, mez, mbz, mbaz, mzz, msoz, mboz, mcoz, mcdz)) : GG κ E (mws E mk mo mm mt mv mx mp mtd mf ms md mdd mn mst mpl mbb maz mez mbz mbaz mpg mdi mbl mby mw mzz msoz mboz mcoz mcdz ml mr, some (.int rr)) (mws E mk mo mm mt mv mx mp mtd mf ms md mdd mn mst mpl mbb ma me mb mba mpg mdi mbl mby mw mz mso mbo mco mcd ml mr) 218 [some (.ref (ea E 0)), some (.int v1), none, none, none] [.int s1, .ref (ea E 0)] := by
  unfold p_X6_readHead_J218 at h
  obtain ⟨a_49, ma_50, mb_51, mba_52, hc_53, h⟩ := bd4_some h
  refine g_callV (pc' := 221) hC (c_X6_field _ hc_53) ml_X6_226 (rc_M) (by decide) rfl rfl rfl rfl dX6_readHead_218 rfl ?_
  refine g_if_eq (pc' := 224) (tgt := 252) hC dX6_readHead_221 (by decide) rfl h (fun h => ?_) (fun h => ?_)
  · refine g_iconst (pc' := 253) (v := (nI 0)) hC dX6_readHead_252 (by decide) rfl ?_
    obtain ⟨rfl, rfl, rfl, rfl, rfl, rfl, rfl, rfl, rfl, rfl⟩ := inj10 h; exact g_zret hC (by decide) dX6_readHead_253
  · refine g_aload_n (pc' := 225) (i := 0) hC dX6_readHead_224 rfl rfl rfl ?_
    refine g_iload_n (pc' := 226) (i := 1) hC dX6_readHead_225 rfl rfl rfl ?_
    obtain ⟨a_54, ma_55, mb_56, mba_57, mz_58, mco_59, mcd_60, hc_61, h⟩ := bd7_some h
    refine g_callV (pc' := 229) hC (c_X6_readInner _ hc_61) ml_X6_238 (rc_M) (by decide) rfl rfl rfl rfl dX6_readHead_226 rfl ?_
    refine g_if_eq (pc' := 232) (tgt := 252) hC dX6_readHead_229 (by decide) rfl h (fun h => ?_) (fun h => ?_)
    · refine g_iconst (pc' := 253) (v := (nI 0)) hC dX6_readHead_252 (by decide) rfl ?_
      obtain ⟨rfl, rfl, rfl, rfl, rfl, rfl, rfl, rfl, rfl, rfl⟩ := inj10 h; exact g_zret hC (by decide) dX6_readHead_253
    · refine g_aload_n (pc' := 233) (i := 0) hC dX6_readHead_232 rfl rfl rfl ?_
      refine g_iconst (pc' := 234) (v := (nI 0)) hC dX6_readHead_233 (by decide) rfl ?_
      obtain ⟨a_62, ma_63, mb_64, mba_65, hc_66, h⟩ := bd4_some h
      refine g_callV (pc' := 237) hC (c_X6_field _ hc_66) ml_X6_226 (rc_M) (by decide) rfl rfl rfl rfl dX6_readHead_234 rfl ?_
      refine g_if_eq (pc' := 240) (tgt := 252) hC dX6_readHead_237 (by decide) rfl h (fun h => ?_) (fun h => ?_)
      · refine g_iconst (pc' := 253) (v := (nI 0)) hC dX6_readHead_252 (by decide) rfl ?_
        obtain ⟨rfl, rfl, rfl, rfl, rfl, rfl, rfl, rfl, rfl, rfl⟩ := inj10 h; exact g_zret hC (by decide) dX6_readHead_253
      · refine g_aload_n (pc' := 241) (i := 0) hC dX6_readHead_240 rfl rfl rfl ?_
        refine g_iconst (pc' := 242) (v := (nI 0)) hC dX6_readHead_241 (by decide) rfl ?_
        obtain ⟨a_67, ma_68, mb_69, mba_70, hc_71, h⟩ := bd4_some h
        refine g_callV (pc' := 245) hC (c_X6_field _ hc_71) ml_X6_226 (rc_M) (by decide) rfl rfl rfl rfl dX6_readHead_242 rfl ?_
        refine g_if_eq (pc' := 248) (tgt := 252) hC dX6_readHead_245 (by decide) rfl h (fun h => ?_) (fun h => ?_)
        · refine g_iconst (pc' := 253) (v := (nI 0)) hC dX6_readHead_252 (by decide) rfl ?_
          obtain ⟨rfl, rfl, rfl, rfl, rfl, rfl, rfl, rfl, rfl, rfl⟩ := inj10 h; exact g_zret hC (by decide) dX6_readHead_253
        · refine g_iconst (pc' := 249) (v := (nI 1)) hC dX6_readHead_248 (by decide) rfl ?_
          refine g_goto (tgt := 253) hC dX6_readHead_249 (by decide) ?_
          obtain ⟨rfl, rfl, rfl, rfl, rfl, rfl, rfl, rfl, rfl, rfl⟩ := inj10 h; exact g_zret hC (by decide) dX6_readHead_253
set_option maxRecDepth 200000 in
theorem w_X6_readHead_J94 {κ : GK} {E : GE} {rr : Int32} {maz : Int32} {mez : Int32} {mbz : Int32} {mbaz : Int32} {mzz : Int32} {msoz : Int32} {mboz : Int32} {mcoz : Int32} {mcdz : Int32} {v1 : Int32}  (hC : gC κ E cX6_readHead RX6 (some .boolean) rm_X6_readHead 5)   (h : p_X6_readHead_J94 v1 mm mf ms ma me mb mba mdi mz mso mbo mco mcd = some (rr, maz, mez, mbz, mbaz, mzz, msoz, mboz, mcoz, mcdz)) : GG κ E (mws E mk mo mm mt mv mx mp mtd mf ms md mdd mn mst mpl mbb maz mez mbz mbaz mpg mdi mbl mby mw mzz msoz mboz mcoz mcdz ml mr, some (.int rr)) (mws E mk mo mm mt mv mx mp mtd mf ms md mdd mn mst mpl mbb ma me mb mba mpg mdi mbl mby mw mz mso mbo mco mcd ml mr) 94 [some (.ref (ea E 0)), some (.int v1), none, none, none] [] := by
  unfold p_X6_readHead_J94 at h
  refine g_aload_n (pc' := 95) (i := 0) hC dX6_readHead_94 rfl rfl rfl ?_
  refine g_bipush (pc' := 97) (v := (nI 21)) hC dX6_readHead_95 (by decide) rfl ?_
  obtain ⟨a_17, ma_18, mb_19, mba_20, hc_21, h⟩ := bd4_some h
  refine g_callV (pc' := 100) hC (c_X6_field _ hc_21) ml_X6_226 (rc_M) (by decide) rfl rfl rfl rfl dX6_readHead_97 rfl ?_
  refine g_if_ne (pc' := 103) (tgt := 105) hC dX6_readHead_100 (by decide) rfl h (fun h => ?_) (fun h => ?_)
  · refine g_iconst (pc' := 104) (v := (nI 0)) hC dX6_readHead_103 (by decide) rfl ?_
    obtain ⟨rfl, rfl, rfl, rfl, rfl, rfl, rfl, rfl, rfl, rfl⟩ := inj10 h; exact g_zret hC (by decide) dX6_readHead_104
  · refine g_aload_n (pc' := 106) (i := 0) hC dX6_readHead_105 rfl rfl rfl ?_
    obtain ⟨a_22, ma_23, mb_24, mba_25, mz_26, hc_27, h⟩ := bd5_some h
    refine g_callV (pc' := 109) hC (c_X6_fieldZig _ hc_27) ml_X6_229 (rc_M) (by decide) rfl rfl rfl rfl dX6_readHead_106 rfl ?_
    refine g_lstore_n (pc' := 110) (i := 3) (lo' := [some (.ref (ea E 0)), some (.int v1), none, some (.long a_22), none]) hC dX6_readHead_109 rfl rfl rfl rfl rfl ?_
    refine g_aload_n (pc' := 111) (i := 0) hC dX6_readHead_110 rfl rfl rfl ?_
    refine gf_X6_169 (pc' := 114) hC dX6_readHead_111 rfl ?_
    refine g_if_eq (pc' := 117) (tgt := 119) hC dX6_readHead_114 (by decide) rfl h (fun h => ?_) (fun h => ?_)
    · refine g_lload_n (pc' := 120) (i := 3) hC dX6_readHead_119 rfl rfl rfl ?_
      refine g_lconst (pc' := 121) (v := (lN 0)) hC dX6_readHead_120 (by decide) rfl ?_
      refine g_lcmp_lt (pc' := 125) (tgt := 140) hC dX6_readHead_121 dX6_readHead_122 rfl (by decide) rfl h (fun h => ?_) (fun h => ?_)
      · refine g_aload_n (pc' := 141) (i := 0) hC dX6_readHead_140 rfl rfl rfl ?_
        refine g_bipush (pc' := 143) (v := (nI 8)) hC dX6_readHead_141 (by decide) rfl ?_
        refine g_aload_n (pc' := 144) (i := 0) hC dX6_readHead_143 rfl rfl rfl ?_
        refine gf_X6_223 (pc' := 147) hC dX6_readHead_144 rfl ?_
        obtain ⟨a_28, mb_29, mba_30, hc_31, h⟩ := bd3_some h
        refine g_callV (pc' := 150) hC (c_X6_fails _ hc_31) ml_X6_181 (rc_M) (by decide) rfl rfl rfl rfl dX6_readHead_147 rfl ?_
        obtain ⟨g_32, h⟩ := gd_some h
        obtain ⟨rfl, rfl, rfl, rfl, rfl, rfl, rfl, rfl, rfl, rfl⟩ := inj10 h; exact g_zret hC g_32 dX6_readHead_150
      · refine g_lload_n (pc' := 126) (i := 3) hC dX6_readHead_125 rfl rfl rfl ?_
        refine g_aload_n (pc' := 127) (i := 0) hC dX6_readHead_126 rfl rfl rfl ?_
        refine gf_X6_166 (pc' := 130) hC dX6_readHead_127 rfl ?_
        refine g_aload_n (pc' := 131) (i := 0) hC dX6_readHead_130 rfl rfl rfl ?_
        refine gf_X6_175 (pc' := 134) hC dX6_readHead_131 rfl ?_
        refine g_isub (pc' := 135) hC dX6_readHead_134 rfl ?_
        refine g_i2l (pc' := 136) hC dX6_readHead_135 rfl ?_
        refine g_lcmp_le (pc' := 140) (tgt := 151) hC dX6_readHead_136 dX6_readHead_137 rfl (by decide) rfl h (fun h => ?_) (fun h => ?_)
        · refine g_aload_n (pc' := 141) (i := 0) hC dX6_readHead_140 rfl rfl rfl ?_
          refine g_bipush (pc' := 143) (v := (nI 8)) hC dX6_readHead_141 (by decide) rfl ?_
          refine g_aload_n (pc' := 144) (i := 0) hC dX6_readHead_143 rfl rfl rfl ?_
          refine gf_X6_223 (pc' := 147) hC dX6_readHead_144 rfl ?_
          obtain ⟨a_33, mb_34, mba_35, hc_36, h⟩ := bd3_some h
          refine g_callV (pc' := 150) hC (c_X6_fails _ hc_36) ml_X6_181 (rc_M) (by decide) rfl rfl rfl rfl dX6_readHead_147 rfl ?_
          obtain ⟨g_37, h⟩ := gd_some h
          obtain ⟨rfl, rfl, rfl, rfl, rfl, rfl, rfl, rfl, rfl, rfl⟩ := inj10 h; exact g_zret hC g_37 dX6_readHead_150
        · refine g_aload_n (pc' := 152) (i := 0) hC dX6_readHead_151 rfl rfl rfl ?_
          refine g_lload_n (pc' := 153) (i := 3) hC dX6_readHead_152 rfl rfl rfl ?_
          refine g_l2i (pc' := 154) hC dX6_readHead_153 rfl ?_
          refine pf_X6_235 (pc' := 157) hC dX6_readHead_154 rfl ?_
          refine g_aload_n (pc' := 158) (i := 0) hC dX6_readHead_157 rfl rfl rfl ?_
          refine g_bipush (pc' := 160) (v := (nI 21)) hC dX6_readHead_158 (by decide) rfl ?_
          obtain ⟨a_38, ma_39, mb_40, mba_41, hc_42, h⟩ := bd4_some h
          refine g_callV (pc' := 163) hC (c_X6_field _ hc_42) ml_X6_226 (rc_M) (by decide) rfl rfl rfl rfl dX6_readHead_160 rfl ?_
          refine g_if_ne (pc' := 166) (tgt := 168) hC dX6_readHead_163 (by decide) rfl h (fun h => ?_) (fun h => ?_)
          · refine g_iconst (pc' := 167) (v := (nI 0)) hC dX6_readHead_166 (by decide) rfl ?_
            obtain ⟨rfl, rfl, rfl, rfl, rfl, rfl, rfl, rfl, rfl, rfl⟩ := inj10 h; exact g_zret hC (by decide) dX6_readHead_167
          · refine g_aload_n (pc' := 169) (i := 0) hC dX6_readHead_168 rfl rfl rfl ?_
            obtain ⟨a_43, ma_44, mb_45, mba_46, mz_47, hc_48, h⟩ := bd5_some h
            refine g_callV (pc' := 172) hC (c_X6_fieldZig _ hc_48) ml_X6_229 (rc_M) (by decide) rfl rfl rfl rfl dX6_readHead_169 rfl ?_
            refine g_lstore_n (pc' := 173) (i := 3) (lo' := [some (.ref (ea E 0)), some (.int v1), none, some (.long a_43), none]) hC dX6_readHead_172 rfl rfl rfl rfl rfl ?_
            refine g_aload_n (pc' := 174) (i := 0) hC dX6_readHead_173 rfl rfl rfl ?_
            refine gf_X6_169 (pc' := 177) hC dX6_readHead_174 rfl ?_
            refine g_if_eq (pc' := 180) (tgt := 182) hC dX6_readHead_177 (by decide) rfl h (fun h => ?_) (fun h => ?_)
            · refine g_lload_n (pc' := 183) (i := 3) hC dX6_readHead_182 rfl rfl rfl ?_
              refine g_aload_n (pc' := 184) (i := 0) hC dX6_readHead_183 rfl rfl rfl ?_
              refine gf_X6_235 (pc' := 187) hC dX6_readHead_184 rfl ?_
              refine g_i2l (pc' := 188) hC dX6_readHead_187 rfl ?_
              refine g_lcmp_eq (pc' := 192) (tgt := 203) hC dX6_readHead_188 dX6_readHead_189 rfl (by decide) rfl h (fun h => ?_) (fun h => ?_)
              · refine g_aload_n (pc' := 204) (i := 0) hC dX6_readHead_203 rfl rfl rfl ?_
                refine g_aload_n (pc' := 205) (i := 0) hC dX6_readHead_204 rfl rfl rfl ?_
                refine gf_X6_232 (pc' := 208) hC dX6_readHead_205 rfl ?_
                refine g_if_ne (pc' := 211) (tgt := 216) hC dX6_readHead_208 (by decide) rfl h (fun h => ?_) (fun h => ?_)
                · refine g_bipush (pc' := 213) (v := (nI 44)) hC dX6_readHead_211 (by decide) rfl ?_
                  refine g_goto (tgt := 218) hC dX6_readHead_213 (by decide) ?_
                  refine g_weak (lo' := [some (.ref (ea E 0)), some (.int v1), none, none, none]) rfl ?_
                  exact w_X6_readHead_J218 hC   h
                · refine g_bipush (pc' := 218) (v := (nI 76)) hC dX6_readHead_216 (by decide) rfl ?_
                  refine g_weak (lo' := [some (.ref (ea E 0)), some (.int v1), none, none, none]) rfl ?_
                  exact w_X6_readHead_J218 hC   h
              · refine g_aload_n (pc' := 193) (i := 0) hC dX6_readHead_192 rfl rfl rfl ?_
                refine g_bipush (pc' := 195) (v := (nI 8)) hC dX6_readHead_193 (by decide) rfl ?_
                refine g_aload_n (pc' := 196) (i := 0) hC dX6_readHead_195 rfl rfl rfl ?_
                refine gf_X6_223 (pc' := 199) hC dX6_readHead_196 rfl ?_
                obtain ⟨a_72, mb_73, mba_74, hc_75, h⟩ := bd3_some h
                refine g_callV (pc' := 202) hC (c_X6_fails _ hc_75) ml_X6_181 (rc_M) (by decide) rfl rfl rfl rfl dX6_readHead_199 rfl ?_
                obtain ⟨g_76, h⟩ := gd_some h
                obtain ⟨rfl, rfl, rfl, rfl, rfl, rfl, rfl, rfl, rfl, rfl⟩ := inj10 h; exact g_zret hC g_76 dX6_readHead_202
            · refine g_iconst (pc' := 181) (v := (nI 0)) hC dX6_readHead_180 (by decide) rfl ?_
              obtain ⟨rfl, rfl, rfl, rfl, rfl, rfl, rfl, rfl, rfl, rfl⟩ := inj10 h; exact g_zret hC (by decide) dX6_readHead_181
    · refine g_iconst (pc' := 118) (v := (nI 0)) hC dX6_readHead_117 (by decide) rfl ?_
      obtain ⟨rfl, rfl, rfl, rfl, rfl, rfl, rfl, rfl, rfl, rfl⟩ := inj10 h; exact g_zret hC (by decide) dX6_readHead_118
set_option maxRecDepth 200000 in
theorem w_X6_readHead_J68 {κ : GK} {E : GE} {rr : Int32} {maz : Int32} {mez : Int32} {mbz : Int32} {mbaz : Int32} {mzz : Int32} {msoz : Int32} {mboz : Int32} {mcoz : Int32} {mcdz : Int32} {v1 : Int32} {v2 : Int32} {v3 : Int64}  (hC : gC κ E cX6_readHead RX6 (some .boolean) rm_X6_readHead 5)   (h : p_X6_readHead_J68 v1 v2 v3 mm mf ms ma me mb mba mdi mz mbo mco mcd = some (rr, maz, mez, mbz, mbaz, mzz, msoz, mboz, mcoz, mcdz)) : GG κ E (mws E mk mo mm mt mv mx mp mtd mf ms md mdd mn mst mpl mbb maz mez mbz mbaz mpg mdi mbl mby mw mzz msoz mboz mcoz mcdz ml mr, some (.int rr)) (mws E mk mo mm mt mv mx mp mtd mf ms md mdd mn mst mpl mbb ma me mb mba mpg mdi mbl mby mw mz mso mbo mco mcd ml mr) 68 [some (.ref (ea E 0)), some (.int v1), some (.int v2), some (.long v3), none] [] := by
  unfold p_X6_readHead_J68 at h
  refine g_aload_n (pc' := 69) (i := 0) hC dX6_readHead_68 rfl rfl rfl ?_
  refine g_lload_n (pc' := 70) (i := 3) hC dX6_readHead_69 rfl rfl rfl ?_
  refine g_l2i (pc' := 71) hC dX6_readHead_70 rfl ?_
  refine pf_X6_232 (pc' := 74) hC dX6_readHead_71 rfl ?_
  refine g_aload_n (pc' := 75) (i := 0) hC dX6_readHead_74 rfl rfl rfl ?_
  refine gf_X6_232 (pc' := 78) hC dX6_readHead_75 rfl ?_
  refine g_iconst (pc' := 79) (v := (nI 2)) hC dX6_readHead_78 (by decide) rfl ?_
  refine g_icmp_ne (pc' := 82) (tgt := 94) hC dX6_readHead_79 (by decide) rfl h (fun h => ?_) (fun h => ?_)
  · refine g_iload_n (pc' := 83) (i := 2) hC dX6_readHead_82 rfl rfl rfl ?_
    refine g_if_le (pc' := 86) (tgt := 94) hC dX6_readHead_83 (by decide) rfl h (fun h => ?_) (fun h => ?_)
    · refine g_aload_n (pc' := 87) (i := 0) hC dX6_readHead_86 rfl rfl rfl ?_
      refine g_bipush (pc' := 89) (v := (nI 9)) hC dX6_readHead_87 (by decide) rfl ?_
      refine g_iload_n (pc' := 90) (i := 2) hC dX6_readHead_89 rfl rfl rfl ?_
      obtain ⟨a_12, mb_13, mba_14, hc_15, h⟩ := bd3_some h
      refine g_callV (pc' := 93) hC (c_X6_fails _ hc_15) ml_X6_181 (rc_M) (by decide) rfl rfl rfl rfl dX6_readHead_90 rfl ?_
      obtain ⟨g_16, h⟩ := gd_some h
      obtain ⟨rfl, rfl, rfl, rfl, rfl, rfl, rfl, rfl, rfl, rfl⟩ := inj10 h; exact g_zret hC g_16 dX6_readHead_93
    · refine g_weak (lo' := [some (.ref (ea E 0)), some (.int v1), none, none, none]) rfl ?_
      exact w_X6_readHead_J94 hC   h
  · refine g_weak (lo' := [some (.ref (ea E 0)), some (.int v1), none, none, none]) rfl ?_
    exact w_X6_readHead_J94 hC   h
set_option maxRecDepth 200000 in
theorem c_X6_readHead (l : Launch) {E : GE} {rr : Int32} {maz : Int32} {mez : Int32} {mbz : Int32} {mbaz : Int32} {mzz : Int32} {msoz : Int32} {mboz : Int32} {mcoz : Int32} {mcdz : Int32} {v1 : Int32}  (h : p_X6_readHead v1 mm mf ms ma me mb mba mdi mz mso mbo mco mcd = some (rr, maz, mez, mbz, mbaz, mzz, msoz, mboz, mcoz, mcdz)) : Met l yX6_readHead (.code yX6_readHead cX6_readHead 5 (some .boolean) :: gU) rm_X6_readHead (gP E (mws E mk mo mm mt mv mx mp mtd mf ms md mdd mn mst mpl mbb ma me mb mba mpg mdi mbl mby mw mz mso mbo mco mcd ml mr) [.ref (ea E 0), .int v1]) (gQ E (mws E mk mo mm mt mv mx mp mtd mf ms md mdd mn mst mpl mbb maz mez mbz mbaz mpg mdi mbl mby mw mzz msoz mboz mcoz mcdz ml mr) (some (.int rr))) 0 0 E.2.2.1 := by
  refine met_of (y := yX6_readHead) (own := RX6) (lo := [some (.ref (ea E 0)), some (.int v1), none, none, none]) (by decide) rfl rfl rfl (fun κ hl hC => ?_)
  subst hl
  unfold p_X6_readHead at h
  refine g_aload_n (pc' := 1) (i := 0) hC dX6_readHead_0 rfl rfl rfl ?_
  refine gf_X6_175 (pc' := 4) hC dX6_readHead_1 rfl ?_
  refine g_istore_n (pc' := 5) (i := 2) (lo' := [some (.ref (ea E 0)), some (.int v1), some (.int ma), none, none]) hC dX6_readHead_4 rfl rfl rfl rfl rfl ?_
  refine g_aload_n (pc' := 6) (i := 0) hC dX6_readHead_5 rfl rfl rfl ?_
  refine g_aload_n (pc' := 7) (i := 0) hC dX6_readHead_6 rfl rfl rfl ?_
  refine gf_X6_166 (pc' := 10) hC dX6_readHead_7 rfl ?_
  refine pf_X6_178 (pc' := 13) hC dX6_readHead_10 rfl ?_
  refine g_aload_n (pc' := 14) (i := 0) hC dX6_readHead_13 rfl rfl rfl ?_
  refine g_bipush (pc' := 16) (v := (nI 21)) hC dX6_readHead_14 (by decide) rfl ?_
  obtain ⟨a_1, ma_2, mb_3, mba_4, hc_5, h⟩ := bd4_some h
  refine g_callV (pc' := 19) hC (c_X6_field _ hc_5) ml_X6_226 (rc_M) (by decide) rfl rfl rfl rfl dX6_readHead_16 rfl ?_
  refine g_if_ne (pc' := 22) (tgt := 24) hC dX6_readHead_19 (by decide) rfl h (fun h => ?_) (fun h => ?_)
  · refine g_iconst (pc' := 23) (v := (nI 0)) hC dX6_readHead_22 (by decide) rfl ?_
    obtain ⟨rfl, rfl, rfl, rfl, rfl, rfl, rfl, rfl, rfl, rfl⟩ := inj10 h; exact g_zret hC (by decide) dX6_readHead_23
  · refine g_aload_n (pc' := 25) (i := 0) hC dX6_readHead_24 rfl rfl rfl ?_
    obtain ⟨a_6, ma_7, mb_8, mba_9, mz_10, hc_11, h⟩ := bd5_some h
    refine g_callV (pc' := 28) hC (c_X6_fieldZig _ hc_11) ml_X6_229 (rc_M) (by decide) rfl rfl rfl rfl dX6_readHead_25 rfl ?_
    refine g_lstore_n (pc' := 29) (i := 3) (lo' := [some (.ref (ea E 0)), some (.int v1), some (.int ma), some (.long a_6), none]) hC dX6_readHead_28 rfl rfl rfl rfl rfl ?_
    refine g_aload_n (pc' := 30) (i := 0) hC dX6_readHead_29 rfl rfl rfl ?_
    refine gf_X6_169 (pc' := 33) hC dX6_readHead_30 rfl ?_
    refine g_if_eq (pc' := 36) (tgt := 38) hC dX6_readHead_33 (by decide) rfl h (fun h => ?_) (fun h => ?_)
    · refine g_lload_n (pc' := 39) (i := 3) hC dX6_readHead_38 rfl rfl rfl ?_
      refine g_lconst (pc' := 40) (v := (lN 0)) hC dX6_readHead_39 (by decide) rfl ?_
      refine g_lcmp_eq (pc' := 44) (tgt := 68) hC dX6_readHead_40 dX6_readHead_41 rfl (by decide) rfl h (fun h => ?_) (fun h => ?_)
      · exact w_X6_readHead_J68 hC   h
      · refine g_lload_n (pc' := 45) (i := 3) hC dX6_readHead_44 rfl rfl rfl ?_
        refine g_ldc2_w (pc' := 48) (v := (lN 2)) hC u_19 dX6_readHead_45 rfl ?_
        refine g_lcmp_ne (pc' := 52) (tgt := 57) hC dX6_readHead_48 dX6_readHead_49 rfl (by decide) rfl h (fun h => ?_) (fun h => ?_)
        · refine g_iload_n (pc' := 53) (i := 1) hC dX6_readHead_52 rfl rfl rfl ?_
          refine g_iconst (pc' := 54) (v := (nI 3)) hC dX6_readHead_53 (by decide) rfl ?_
          refine g_icmp_ne (pc' := 57) (tgt := 68) hC dX6_readHead_54 (by decide) rfl h (fun h => ?_) (fun h => ?_)
          · refine g_aload_n (pc' := 58) (i := 0) hC dX6_readHead_57 rfl rfl rfl ?_
            refine g_bipush (pc' := 60) (v := (nI 8)) hC dX6_readHead_58 (by decide) rfl ?_
            refine g_aload_n (pc' := 61) (i := 0) hC dX6_readHead_60 rfl rfl rfl ?_
            refine gf_X6_223 (pc' := 64) hC dX6_readHead_61 rfl ?_
            obtain ⟨a_77, mb_78, mba_79, hc_80, h⟩ := bd3_some h
            refine g_callV (pc' := 67) hC (c_X6_fails _ hc_80) ml_X6_181 (rc_M) (by decide) rfl rfl rfl rfl dX6_readHead_64 rfl ?_
            obtain ⟨g_81, h⟩ := gd_some h
            obtain ⟨rfl, rfl, rfl, rfl, rfl, rfl, rfl, rfl, rfl, rfl⟩ := inj10 h; exact g_zret hC g_81 dX6_readHead_67
          · exact w_X6_readHead_J68 hC   h
        · refine g_aload_n (pc' := 58) (i := 0) hC dX6_readHead_57 rfl rfl rfl ?_
          refine g_bipush (pc' := 60) (v := (nI 8)) hC dX6_readHead_58 (by decide) rfl ?_
          refine g_aload_n (pc' := 61) (i := 0) hC dX6_readHead_60 rfl rfl rfl ?_
          refine gf_X6_223 (pc' := 64) hC dX6_readHead_61 rfl ?_
          obtain ⟨a_82, mb_83, mba_84, hc_85, h⟩ := bd3_some h
          refine g_callV (pc' := 67) hC (c_X6_fails _ hc_85) ml_X6_181 (rc_M) (by decide) rfl rfl rfl rfl dX6_readHead_64 rfl ?_
          obtain ⟨g_86, h⟩ := gd_some h
          obtain ⟨rfl, rfl, rfl, rfl, rfl, rfl, rfl, rfl, rfl, rfl⟩ := inj10 h; exact g_zret hC g_86 dX6_readHead_67
    · refine g_iconst (pc' := 37) (v := (nI 0)) hC dX6_readHead_36 (by decide) rfl ?_
      obtain ⟨rfl, rfl, rfl, rfl, rfl, rfl, rfl, rfl, rfl, rfl⟩ := inj10 h; exact g_zret hC (by decide) dX6_readHead_37
set_option maxRecDepth 200000 in
theorem c_X6_isOver (l : Launch) {E : GE} {rr : Int32} {mbz : Int32} {mbaz : Int32} {v1 : Int32}  (h : p_X6_isOver v1 ma mb mba = some (rr, mbz, mbaz)) : Met l yX6_isOver (.code yX6_isOver cX6_isOver 2 (some .boolean) :: gU) rm_X6_isOver (gP E (mws E mk mo mm mt mv mx mp mtd mf ms md mdd mn mst mpl mbb ma me mb mba mpg mdi mbl mby mw mz mso mbo mco mcd ml mr) [.ref (ea E 0), .int v1]) (gQ E (mws E mk mo mm mt mv mx mp mtd mf ms md mdd mn mst mpl mbb ma me mbz mbaz mpg mdi mbl mby mw mz mso mbo mco mcd ml mr) (some (.int rr))) 0 0 E.2.2.1 := by
  refine met_of (y := yX6_isOver) (own := RX6) (lo := [some (.ref (ea E 0)), some (.int v1)]) (by decide) rfl rfl rfl (fun κ hl hC => ?_)
  subst hl
  unfold p_X6_isOver at h
  refine g_aload_n (pc' := 1) (i := 0) hC dX6_isOver_0 rfl rfl rfl ?_
  refine gf_X6_175 (pc' := 4) hC dX6_isOver_1 rfl ?_
  refine g_iload_n (pc' := 5) (i := 1) hC dX6_isOver_4 rfl rfl rfl ?_
  refine g_icmp_eq (pc' := 8) (tgt := 21) hC dX6_isOver_5 (by decide) rfl h (fun h => ?_) (fun h => ?_)
  · refine g_iconst (pc' := 22) (v := (nI 1)) hC dX6_isOver_21 (by decide) rfl ?_
    refine g_goto (tgt := 26) hC dX6_isOver_22 (by decide) ?_
    obtain ⟨rfl, rfl, rfl⟩ := inj3 h; exact g_zret hC (by decide) dX6_isOver_26
  · refine g_aload_n (pc' := 9) (i := 0) hC dX6_isOver_8 rfl rfl rfl ?_
    refine g_bipush (pc' := 11) (v := (nI 13)) hC dX6_isOver_9 (by decide) rfl ?_
    refine g_aload_n (pc' := 12) (i := 0) hC dX6_isOver_11 rfl rfl rfl ?_
    refine gf_X6_175 (pc' := 15) hC dX6_isOver_12 rfl ?_
    obtain ⟨a_1, mb_2, mba_3, hc_4, h⟩ := bd3_some h
    refine g_callV (pc' := 18) hC (c_X6_fails _ hc_4) ml_X6_181 (rc_M) (by decide) rfl rfl rfl rfl dX6_isOver_15 rfl ?_
    refine g_if_eq (pc' := 21) (tgt := 25) hC dX6_isOver_18 (by decide) rfl h (fun h => ?_) (fun h => ?_)
    · refine g_iconst (pc' := 26) (v := (nI 0)) hC dX6_isOver_25 (by decide) rfl ?_
      obtain ⟨rfl, rfl, rfl⟩ := inj3 h; exact g_zret hC (by decide) dX6_isOver_26
    · refine g_iconst (pc' := 22) (v := (nI 1)) hC dX6_isOver_21 (by decide) rfl ?_
      refine g_goto (tgt := 26) hC dX6_isOver_22 (by decide) ?_
      obtain ⟨rfl, rfl, rfl⟩ := inj3 h; exact g_zret hC (by decide) dX6_isOver_26
end WALK
