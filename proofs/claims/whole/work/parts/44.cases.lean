/-! the cases of the law's switch -/
def LK (κ : GK) (Z : State → Prop) (EX EM : GE) (pc : Nat) (lo : List (Option Value)) : Prop := ∀ (xk : Nat → Int32) (xo : Nat → Int32) (xc : Nat → Int32) (xt : Nat → Nat → Int32) (xn : Nat → Nat → Int64) (xl : Nat → Nat → Int32) (rc : Nat → Int32) (rv : Nat → Int32) (rb : Nat → Nat → Int32) (la : Nat → Nat → Int64) (wch : Nat → Int32) (wcc : Int32) (wpl : Nat → Int32) (wun : Int32) (srow : Option Nat) (ssp : Int32) (sen : Int32) (str : Int32) (stp : Int32) (swd : Nat → Int32) (rwp : Int32) (rdr : Int32) (rpd : Int32) (rpv : Int32) (rpc : Int32) (rzp : Int32) (mk : Nat → Int32) (mo : Nat → Int32) (mm : Nat → Int32) (mt : Nat → Int32) (mv : Nat → Int64) (mx : Nat → Int32) (mp : Nat → Int32) (mtd : Int32) (mf : Nat → Int32) (ms : Int32) (md : Nat → Int32) (mdd : Int32) (mn : Nat → Int64) (mst : Nat → Int64) (mpl : Nat → Int32) (mbb : Nat → Int32) (ma : Int32) (me : Int32) (mb : Int32) (mba : Int32) (mpg : Int32) (mdi : Int32) (mbl : Int32) (mby : Int32) (mw : Nat → Int32) (mz : Int32) (mso : Int32) (mbo : Int32) (mco : Int32) (mcd : Int32) (ml : Nat → Int32) (mr : Int32), Cols xk xo xc xt xn xl mk mo mm mt mv mx → Tape rc rv rb mp mtd → Filed rc rv rb mf ms → FltR xc str stp rwp mr mb mba mpg mdi → LL κ Z (PW EX EM (xws EX xk xo xc xt xn xl rc rv rb la wch wcc wpl wun srow ssp sen str stp swd rwp rdr rpd rpv rpc rzp) (mws EM mk mo mm mt mv mx mp mtd mf ms md mdd mn mst mpl mbb ma me mb mba mpg mdi mbl mby mw mz mso mbo mco mcd ml mr)) pc lo []
set_option maxHeartbeats 4000000 in
theorem lk_column {κ : GK} {Z : State → Prop} {EX EM : GE} {b L i : Nat} {xs : Nat → Int32} (hC : lC κ EX EM b L xs) (hi : i + 5 ≤ L) (h : LK κ Z EX EM 844 [some (.ref b), some (.ref (ea EX 35)), some (.ref (ea EM 0)), some (.int (nI i))]) : LK κ Z EX EM 124 [some (.ref b), some (.ref (ea EX 35)), some (.ref (ea EM 0)), some (.int (nI i))] := by
  intro xk xo xc xt xn xl rc rv rb la wch wcc wpl wun srow ssp sen str stp swd rwp rdr rpd rpv rpc rzp mk mo mm mt mv mx mp mtd mf ms md mdd mn mst mpl mbb ma me mb mba mpg mdi mbl mby mw mz mso mbo mco mcd ml mr hc ht hf hx
  obtain ⟨r, xk', xo', xc', mk', mo', mm', e1, e2, hc', h5⟩ := sim_column hc (xs (ix (nI i + nI 1))) (xs (ix (nI i + nI 2))) (bz (xs (ix (nI i + nI 3)))) (isB_bz _)
  refine l_aload_n (pc' := 125) (i := 1) hC dL_law_124 rfl rfl rfl ?_
  refine l_aload_n (pc' := 126) (i := 0) hC dL_law_125 rfl rfl rfl ?_
  refine l_iload_n (pc' := 127) (i := 3) hC dL_law_126 rfl rfl rfl ?_
  refine l_iconst (pc' := 128) (v := nI 1) hC dL_law_127 (by decide) rfl ?_
  refine l_iadd (pc' := 129) hC dL_law_128 rfl ?_
  refine l_sld (pc' := 130) hC (sc_in hi hC.L (by decide)) dL_law_129 rfl ?_
  refine l_aload_n (pc' := 131) (i := 0) hC dL_law_130 rfl rfl rfl ?_
  refine l_iload_n (pc' := 132) (i := 3) hC dL_law_131 rfl rfl rfl ?_
  refine l_iconst (pc' := 133) (v := nI 2) hC dL_law_132 (by decide) rfl ?_
  refine l_iadd (pc' := 134) hC dL_law_133 rfl ?_
  refine l_sld (pc' := 135) hC (sc_in hi hC.L (by decide)) dL_law_134 rfl ?_
  refine l_aload_n (pc' := 136) (i := 0) hC dL_law_135 rfl rfl rfl ?_
  refine l_iload_n (pc' := 137) (i := 3) hC dL_law_136 rfl rfl rfl ?_
  refine l_iconst (pc' := 138) (v := nI 3) hC dL_law_137 (by decide) rfl ?_
  refine l_iadd (pc' := 139) hC dL_law_138 rfl ?_
  refine l_sld (pc' := 140) hC (sc_in hi hC.L (by decide)) dL_law_139 rfl ?_
  refine l_bool (pc1 := 143) (pc2 := 144) (pc3 := 147) (pc4 := 148) hC dL_law_140 dL_law_143 dL_law_144 dL_law_147 rfl rfl rfl rfl ?_
  refine l_callX (pc' := 151) (n := 3) hC (c_X5_column κ.2.1 e1) ⟨v_84, v_85, v_86, v_87, v_88, ⟨⟨by decide, by decide⟩, by decide +kernel⟩⟩ rc_CP (by decide) rfl rfl rfl rfl dL_law_148 rfl ?_
  refine l_aload_n (pc' := 152) (i := 2) hC dL_law_151 rfl rfl rfl ?_
  refine l_aload_n (pc' := 153) (i := 0) hC dL_law_152 rfl rfl rfl ?_
  refine l_iload_n (pc' := 154) (i := 3) hC dL_law_153 rfl rfl rfl ?_
  refine l_iconst (pc' := 155) (v := nI 1) hC dL_law_154 (by decide) rfl ?_
  refine l_iadd (pc' := 156) hC dL_law_155 rfl ?_
  refine l_sld (pc' := 157) hC (sc_in hi hC.L (by decide)) dL_law_156 rfl ?_
  refine l_aload_n (pc' := 158) (i := 0) hC dL_law_157 rfl rfl rfl ?_
  refine l_iload_n (pc' := 159) (i := 3) hC dL_law_158 rfl rfl rfl ?_
  refine l_iconst (pc' := 160) (v := nI 2) hC dL_law_159 (by decide) rfl ?_
  refine l_iadd (pc' := 161) hC dL_law_160 rfl ?_
  refine l_sld (pc' := 162) hC (sc_in hi hC.L (by decide)) dL_law_161 rfl ?_
  refine l_aload_n (pc' := 163) (i := 0) hC dL_law_162 rfl rfl rfl ?_
  refine l_iload_n (pc' := 164) (i := 3) hC dL_law_163 rfl rfl rfl ?_
  refine l_iconst (pc' := 165) (v := nI 3) hC dL_law_164 (by decide) rfl ?_
  refine l_iadd (pc' := 166) hC dL_law_165 rfl ?_
  refine l_sld (pc' := 167) hC (sc_in hi hC.L (by decide)) dL_law_166 rfl ?_
  refine l_bool (pc1 := 170) (pc2 := 171) (pc3 := 174) (pc4 := 175) hC dL_law_167 dL_law_170 dL_law_171 dL_law_174 rfl rfl rfl rfl ?_
  refine l_callM (pc' := 178) (n := 3) hC (c_X6_column κ.2.1 e2) ⟨v_89, v_90, v_91, v_92, v_93, ⟨⟨by decide, by decide⟩, by decide +kernel⟩⟩ rc_M (by decide) rfl rfl rfl rfl dL_law_175 rfl ?_
  refine l_same (tgt := 844) hC dL_law_178 (by decide) ?_
  exact h xk' xo' xc' xt xn xl rc rv rb la wch wcc wpl wun srow ssp sen str stp swd rwp rdr rpd rpv rpc rzp mk' mo' mm' mt mv mx mp mtd mf ms md mdd mn mst mpl mbb ma me mb mba mpg mdi mbl mby mw mz mso mbo mco mcd ml mr hc' ht hf (hx.c5 h5)

set_option maxHeartbeats 4000000 in
theorem lk_add {κ : GK} {Z : State → Prop} {EX EM : GE} {b L i : Nat} {xs : Nat → Int32} (hC : lC κ EX EM b L xs) (hi : i + 5 ≤ L) (h : LK κ Z EX EM 844 [some (.ref b), some (.ref (ea EX 35)), some (.ref (ea EM 0)), some (.int (nI i))]) : LK κ Z EX EM 183 [some (.ref b), some (.ref (ea EX 35)), some (.ref (ea EM 0)), some (.int (nI i))] := by
  intro xk xo xc xt xn xl rc rv rb la wch wcc wpl wun srow ssp sen str stp swd rwp rdr rpd rpv rpc rzp mk mo mm mt mv mx mp mtd mf ms md mdd mn mst mpl mbb ma me mb mba mpg mdi mbl mby mw mz mso mbo mco mcd ml mr hc ht hf hx
  obtain ⟨r, xc', xt', xn', mm', mt', mv', mx', e1, e2, hc', h5⟩ := sim_add hc (xs (ix (nI i + nI 1))) (lshl (i2l (xs (ix (nI i + nI 2)))) (32 : Int32) ||| (i2l (xs (ix (nI i + nI 3))) &&& (4294967295 : Int64)))
  refine l_aload_n (pc' := 184) (i := 1) hC dL_law_183 rfl rfl rfl ?_
  refine l_aload_n (pc' := 185) (i := 0) hC dL_law_184 rfl rfl rfl ?_
  refine l_iload_n (pc' := 186) (i := 3) hC dL_law_185 rfl rfl rfl ?_
  refine l_iconst (pc' := 187) (v := nI 1) hC dL_law_186 (by decide) rfl ?_
  refine l_iadd (pc' := 188) hC dL_law_187 rfl ?_
  refine l_sld (pc' := 189) hC (sc_in hi hC.L (by decide)) dL_law_188 rfl ?_
  refine l_aload_n (pc' := 190) (i := 0) hC dL_law_189 rfl rfl rfl ?_
  refine l_iload_n (pc' := 191) (i := 3) hC dL_law_190 rfl rfl rfl ?_
  refine l_iconst (pc' := 192) (v := nI 2) hC dL_law_191 (by decide) rfl ?_
  refine l_iadd (pc' := 193) hC dL_law_192 rfl ?_
  refine l_sld (pc' := 194) hC (sc_in hi hC.L (by decide)) dL_law_193 rfl ?_
  refine l_i2l (pc' := 195) hC dL_law_194 rfl ?_
  refine l_bipush (pc' := 197) (v := (32 : Int32)) hC dL_law_195 (by decide) rfl ?_
  refine l_lshl (pc' := 198) hC dL_law_197 rfl ?_
  refine l_aload_n (pc' := 199) (i := 0) hC dL_law_198 rfl rfl rfl ?_
  refine l_iload_n (pc' := 200) (i := 3) hC dL_law_199 rfl rfl rfl ?_
  refine l_iconst (pc' := 201) (v := nI 3) hC dL_law_200 (by decide) rfl ?_
  refine l_iadd (pc' := 202) hC dL_law_201 rfl ?_
  refine l_sld (pc' := 203) hC (sc_in hi hC.L (by decide)) dL_law_202 rfl ?_
  refine l_i2l (pc' := 204) hC dL_law_203 rfl ?_
  refine l_ldc2_w (pc' := 207) (v := 4294967295) hC v_94 dL_law_204 rfl ?_
  refine l_land (pc' := 208) hC dL_law_207 rfl ?_
  refine l_lor (pc' := 209) hC dL_law_208 rfl ?_
  refine l_callX (pc' := 212) (n := 2) hC (c_X5_add κ.2.1 e1) ⟨v_95, v_96, v_97, v_87, v_98, ⟨⟨by decide, by decide⟩, by decide +kernel⟩⟩ rc_CP (by decide) rfl rfl rfl rfl dL_law_209 rfl ?_
  refine l_aload_n (pc' := 213) (i := 2) hC dL_law_212 rfl rfl rfl ?_
  refine l_aload_n (pc' := 214) (i := 0) hC dL_law_213 rfl rfl rfl ?_
  refine l_iload_n (pc' := 215) (i := 3) hC dL_law_214 rfl rfl rfl ?_
  refine l_iconst (pc' := 216) (v := nI 1) hC dL_law_215 (by decide) rfl ?_
  refine l_iadd (pc' := 217) hC dL_law_216 rfl ?_
  refine l_sld (pc' := 218) hC (sc_in hi hC.L (by decide)) dL_law_217 rfl ?_
  refine l_aload_n (pc' := 219) (i := 0) hC dL_law_218 rfl rfl rfl ?_
  refine l_iload_n (pc' := 220) (i := 3) hC dL_law_219 rfl rfl rfl ?_
  refine l_iconst (pc' := 221) (v := nI 2) hC dL_law_220 (by decide) rfl ?_
  refine l_iadd (pc' := 222) hC dL_law_221 rfl ?_
  refine l_sld (pc' := 223) hC (sc_in hi hC.L (by decide)) dL_law_222 rfl ?_
  refine l_i2l (pc' := 224) hC dL_law_223 rfl ?_
  refine l_bipush (pc' := 226) (v := (32 : Int32)) hC dL_law_224 (by decide) rfl ?_
  refine l_lshl (pc' := 227) hC dL_law_226 rfl ?_
  refine l_aload_n (pc' := 228) (i := 0) hC dL_law_227 rfl rfl rfl ?_
  refine l_iload_n (pc' := 229) (i := 3) hC dL_law_228 rfl rfl rfl ?_
  refine l_iconst (pc' := 230) (v := nI 3) hC dL_law_229 (by decide) rfl ?_
  refine l_iadd (pc' := 231) hC dL_law_230 rfl ?_
  refine l_sld (pc' := 232) hC (sc_in hi hC.L (by decide)) dL_law_231 rfl ?_
  refine l_i2l (pc' := 233) hC dL_law_232 rfl ?_
  refine l_ldc2_w (pc' := 236) (v := 4294967295) hC v_94 dL_law_233 rfl ?_
  refine l_land (pc' := 237) hC dL_law_236 rfl ?_
  refine l_lor (pc' := 238) hC dL_law_237 rfl ?_
  refine l_callM (pc' := 241) (n := 2) hC (c_X6_add κ.2.1 e2) ⟨v_99, v_100, v_101, v_92, v_102, ⟨⟨by decide, by decide⟩, by decide +kernel⟩⟩ rc_M (by decide) rfl rfl rfl rfl dL_law_238 rfl ?_
  refine l_same (tgt := 844) hC dL_law_241 (by decide) ?_
  exact h xk xo xc' xt' xn' xl rc rv rb la wch wcc wpl wun srow ssp sen str stp swd rwp rdr rpd rpv rpc rzp mk mo mm' mt' mv' mx' mp mtd mf ms md mdd mn mst mpl mbb ma me mb mba mpg mdi mbl mby mw mz mso mbo mco mcd ml mr hc' ht hf (hx.c5 h5)

set_option maxHeartbeats 4000000 in
theorem lk_type {κ : GK} {Z : State → Prop} {EX EM : GE} {b L i : Nat} {xs : Nat → Int32} (hC : lC κ EX EM b L xs) (hi : i + 5 ≤ L) (h : LK κ Z EX EM 844 [some (.ref b), some (.ref (ea EX 35)), some (.ref (ea EM 0)), some (.int (nI i))]) : LK κ Z EX EM 246 [some (.ref b), some (.ref (ea EX 35)), some (.ref (ea EM 0)), some (.int (nI i))] := by
  intro xk xo xc xt xn xl rc rv rb la wch wcc wpl wun srow ssp sen str stp swd rwp rdr rpd rpv rpc rzp mk mo mm mt mv mx mp mtd mf ms md mdd mn mst mpl mbb ma me mb mba mpg mdi mbl mby mw mz mso mbo mco mcd ml mr hc ht hf hx
  obtain ⟨r, rc', rv', rb', mp', mtd', e1, e2, ht', h5⟩ := sim_type ht (lshl (i2l (xs (ix (nI i + nI 1)))) (32 : Int32) ||| (i2l (xs (ix (nI i + nI 2))) &&& (4294967295 : Int64))) (xs (ix (nI i + nI 3)))
  refine l_aload_n (pc' := 247) (i := 1) hC dL_law_246 rfl rfl rfl ?_
  refine l_aload_n (pc' := 248) (i := 0) hC dL_law_247 rfl rfl rfl ?_
  refine l_iload_n (pc' := 249) (i := 3) hC dL_law_248 rfl rfl rfl ?_
  refine l_iconst (pc' := 250) (v := nI 1) hC dL_law_249 (by decide) rfl ?_
  refine l_iadd (pc' := 251) hC dL_law_250 rfl ?_
  refine l_sld (pc' := 252) hC (sc_in hi hC.L (by decide)) dL_law_251 rfl ?_
  refine l_i2l (pc' := 253) hC dL_law_252 rfl ?_
  refine l_bipush (pc' := 255) (v := (32 : Int32)) hC dL_law_253 (by decide) rfl ?_
  refine l_lshl (pc' := 256) hC dL_law_255 rfl ?_
  refine l_aload_n (pc' := 257) (i := 0) hC dL_law_256 rfl rfl rfl ?_
  refine l_iload_n (pc' := 258) (i := 3) hC dL_law_257 rfl rfl rfl ?_
  refine l_iconst (pc' := 259) (v := nI 2) hC dL_law_258 (by decide) rfl ?_
  refine l_iadd (pc' := 260) hC dL_law_259 rfl ?_
  refine l_sld (pc' := 261) hC (sc_in hi hC.L (by decide)) dL_law_260 rfl ?_
  refine l_i2l (pc' := 262) hC dL_law_261 rfl ?_
  refine l_ldc2_w (pc' := 265) (v := 4294967295) hC v_94 dL_law_262 rfl ?_
  refine l_land (pc' := 266) hC dL_law_265 rfl ?_
  refine l_lor (pc' := 267) hC dL_law_266 rfl ?_
  refine l_aload_n (pc' := 268) (i := 0) hC dL_law_267 rfl rfl rfl ?_
  refine l_iload_n (pc' := 269) (i := 3) hC dL_law_268 rfl rfl rfl ?_
  refine l_iconst (pc' := 270) (v := nI 3) hC dL_law_269 (by decide) rfl ?_
  refine l_iadd (pc' := 271) hC dL_law_270 rfl ?_
  refine l_sld (pc' := 272) hC (sc_in hi hC.L (by decide)) dL_law_271 rfl ?_
  refine l_callX (pc' := 275) (n := 2) hC (c_X5_type κ.2.1 e1) ⟨v_103, v_104, v_105, v_87, v_106, ⟨⟨by decide, by decide⟩, by decide +kernel⟩⟩ rc_CP (by decide) rfl rfl rfl rfl dL_law_272 rfl ?_
  refine l_aload_n (pc' := 276) (i := 2) hC dL_law_275 rfl rfl rfl ?_
  refine l_aload_n (pc' := 277) (i := 0) hC dL_law_276 rfl rfl rfl ?_
  refine l_iload_n (pc' := 278) (i := 3) hC dL_law_277 rfl rfl rfl ?_
  refine l_iconst (pc' := 279) (v := nI 1) hC dL_law_278 (by decide) rfl ?_
  refine l_iadd (pc' := 280) hC dL_law_279 rfl ?_
  refine l_sld (pc' := 281) hC (sc_in hi hC.L (by decide)) dL_law_280 rfl ?_
  refine l_i2l (pc' := 282) hC dL_law_281 rfl ?_
  refine l_bipush (pc' := 284) (v := (32 : Int32)) hC dL_law_282 (by decide) rfl ?_
  refine l_lshl (pc' := 285) hC dL_law_284 rfl ?_
  refine l_aload_n (pc' := 286) (i := 0) hC dL_law_285 rfl rfl rfl ?_
  refine l_iload_n (pc' := 287) (i := 3) hC dL_law_286 rfl rfl rfl ?_
  refine l_iconst (pc' := 288) (v := nI 2) hC dL_law_287 (by decide) rfl ?_
  refine l_iadd (pc' := 289) hC dL_law_288 rfl ?_
  refine l_sld (pc' := 290) hC (sc_in hi hC.L (by decide)) dL_law_289 rfl ?_
  refine l_i2l (pc' := 291) hC dL_law_290 rfl ?_
  refine l_ldc2_w (pc' := 294) (v := 4294967295) hC v_94 dL_law_291 rfl ?_
  refine l_land (pc' := 295) hC dL_law_294 rfl ?_
  refine l_lor (pc' := 296) hC dL_law_295 rfl ?_
  refine l_aload_n (pc' := 297) (i := 0) hC dL_law_296 rfl rfl rfl ?_
  refine l_iload_n (pc' := 298) (i := 3) hC dL_law_297 rfl rfl rfl ?_
  refine l_iconst (pc' := 299) (v := nI 3) hC dL_law_298 (by decide) rfl ?_
  refine l_iadd (pc' := 300) hC dL_law_299 rfl ?_
  refine l_sld (pc' := 301) hC (sc_in hi hC.L (by decide)) dL_law_300 rfl ?_
  refine l_callM (pc' := 304) (n := 2) hC (c_X6_type κ.2.1 e2) ⟨v_107, v_108, v_109, v_92, v_110, ⟨⟨by decide, by decide⟩, by decide +kernel⟩⟩ rc_M (by decide) rfl rfl rfl rfl dL_law_301 rfl ?_
  refine l_same (tgt := 844) hC dL_law_304 (by decide) ?_
  exact h xk xo xc xt xn xl rc' rv' rb' la wch wcc wpl wun srow ssp sen str stp swd rwp rdr rpd rpv rpc rzp mk mo mm mt mv mx mp' mtd' mf ms md mdd mn mst mpl mbb ma me mb mba mpg mdi mbl mby mw mz mso mbo mco mcd ml mr hc ht' (hf.fr h5) hx

set_option maxHeartbeats 4000000 in
theorem lk_addText {κ : GK} {Z : State → Prop} {EX EM : GE} {b L i : Nat} {xs : Nat → Int32} (hC : lC κ EX EM b L xs) (hi : i + 5 ≤ L) (h : LK κ Z EX EM 844 [some (.ref b), some (.ref (ea EX 35)), some (.ref (ea EM 0)), some (.int (nI i))]) : LK κ Z EX EM 309 [some (.ref b), some (.ref (ea EX 35)), some (.ref (ea EM 0)), some (.int (nI i))] := by
  intro xk xo xc xt xn xl rc rv rb la wch wcc wpl wun srow ssp sen str stp swd rwp rdr rpd rpv rpc rzp mk mo mm mt mv mx mp mtd mf ms md mdd mn mst mpl mbb ma me mb mba mpg mdi mbl mby mw mz mso mbo mco mcd ml mr hc ht hf hx
  obtain ⟨r, xc', xt', xn', xl', rc', rv', mm', mt', mv', mx', mtd', e1, e2, hc', ht', h6, h5⟩ := sim_addText hc ht (xs (ix (nI i + nI 1)))
  refine l_aload_n (pc' := 310) (i := 1) hC dL_law_309 rfl rfl rfl ?_
  refine l_aload_n (pc' := 311) (i := 0) hC dL_law_310 rfl rfl rfl ?_
  refine l_iload_n (pc' := 312) (i := 3) hC dL_law_311 rfl rfl rfl ?_
  refine l_iconst (pc' := 313) (v := nI 1) hC dL_law_312 (by decide) rfl ?_
  refine l_iadd (pc' := 314) hC dL_law_313 rfl ?_
  refine l_sld (pc' := 315) hC (sc_in hi hC.L (by decide)) dL_law_314 rfl ?_
  refine l_callX (pc' := 318) (n := 1) hC (c_X5_addText κ.2.1 e1) ⟨v_111, v_112, v_113, v_87, v_114, ⟨⟨by decide, by decide⟩, by decide +kernel⟩⟩ rc_CP (by decide) rfl rfl rfl rfl dL_law_315 rfl ?_
  refine l_aload_n (pc' := 319) (i := 2) hC dL_law_318 rfl rfl rfl ?_
  refine l_aload_n (pc' := 320) (i := 0) hC dL_law_319 rfl rfl rfl ?_
  refine l_iload_n (pc' := 321) (i := 3) hC dL_law_320 rfl rfl rfl ?_
  refine l_iconst (pc' := 322) (v := nI 1) hC dL_law_321 (by decide) rfl ?_
  refine l_iadd (pc' := 323) hC dL_law_322 rfl ?_
  refine l_sld (pc' := 324) hC (sc_in hi hC.L (by decide)) dL_law_323 rfl ?_
  refine l_callM (pc' := 327) (n := 1) hC (c_X6_addText κ.2.1 e2) ⟨v_115, v_116, v_117, v_92, v_118, ⟨⟨by decide, by decide⟩, by decide +kernel⟩⟩ rc_M (by decide) rfl rfl rfl rfl dL_law_324 rfl ?_
  refine l_same (tgt := 844) hC dL_law_327 (by decide) ?_
  exact h xk xo xc' xt' xn' xl' rc' rv' rb la wch wcc wpl wun srow ssp sen str stp swd rwp rdr rpd rpv rpc rzp mk mo mm' mt' mv' mx' mp mtd' mf ms md mdd mn mst mpl mbb ma me mb mba mpg mdi mbl mby mw mz mso mbo mco mcd ml mr hc' ht' (hf.fr h6) (hx.c5 h5)

set_option maxHeartbeats 4000000 in
theorem lk_addNone {κ : GK} {Z : State → Prop} {EX EM : GE} {b L i : Nat} {xs : Nat → Int32} (hC : lC κ EX EM b L xs) (hi : i + 5 ≤ L) (h : LK κ Z EX EM 844 [some (.ref b), some (.ref (ea EX 35)), some (.ref (ea EM 0)), some (.int (nI i))]) : LK κ Z EX EM 332 [some (.ref b), some (.ref (ea EX 35)), some (.ref (ea EM 0)), some (.int (nI i))] := by
  intro xk xo xc xt xn xl rc rv rb la wch wcc wpl wun srow ssp sen str stp swd rwp rdr rpd rpv rpc rzp mk mo mm mt mv mx mp mtd mf ms md mdd mn mst mpl mbb ma me mb mba mpg mdi mbl mby mw mz mso mbo mco mcd ml mr hc ht hf hx
  obtain ⟨r, xc', xt', xn', mm', mt', mv', mx', e1, e2, hc', h5⟩ := sim_addNone hc (xs (ix (nI i + nI 1)))
  refine l_aload_n (pc' := 333) (i := 1) hC dL_law_332 rfl rfl rfl ?_
  refine l_aload_n (pc' := 334) (i := 0) hC dL_law_333 rfl rfl rfl ?_
  refine l_iload_n (pc' := 335) (i := 3) hC dL_law_334 rfl rfl rfl ?_
  refine l_iconst (pc' := 336) (v := nI 1) hC dL_law_335 (by decide) rfl ?_
  refine l_iadd (pc' := 337) hC dL_law_336 rfl ?_
  refine l_sld (pc' := 338) hC (sc_in hi hC.L (by decide)) dL_law_337 rfl ?_
  refine l_callX (pc' := 341) (n := 1) hC (c_X5_addNone κ.2.1 e1) ⟨v_119, v_120, v_121, v_87, v_122, ⟨⟨by decide, by decide⟩, by decide +kernel⟩⟩ rc_CP (by decide) rfl rfl rfl rfl dL_law_338 rfl ?_
  refine l_aload_n (pc' := 342) (i := 2) hC dL_law_341 rfl rfl rfl ?_
  refine l_aload_n (pc' := 343) (i := 0) hC dL_law_342 rfl rfl rfl ?_
  refine l_iload_n (pc' := 344) (i := 3) hC dL_law_343 rfl rfl rfl ?_
  refine l_iconst (pc' := 345) (v := nI 1) hC dL_law_344 (by decide) rfl ?_
  refine l_iadd (pc' := 346) hC dL_law_345 rfl ?_
  refine l_sld (pc' := 347) hC (sc_in hi hC.L (by decide)) dL_law_346 rfl ?_
  refine l_callM (pc' := 350) (n := 1) hC (c_X6_addNone κ.2.1 e2) ⟨v_123, v_124, v_125, v_92, v_126, ⟨⟨by decide, by decide⟩, by decide +kernel⟩⟩ rc_M (by decide) rfl rfl rfl rfl dL_law_347 rfl ?_
  refine l_same (tgt := 844) hC dL_law_350 (by decide) ?_
  exact h xk xo xc' xt' xn' xl rc rv rb la wch wcc wpl wun srow ssp sen str stp swd rwp rdr rpd rpv rpc rzp mk mo mm' mt' mv' mx' mp mtd mf ms md mdd mn mst mpl mbb ma me mb mba mpg mdi mbl mby mw mz mso mbo mco mcd ml mr hc' ht hf (hx.c5 h5)

set_option maxHeartbeats 4000000 in
theorem lk_repeat {κ : GK} {Z : State → Prop} {EX EM : GE} {b L i : Nat} {xs : Nat → Int32} (hC : lC κ EX EM b L xs) (hi : i + 5 ≤ L) (h : LK κ Z EX EM 844 [some (.ref b), some (.ref (ea EX 35)), some (.ref (ea EM 0)), some (.int (nI i))]) : LK κ Z EX EM 355 [some (.ref b), some (.ref (ea EX 35)), some (.ref (ea EM 0)), some (.int (nI i))] := by
  intro xk xo xc xt xn xl rc rv rb la wch wcc wpl wun srow ssp sen str stp swd rwp rdr rpd rpv rpc rzp mk mo mm mt mv mx mp mtd mf ms md mdd mn mst mpl mbb ma me mb mba mpg mdi mbl mby mw mz mso mbo mco mcd ml mr hc ht hf hx
  obtain ⟨r, xc', xt', xn', xl', mm', mt', mv', mx', e1, e2, hc', h5⟩ := sim_repeat hc (xs (ix (nI i + nI 1))) (xs (ix (nI i + nI 2))) (xs (ix (nI i + nI 3)))
  refine l_aload_n (pc' := 356) (i := 1) hC dL_law_355 rfl rfl rfl ?_
  refine l_aload_n (pc' := 357) (i := 0) hC dL_law_356 rfl rfl rfl ?_
  refine l_iload_n (pc' := 358) (i := 3) hC dL_law_357 rfl rfl rfl ?_
  refine l_iconst (pc' := 359) (v := nI 1) hC dL_law_358 (by decide) rfl ?_
  refine l_iadd (pc' := 360) hC dL_law_359 rfl ?_
  refine l_sld (pc' := 361) hC (sc_in hi hC.L (by decide)) dL_law_360 rfl ?_
  refine l_aload_n (pc' := 362) (i := 0) hC dL_law_361 rfl rfl rfl ?_
  refine l_iload_n (pc' := 363) (i := 3) hC dL_law_362 rfl rfl rfl ?_
  refine l_iconst (pc' := 364) (v := nI 2) hC dL_law_363 (by decide) rfl ?_
  refine l_iadd (pc' := 365) hC dL_law_364 rfl ?_
  refine l_sld (pc' := 366) hC (sc_in hi hC.L (by decide)) dL_law_365 rfl ?_
  refine l_aload_n (pc' := 367) (i := 0) hC dL_law_366 rfl rfl rfl ?_
  refine l_iload_n (pc' := 368) (i := 3) hC dL_law_367 rfl rfl rfl ?_
  refine l_iconst (pc' := 369) (v := nI 3) hC dL_law_368 (by decide) rfl ?_
  refine l_iadd (pc' := 370) hC dL_law_369 rfl ?_
  refine l_sld (pc' := 371) hC (sc_in hi hC.L (by decide)) dL_law_370 rfl ?_
  refine l_callX (pc' := 374) (n := 3) hC (c_X5_repeat κ.2.1 e1) ⟨v_127, v_128, v_129, v_87, v_130, ⟨⟨by decide, by decide⟩, by decide +kernel⟩⟩ rc_CP (by decide) rfl rfl rfl rfl dL_law_371 rfl ?_
  refine l_aload_n (pc' := 375) (i := 2) hC dL_law_374 rfl rfl rfl ?_
  refine l_aload_n (pc' := 376) (i := 0) hC dL_law_375 rfl rfl rfl ?_
  refine l_iload_n (pc' := 377) (i := 3) hC dL_law_376 rfl rfl rfl ?_
  refine l_iconst (pc' := 378) (v := nI 1) hC dL_law_377 (by decide) rfl ?_
  refine l_iadd (pc' := 379) hC dL_law_378 rfl ?_
  refine l_sld (pc' := 380) hC (sc_in hi hC.L (by decide)) dL_law_379 rfl ?_
  refine l_aload_n (pc' := 381) (i := 0) hC dL_law_380 rfl rfl rfl ?_
  refine l_iload_n (pc' := 382) (i := 3) hC dL_law_381 rfl rfl rfl ?_
  refine l_iconst (pc' := 383) (v := nI 2) hC dL_law_382 (by decide) rfl ?_
  refine l_iadd (pc' := 384) hC dL_law_383 rfl ?_
  refine l_sld (pc' := 385) hC (sc_in hi hC.L (by decide)) dL_law_384 rfl ?_
  refine l_aload_n (pc' := 386) (i := 0) hC dL_law_385 rfl rfl rfl ?_
  refine l_iload_n (pc' := 387) (i := 3) hC dL_law_386 rfl rfl rfl ?_
  refine l_iconst (pc' := 388) (v := nI 3) hC dL_law_387 (by decide) rfl ?_
  refine l_iadd (pc' := 389) hC dL_law_388 rfl ?_
  refine l_sld (pc' := 390) hC (sc_in hi hC.L (by decide)) dL_law_389 rfl ?_
  refine l_callM (pc' := 393) (n := 3) hC (c_X6_repeat κ.2.1 e2) ⟨v_131, v_132, v_133, v_92, v_134, ⟨⟨by decide, by decide⟩, by decide +kernel⟩⟩ rc_M (by decide) rfl rfl rfl rfl dL_law_390 rfl ?_
  refine l_same (tgt := 844) hC dL_law_393 (by decide) ?_
  exact h xk xo xc' xt' xn' xl' rc rv rb la wch wcc wpl wun srow ssp sen str stp swd rwp rdr rpd rpv rpc rzp mk mo mm' mt' mv' mx' mp mtd mf ms md mdd mn mst mpl mbb ma me mb mba mpg mdi mbl mby mw mz mso mbo mco mcd ml mr hc' ht hf (hx.c5 h5)

set_option maxHeartbeats 4000000 in
theorem lk_told {κ : GK} {Z : State → Prop} {EX EM : GE} {b L i : Nat} {xs : Nat → Int32} (hC : lC κ EX EM b L xs) (hi : i + 5 ≤ L) (h : LK κ Z EX EM 844 [some (.ref b), some (.ref (ea EX 35)), some (.ref (ea EM 0)), some (.int (nI i))]) : LK κ Z EX EM 398 [some (.ref b), some (.ref (ea EX 35)), some (.ref (ea EM 0)), some (.int (nI i))] := by
  intro xk xo xc xt xn xl rc rv rb la wch wcc wpl wun srow ssp sen str stp swd rwp rdr rpd rpv rpc rzp mk mo mm mt mv mx mp mtd mf ms md mdd mn mst mpl mbb ma me mb mba mpg mdi mbl mby mw mz mso mbo mco mcd ml mr hc ht hf hx
  obtain ⟨r, e1, e2⟩ := sim_told hc (xs (ix (nI i + nI 1))) (xs (ix (nI i + nI 2)))
  refine l_aload_n (pc' := 399) (i := 1) hC dL_law_398 rfl rfl rfl ?_
  refine l_aload_n (pc' := 400) (i := 0) hC dL_law_399 rfl rfl rfl ?_
  refine l_iload_n (pc' := 401) (i := 3) hC dL_law_400 rfl rfl rfl ?_
  refine l_iconst (pc' := 402) (v := nI 1) hC dL_law_401 (by decide) rfl ?_
  refine l_iadd (pc' := 403) hC dL_law_402 rfl ?_
  refine l_sld (pc' := 404) hC (sc_in hi hC.L (by decide)) dL_law_403 rfl ?_
  refine l_aload_n (pc' := 405) (i := 0) hC dL_law_404 rfl rfl rfl ?_
  refine l_iload_n (pc' := 406) (i := 3) hC dL_law_405 rfl rfl rfl ?_
  refine l_iconst (pc' := 407) (v := nI 2) hC dL_law_406 (by decide) rfl ?_
  refine l_iadd (pc' := 408) hC dL_law_407 rfl ?_
  refine l_sld (pc' := 409) hC (sc_in hi hC.L (by decide)) dL_law_408 rfl ?_
  refine l_callX (pc' := 412) (n := 2) hC (c_X5_told κ.2.1 e1) ⟨v_135, v_136, v_137, v_87, v_138, ⟨⟨by decide, by decide⟩, by decide +kernel⟩⟩ rc_CP (by decide) rfl rfl rfl rfl dL_law_409 rfl ?_
  refine l_aload_n (pc' := 413) (i := 2) hC dL_law_412 rfl rfl rfl ?_
  refine l_aload_n (pc' := 414) (i := 0) hC dL_law_413 rfl rfl rfl ?_
  refine l_iload_n (pc' := 415) (i := 3) hC dL_law_414 rfl rfl rfl ?_
  refine l_iconst (pc' := 416) (v := nI 1) hC dL_law_415 (by decide) rfl ?_
  refine l_iadd (pc' := 417) hC dL_law_416 rfl ?_
  refine l_sld (pc' := 418) hC (sc_in hi hC.L (by decide)) dL_law_417 rfl ?_
  refine l_aload_n (pc' := 419) (i := 0) hC dL_law_418 rfl rfl rfl ?_
  refine l_iload_n (pc' := 420) (i := 3) hC dL_law_419 rfl rfl rfl ?_
  refine l_iconst (pc' := 421) (v := nI 2) hC dL_law_420 (by decide) rfl ?_
  refine l_iadd (pc' := 422) hC dL_law_421 rfl ?_
  refine l_sld (pc' := 423) hC (sc_in hi hC.L (by decide)) dL_law_422 rfl ?_
  refine l_callM (pc' := 426) (n := 2) hC (c_X6_told κ.2.1 e2) ⟨v_139, v_140, v_141, v_92, v_142, ⟨⟨by decide, by decide⟩, by decide +kernel⟩⟩ rc_M (by decide) rfl rfl rfl rfl dL_law_423 rfl ?_
  refine l_same (tgt := 844) hC dL_law_426 (by decide) ?_
  exact h xk xo xc xt xn xl rc rv rb la wch wcc wpl wun srow ssp sen str stp swd rwp rdr rpd rpv rpc rzp mk mo mm mt mv mx mp mtd mf ms md mdd mn mst mpl mbb ma me mb mba mpg mdi mbl mby mw mz mso mbo mco mcd ml mr hc ht hf hx

set_option maxHeartbeats 4000000 in
theorem lk_has {κ : GK} {Z : State → Prop} {EX EM : GE} {b L i : Nat} {xs : Nat → Int32} (hC : lC κ EX EM b L xs) (hi : i + 5 ≤ L) (h : LK κ Z EX EM 844 [some (.ref b), some (.ref (ea EX 35)), some (.ref (ea EM 0)), some (.int (nI i))]) : LK κ Z EX EM 431 [some (.ref b), some (.ref (ea EX 35)), some (.ref (ea EM 0)), some (.int (nI i))] := by
  intro xk xo xc xt xn xl rc rv rb la wch wcc wpl wun srow ssp sen str stp swd rwp rdr rpd rpv rpc rzp mk mo mm mt mv mx mp mtd mf ms md mdd mn mst mpl mbb ma me mb mba mpg mdi mbl mby mw mz mso mbo mco mcd ml mr hc ht hf hx
  obtain ⟨r, e1, e2⟩ := sim_has hc (xs (ix (nI i + nI 1))) (xs (ix (nI i + nI 2)))
  refine l_aload_n (pc' := 432) (i := 1) hC dL_law_431 rfl rfl rfl ?_
  refine l_aload_n (pc' := 433) (i := 0) hC dL_law_432 rfl rfl rfl ?_
  refine l_iload_n (pc' := 434) (i := 3) hC dL_law_433 rfl rfl rfl ?_
  refine l_iconst (pc' := 435) (v := nI 1) hC dL_law_434 (by decide) rfl ?_
  refine l_iadd (pc' := 436) hC dL_law_435 rfl ?_
  refine l_sld (pc' := 437) hC (sc_in hi hC.L (by decide)) dL_law_436 rfl ?_
  refine l_aload_n (pc' := 438) (i := 0) hC dL_law_437 rfl rfl rfl ?_
  refine l_iload_n (pc' := 439) (i := 3) hC dL_law_438 rfl rfl rfl ?_
  refine l_iconst (pc' := 440) (v := nI 2) hC dL_law_439 (by decide) rfl ?_
  refine l_iadd (pc' := 441) hC dL_law_440 rfl ?_
  refine l_sld (pc' := 442) hC (sc_in hi hC.L (by decide)) dL_law_441 rfl ?_
  refine l_callX (pc' := 445) (n := 2) hC (c_X5_has κ.2.1 e1) ⟨v_143, v_144, v_145, v_87, v_146, ⟨⟨by decide, by decide⟩, by decide +kernel⟩⟩ rc_CP (by decide) rfl rfl rfl rfl dL_law_442 rfl ?_
  refine l_aload_n (pc' := 446) (i := 2) hC dL_law_445 rfl rfl rfl ?_
  refine l_aload_n (pc' := 447) (i := 0) hC dL_law_446 rfl rfl rfl ?_
  refine l_iload_n (pc' := 448) (i := 3) hC dL_law_447 rfl rfl rfl ?_
  refine l_iconst (pc' := 449) (v := nI 1) hC dL_law_448 (by decide) rfl ?_
  refine l_iadd (pc' := 450) hC dL_law_449 rfl ?_
  refine l_sld (pc' := 451) hC (sc_in hi hC.L (by decide)) dL_law_450 rfl ?_
  refine l_aload_n (pc' := 452) (i := 0) hC dL_law_451 rfl rfl rfl ?_
  refine l_iload_n (pc' := 453) (i := 3) hC dL_law_452 rfl rfl rfl ?_
  refine l_iconst (pc' := 454) (v := nI 2) hC dL_law_453 (by decide) rfl ?_
  refine l_iadd (pc' := 455) hC dL_law_454 rfl ?_
  refine l_sld (pc' := 456) hC (sc_in hi hC.L (by decide)) dL_law_455 rfl ?_
  refine l_callM (pc' := 459) (n := 2) hC (c_X6_has κ.2.1 e2) ⟨v_147, v_148, v_149, v_92, v_150, ⟨⟨by decide, by decide⟩, by decide +kernel⟩⟩ rc_M (by decide) rfl rfl rfl rfl dL_law_456 rfl ?_
  refine l_same (tgt := 844) hC dL_law_459 (by decide) ?_
  exact h xk xo xc xt xn xl rc rv rb la wch wcc wpl wun srow ssp sen str stp swd rwp rdr rpd rpv rpc rzp mk mo mm mt mv mx mp mtd mf ms md mdd mn mst mpl mbb ma me mb mba mpg mdi mbl mby mw mz mso mbo mco mcd ml mr hc ht hf hx

set_option maxHeartbeats 4000000 in
theorem lk_value {κ : GK} {Z : State → Prop} {EX EM : GE} {b L i : Nat} {xs : Nat → Int32} (hC : lC κ EX EM b L xs) (hi : i + 5 ≤ L) (h : LK κ Z EX EM 844 [some (.ref b), some (.ref (ea EX 35)), some (.ref (ea EM 0)), some (.int (nI i))]) : LK κ Z EX EM 464 [some (.ref b), some (.ref (ea EX 35)), some (.ref (ea EM 0)), some (.int (nI i))] := by
  intro xk xo xc xt xn xl rc rv rb la wch wcc wpl wun srow ssp sen str stp swd rwp rdr rpd rpv rpc rzp mk mo mm mt mv mx mp mtd mf ms md mdd mn mst mpl mbb ma me mb mba mpg mdi mbl mby mw mz mso mbo mco mcd ml mr hc ht hf hx
  obtain ⟨r, e1, e2⟩ := sim_value hc (xs (ix (nI i + nI 1))) (xs (ix (nI i + nI 2)))
  refine l_aload_n (pc' := 465) (i := 1) hC dL_law_464 rfl rfl rfl ?_
  refine l_aload_n (pc' := 466) (i := 0) hC dL_law_465 rfl rfl rfl ?_
  refine l_iload_n (pc' := 467) (i := 3) hC dL_law_466 rfl rfl rfl ?_
  refine l_iconst (pc' := 468) (v := nI 1) hC dL_law_467 (by decide) rfl ?_
  refine l_iadd (pc' := 469) hC dL_law_468 rfl ?_
  refine l_sld (pc' := 470) hC (sc_in hi hC.L (by decide)) dL_law_469 rfl ?_
  refine l_aload_n (pc' := 471) (i := 0) hC dL_law_470 rfl rfl rfl ?_
  refine l_iload_n (pc' := 472) (i := 3) hC dL_law_471 rfl rfl rfl ?_
  refine l_iconst (pc' := 473) (v := nI 2) hC dL_law_472 (by decide) rfl ?_
  refine l_iadd (pc' := 474) hC dL_law_473 rfl ?_
  refine l_sld (pc' := 475) hC (sc_in hi hC.L (by decide)) dL_law_474 rfl ?_
  refine l_callX (pc' := 478) (n := 2) hC (c_X5_value κ.2.1 e1) ⟨v_151, v_152, v_153, v_87, v_154, ⟨⟨by decide, by decide⟩, by decide +kernel⟩⟩ rc_CP (by decide) rfl rfl rfl rfl dL_law_475 rfl ?_
  refine l_aload_n (pc' := 479) (i := 2) hC dL_law_478 rfl rfl rfl ?_
  refine l_aload_n (pc' := 480) (i := 0) hC dL_law_479 rfl rfl rfl ?_
  refine l_iload_n (pc' := 481) (i := 3) hC dL_law_480 rfl rfl rfl ?_
  refine l_iconst (pc' := 482) (v := nI 1) hC dL_law_481 (by decide) rfl ?_
  refine l_iadd (pc' := 483) hC dL_law_482 rfl ?_
  refine l_sld (pc' := 484) hC (sc_in hi hC.L (by decide)) dL_law_483 rfl ?_
  refine l_aload_n (pc' := 485) (i := 0) hC dL_law_484 rfl rfl rfl ?_
  refine l_iload_n (pc' := 486) (i := 3) hC dL_law_485 rfl rfl rfl ?_
  refine l_iconst (pc' := 487) (v := nI 2) hC dL_law_486 (by decide) rfl ?_
  refine l_iadd (pc' := 488) hC dL_law_487 rfl ?_
  refine l_sld (pc' := 489) hC (sc_in hi hC.L (by decide)) dL_law_488 rfl ?_
  refine l_callM (pc' := 492) (n := 2) hC (c_X6_value κ.2.1 e2) ⟨v_155, v_156, v_157, v_92, v_158, ⟨⟨by decide, by decide⟩, by decide +kernel⟩⟩ rc_M (by decide) rfl rfl rfl rfl dL_law_489 rfl ?_
  refine l_sameL (pc1 := 493) (tgt := 844) hC dL_law_492 dL_law_493 rfl (by decide) ?_
  exact h xk xo xc xt xn xl rc rv rb la wch wcc wpl wun srow ssp sen str stp swd rwp rdr rpd rpv rpc rzp mk mo mm mt mv mx mp mtd mf ms md mdd mn mst mpl mbb ma me mb mba mpg mdi mbl mby mw mz mso mbo mco mcd ml mr hc ht hf hx

set_option maxHeartbeats 4000000 in
theorem lk_letter {κ : GK} {Z : State → Prop} {EX EM : GE} {b L i : Nat} {xs : Nat → Int32} (hC : lC κ EX EM b L xs) (hi : i + 5 ≤ L) (h : LK κ Z EX EM 844 [some (.ref b), some (.ref (ea EX 35)), some (.ref (ea EM 0)), some (.int (nI i))]) : LK κ Z EX EM 498 [some (.ref b), some (.ref (ea EX 35)), some (.ref (ea EM 0)), some (.int (nI i))] := by
  intro xk xo xc xt xn xl rc rv rb la wch wcc wpl wun srow ssp sen str stp swd rwp rdr rpd rpv rpc rzp mk mo mm mt mv mx mp mtd mf ms md mdd mn mst mpl mbb ma me mb mba mpg mdi mbl mby mw mz mso mbo mco mcd ml mr hc ht hf hx
  obtain ⟨r, e1, e2⟩ := sim_letter hc (xs (ix (nI i + nI 1))) (xs (ix (nI i + nI 2))) (xs (ix (nI i + nI 3)))
  refine l_aload_n (pc' := 499) (i := 1) hC dL_law_498 rfl rfl rfl ?_
  refine l_aload_n (pc' := 500) (i := 0) hC dL_law_499 rfl rfl rfl ?_
  refine l_iload_n (pc' := 501) (i := 3) hC dL_law_500 rfl rfl rfl ?_
  refine l_iconst (pc' := 502) (v := nI 1) hC dL_law_501 (by decide) rfl ?_
  refine l_iadd (pc' := 503) hC dL_law_502 rfl ?_
  refine l_sld (pc' := 504) hC (sc_in hi hC.L (by decide)) dL_law_503 rfl ?_
  refine l_aload_n (pc' := 505) (i := 0) hC dL_law_504 rfl rfl rfl ?_
  refine l_iload_n (pc' := 506) (i := 3) hC dL_law_505 rfl rfl rfl ?_
  refine l_iconst (pc' := 507) (v := nI 2) hC dL_law_506 (by decide) rfl ?_
  refine l_iadd (pc' := 508) hC dL_law_507 rfl ?_
  refine l_sld (pc' := 509) hC (sc_in hi hC.L (by decide)) dL_law_508 rfl ?_
  refine l_aload_n (pc' := 510) (i := 0) hC dL_law_509 rfl rfl rfl ?_
  refine l_iload_n (pc' := 511) (i := 3) hC dL_law_510 rfl rfl rfl ?_
  refine l_iconst (pc' := 512) (v := nI 3) hC dL_law_511 (by decide) rfl ?_
  refine l_iadd (pc' := 513) hC dL_law_512 rfl ?_
  refine l_sld (pc' := 514) hC (sc_in hi hC.L (by decide)) dL_law_513 rfl ?_
  refine l_callX (pc' := 517) (n := 3) hC (c_X5_letter κ.2.1 e1) ⟨v_159, v_160, v_161, v_87, v_162, ⟨⟨by decide, by decide⟩, by decide +kernel⟩⟩ rc_CP (by decide) rfl rfl rfl rfl dL_law_514 rfl ?_
  refine l_aload_n (pc' := 518) (i := 2) hC dL_law_517 rfl rfl rfl ?_
  refine l_aload_n (pc' := 519) (i := 0) hC dL_law_518 rfl rfl rfl ?_
  refine l_iload_n (pc' := 520) (i := 3) hC dL_law_519 rfl rfl rfl ?_
  refine l_iconst (pc' := 521) (v := nI 1) hC dL_law_520 (by decide) rfl ?_
  refine l_iadd (pc' := 522) hC dL_law_521 rfl ?_
  refine l_sld (pc' := 523) hC (sc_in hi hC.L (by decide)) dL_law_522 rfl ?_
  refine l_aload_n (pc' := 524) (i := 0) hC dL_law_523 rfl rfl rfl ?_
  refine l_iload_n (pc' := 525) (i := 3) hC dL_law_524 rfl rfl rfl ?_
  refine l_iconst (pc' := 526) (v := nI 2) hC dL_law_525 (by decide) rfl ?_
  refine l_iadd (pc' := 527) hC dL_law_526 rfl ?_
  refine l_sld (pc' := 528) hC (sc_in hi hC.L (by decide)) dL_law_527 rfl ?_
  refine l_aload_n (pc' := 529) (i := 0) hC dL_law_528 rfl rfl rfl ?_
  refine l_iload_n (pc' := 530) (i := 3) hC dL_law_529 rfl rfl rfl ?_
  refine l_iconst (pc' := 531) (v := nI 3) hC dL_law_530 (by decide) rfl ?_
  refine l_iadd (pc' := 532) hC dL_law_531 rfl ?_
  refine l_sld (pc' := 533) hC (sc_in hi hC.L (by decide)) dL_law_532 rfl ?_
  refine l_callM (pc' := 536) (n := 3) hC (c_X6_letter κ.2.1 e2) ⟨v_163, v_164, v_165, v_92, v_166, ⟨⟨by decide, by decide⟩, by decide +kernel⟩⟩ rc_M (by decide) rfl rfl rfl rfl dL_law_533 rfl ?_
  refine l_same (tgt := 844) hC dL_law_536 (by decide) ?_
  exact h xk xo xc xt xn xl rc rv rb la wch wcc wpl wun srow ssp sen str stp swd rwp rdr rpd rpv rpc rzp mk mo mm mt mv mx mp mtd mf ms md mdd mn mst mpl mbb ma me mb mba mpg mdi mbl mby mw mz mso mbo mco mcd ml mr hc ht hf hx

set_option maxHeartbeats 4000000 in
theorem lk_alike {κ : GK} {Z : State → Prop} {EX EM : GE} {b L i : Nat} {xs : Nat → Int32} (hC : lC κ EX EM b L xs) (hi : i + 5 ≤ L) (h : LK κ Z EX EM 844 [some (.ref b), some (.ref (ea EX 35)), some (.ref (ea EM 0)), some (.int (nI i))]) : LK κ Z EX EM 541 [some (.ref b), some (.ref (ea EX 35)), some (.ref (ea EM 0)), some (.int (nI i))] := by
  intro xk xo xc xt xn xl rc rv rb la wch wcc wpl wun srow ssp sen str stp swd rwp rdr rpd rpv rpc rzp mk mo mm mt mv mx mp mtd mf ms md mdd mn mst mpl mbb ma me mb mba mpg mdi mbl mby mw mz mso mbo mco mcd ml mr hc ht hf hx
  obtain ⟨r, e1, e2⟩ := sim_alike hc (xs (ix (nI i + nI 1))) (xs (ix (nI i + nI 2)))
  refine l_aload_n (pc' := 542) (i := 1) hC dL_law_541 rfl rfl rfl ?_
  refine l_aload_n (pc' := 543) (i := 0) hC dL_law_542 rfl rfl rfl ?_
  refine l_iload_n (pc' := 544) (i := 3) hC dL_law_543 rfl rfl rfl ?_
  refine l_iconst (pc' := 545) (v := nI 1) hC dL_law_544 (by decide) rfl ?_
  refine l_iadd (pc' := 546) hC dL_law_545 rfl ?_
  refine l_sld (pc' := 547) hC (sc_in hi hC.L (by decide)) dL_law_546 rfl ?_
  refine l_aload_n (pc' := 548) (i := 0) hC dL_law_547 rfl rfl rfl ?_
  refine l_iload_n (pc' := 549) (i := 3) hC dL_law_548 rfl rfl rfl ?_
  refine l_iconst (pc' := 550) (v := nI 2) hC dL_law_549 (by decide) rfl ?_
  refine l_iadd (pc' := 551) hC dL_law_550 rfl ?_
  refine l_sld (pc' := 552) hC (sc_in hi hC.L (by decide)) dL_law_551 rfl ?_
  refine l_callX (pc' := 555) (n := 2) hC (c_X5_alike κ.2.1 e1) ⟨v_167, v_168, v_169, v_87, v_170, ⟨⟨by decide, by decide⟩, by decide +kernel⟩⟩ rc_CP (by decide) rfl rfl rfl rfl dL_law_552 rfl ?_
  refine l_aload_n (pc' := 556) (i := 2) hC dL_law_555 rfl rfl rfl ?_
  refine l_aload_n (pc' := 557) (i := 0) hC dL_law_556 rfl rfl rfl ?_
  refine l_iload_n (pc' := 558) (i := 3) hC dL_law_557 rfl rfl rfl ?_
  refine l_iconst (pc' := 559) (v := nI 1) hC dL_law_558 (by decide) rfl ?_
  refine l_iadd (pc' := 560) hC dL_law_559 rfl ?_
  refine l_sld (pc' := 561) hC (sc_in hi hC.L (by decide)) dL_law_560 rfl ?_
  refine l_aload_n (pc' := 562) (i := 0) hC dL_law_561 rfl rfl rfl ?_
  refine l_iload_n (pc' := 563) (i := 3) hC dL_law_562 rfl rfl rfl ?_
  refine l_iconst (pc' := 564) (v := nI 2) hC dL_law_563 (by decide) rfl ?_
  refine l_iadd (pc' := 565) hC dL_law_564 rfl ?_
  refine l_sld (pc' := 566) hC (sc_in hi hC.L (by decide)) dL_law_565 rfl ?_
  refine l_callM (pc' := 569) (n := 2) hC (c_X6_alike κ.2.1 e2) ⟨v_171, v_172, v_173, v_92, v_174, ⟨⟨by decide, by decide⟩, by decide +kernel⟩⟩ rc_M (by decide) rfl rfl rfl rfl dL_law_566 rfl ?_
  refine l_same (tgt := 844) hC dL_law_569 (by decide) ?_
  exact h xk xo xc xt xn xl rc rv rb la wch wcc wpl wun srow ssp sen str stp swd rwp rdr rpd rpv rpc rzp mk mo mm mt mv mx mp mtd mf ms md mdd mn mst mpl mbb ma me mb mba mpg mdi mbl mby mw mz mso mbo mco mcd ml mr hc ht hf hx

set_option maxHeartbeats 4000000 in
theorem lk_write {κ : GK} {Z : State → Prop} {EX EM : GE} {b L i : Nat} {xs : Nat → Int32} (hC : lC κ EX EM b L xs) (hi : i + 5 ≤ L) (h : LK κ Z EX EM 844 [some (.ref b), some (.ref (ea EX 35)), some (.ref (ea EM 0)), some (.int (nI i))]) : LK κ Z EX EM 574 [some (.ref b), some (.ref (ea EX 35)), some (.ref (ea EM 0)), some (.int (nI i))] := by
  intro xk xo xc xt xn xl rc rv rb la wch wcc wpl wun srow ssp sen str stp swd rwp rdr rpd rpv rpc rzp mk mo mm mt mv mx mp mtd mf ms md mdd mn mst mpl mbb ma me mb mba mpg mdi mbl mby mw mz mso mbo mco mcd ml mr hc ht hf hx
  obtain ⟨r, rc', rv', rb', la', wch', wcc', wpl', wun', mm', mt', mv', mx', mf', ms', md', mdd', mn', mst', mpl', mbb', e1, e2, hc', hf', h5, h6, h7⟩ := sim_write hc hf (xs (ix (nI i + nI 1))) (xs (ix (nI i + nI 2))) (xs (ix (nI i + nI 3))) (bz (xs (ix (nI i + nI 4)))) la wch wcc wpl wun md mdd mn mst mpl mbb
  refine l_aload_n (pc' := 575) (i := 1) hC dL_law_574 rfl rfl rfl ?_
  refine l_aload_n (pc' := 576) (i := 0) hC dL_law_575 rfl rfl rfl ?_
  refine l_iload_n (pc' := 577) (i := 3) hC dL_law_576 rfl rfl rfl ?_
  refine l_iconst (pc' := 578) (v := nI 1) hC dL_law_577 (by decide) rfl ?_
  refine l_iadd (pc' := 579) hC dL_law_578 rfl ?_
  refine l_sld (pc' := 580) hC (sc_in hi hC.L (by decide)) dL_law_579 rfl ?_
  refine l_aload_n (pc' := 581) (i := 0) hC dL_law_580 rfl rfl rfl ?_
  refine l_iload_n (pc' := 582) (i := 3) hC dL_law_581 rfl rfl rfl ?_
  refine l_iconst (pc' := 583) (v := nI 2) hC dL_law_582 (by decide) rfl ?_
  refine l_iadd (pc' := 584) hC dL_law_583 rfl ?_
  refine l_sld (pc' := 585) hC (sc_in hi hC.L (by decide)) dL_law_584 rfl ?_
  refine l_aload_n (pc' := 586) (i := 0) hC dL_law_585 rfl rfl rfl ?_
  refine l_iload_n (pc' := 587) (i := 3) hC dL_law_586 rfl rfl rfl ?_
  refine l_iconst (pc' := 588) (v := nI 3) hC dL_law_587 (by decide) rfl ?_
  refine l_iadd (pc' := 589) hC dL_law_588 rfl ?_
  refine l_sld (pc' := 590) hC (sc_in hi hC.L (by decide)) dL_law_589 rfl ?_
  refine l_aload_n (pc' := 591) (i := 0) hC dL_law_590 rfl rfl rfl ?_
  refine l_iload_n (pc' := 592) (i := 3) hC dL_law_591 rfl rfl rfl ?_
  refine l_iconst (pc' := 593) (v := nI 4) hC dL_law_592 (by decide) rfl ?_
  refine l_iadd (pc' := 594) hC dL_law_593 rfl ?_
  refine l_sld (pc' := 595) hC (sc_in hi hC.L (by decide)) dL_law_594 rfl ?_
  refine l_bool (pc1 := 598) (pc2 := 599) (pc3 := 602) (pc4 := 603) hC dL_law_595 dL_law_598 dL_law_599 dL_law_602 rfl rfl rfl rfl ?_
  refine l_callX (pc' := 606) (n := 4) hC (c_X5_write κ.2.1 e1) ⟨v_175, v_176, v_177, v_87, v_178, ⟨⟨by decide, by decide⟩, by decide +kernel⟩⟩ rc_CP (by decide) rfl rfl rfl rfl dL_law_603 rfl ?_
  refine l_aload_n (pc' := 607) (i := 2) hC dL_law_606 rfl rfl rfl ?_
  refine l_aload_n (pc' := 608) (i := 0) hC dL_law_607 rfl rfl rfl ?_
  refine l_iload_n (pc' := 609) (i := 3) hC dL_law_608 rfl rfl rfl ?_
  refine l_iconst (pc' := 610) (v := nI 1) hC dL_law_609 (by decide) rfl ?_
  refine l_iadd (pc' := 611) hC dL_law_610 rfl ?_
  refine l_sld (pc' := 612) hC (sc_in hi hC.L (by decide)) dL_law_611 rfl ?_
  refine l_aload_n (pc' := 613) (i := 0) hC dL_law_612 rfl rfl rfl ?_
  refine l_iload_n (pc' := 614) (i := 3) hC dL_law_613 rfl rfl rfl ?_
  refine l_iconst (pc' := 615) (v := nI 2) hC dL_law_614 (by decide) rfl ?_
  refine l_iadd (pc' := 616) hC dL_law_615 rfl ?_
  refine l_sld (pc' := 617) hC (sc_in hi hC.L (by decide)) dL_law_616 rfl ?_
  refine l_aload_n (pc' := 618) (i := 0) hC dL_law_617 rfl rfl rfl ?_
  refine l_iload_n (pc' := 619) (i := 3) hC dL_law_618 rfl rfl rfl ?_
  refine l_iconst (pc' := 620) (v := nI 3) hC dL_law_619 (by decide) rfl ?_
  refine l_iadd (pc' := 621) hC dL_law_620 rfl ?_
  refine l_sld (pc' := 622) hC (sc_in hi hC.L (by decide)) dL_law_621 rfl ?_
  refine l_aload_n (pc' := 623) (i := 0) hC dL_law_622 rfl rfl rfl ?_
  refine l_iload_n (pc' := 624) (i := 3) hC dL_law_623 rfl rfl rfl ?_
  refine l_iconst (pc' := 625) (v := nI 4) hC dL_law_624 (by decide) rfl ?_
  refine l_iadd (pc' := 626) hC dL_law_625 rfl ?_
  refine l_sld (pc' := 627) hC (sc_in hi hC.L (by decide)) dL_law_626 rfl ?_
  refine l_bool (pc1 := 630) (pc2 := 631) (pc3 := 634) (pc4 := 635) hC dL_law_627 dL_law_630 dL_law_631 dL_law_634 rfl rfl rfl rfl ?_
  refine l_callM (pc' := 638) (n := 4) hC (c_X6_write κ.2.1 e2) ⟨v_179, v_180, v_181, v_92, v_182, ⟨⟨by decide, by decide⟩, by decide +kernel⟩⟩ rc_M (by decide) rfl rfl rfl rfl dL_law_635 rfl ?_
  refine l_same (tgt := 844) hC dL_law_638 (by decide) ?_
  exact h xk xo xc xt xn xl rc' rv' rb' la' wch' wcc' wpl' wun' srow ssp sen str stp swd rwp rdr rpd rpv rpc rzp mk mo mm' mt' mv' mx' mp mtd mf' ms' md' mdd' mn' mst' mpl' mbb' ma me mb mba mpg mdi mbl mby mw mz mso mbo mco mcd ml mr hc' (ht.oth h5 h6 h7) hf' hx

set_option maxHeartbeats 4000000 in
theorem lk_read {κ : GK} {Z : State → Prop} {EX EM : GE} {b L i : Nat} {xs : Nat → Int32} (hC : lC κ EX EM b L xs) (hi : i + 5 ≤ L) (h : LK κ Z EX EM 844 [some (.ref b), some (.ref (ea EX 35)), some (.ref (ea EM 0)), some (.int (nI i))]) : LK κ Z EX EM 643 [some (.ref b), some (.ref (ea EX 35)), some (.ref (ea EM 0)), some (.int (nI i))] := by
  intro xk xo xc xt xn xl rc rv rb la wch wcc wpl wun srow ssp sen str stp swd rwp rdr rpd rpv rpc rzp mk mo mm mt mv mx mp mtd mf ms md mdd mn mst mpl mbb ma me mb mba mpg mdi mbl mby mw mz mso mbo mco mcd ml mr hc ht hf hx
  obtain ⟨r, xk', xo', xc', xt', xn', xl', la', srow', ssp', sen', str', stp', swd', rwp', rdr', rpd', rpv', rpc', rzp', mm', mt', mv', mx', mn', ma', me', mb', mba', mpg', mdi', mbl', mby', mw', mz', mso', mbo', mco', mcd', ml', mr', e1, e2, hc', hx'⟩ := sim_read (la := la) (srow := srow) (ssp := ssp) (sen := sen) (swd := swd) (rdr := rdr) (rpd := rpd) (rpv := rpv) (rpc := rpc) (rzp := rzp) (mn := mn) (ma := ma) (me := me) (mbl := mbl) (mby := mby) (mw := mw) (mz := mz) (mso := mso) (mbo := mbo) (mco := mco) (mcd := mcd) (ml := ml) hc hf hx (xs (ix (nI i + nI 1)))
  refine l_aload_n (pc' := 644) (i := 1) hC dL_law_643 rfl rfl rfl ?_
  refine l_aload_n (pc' := 645) (i := 0) hC dL_law_644 rfl rfl rfl ?_
  refine l_iload_n (pc' := 646) (i := 3) hC dL_law_645 rfl rfl rfl ?_
  refine l_iconst (pc' := 647) (v := nI 1) hC dL_law_646 (by decide) rfl ?_
  refine l_iadd (pc' := 648) hC dL_law_647 rfl ?_
  refine l_sld (pc' := 649) hC (sc_in hi hC.L (by decide)) dL_law_648 rfl ?_
  refine l_callX (pc' := 652) (n := 1) hC (c_X5_read κ.2.1 e1) ⟨v_183, v_184, v_185, v_87, v_186, ⟨⟨by decide, by decide⟩, by decide +kernel⟩⟩ rc_CP (by decide) rfl rfl rfl rfl dL_law_649 rfl ?_
  refine l_aload_n (pc' := 653) (i := 2) hC dL_law_652 rfl rfl rfl ?_
  refine l_aload_n (pc' := 654) (i := 0) hC dL_law_653 rfl rfl rfl ?_
  refine l_iload_n (pc' := 655) (i := 3) hC dL_law_654 rfl rfl rfl ?_
  refine l_iconst (pc' := 656) (v := nI 1) hC dL_law_655 (by decide) rfl ?_
  refine l_iadd (pc' := 657) hC dL_law_656 rfl ?_
  refine l_sld (pc' := 658) hC (sc_in hi hC.L (by decide)) dL_law_657 rfl ?_
  refine l_callM (pc' := 661) (n := 1) hC (c_X6_read κ.2.1 e2) ⟨v_187, v_188, v_189, v_92, v_190, ⟨⟨by decide, by decide⟩, by decide +kernel⟩⟩ rc_M (by decide) rfl rfl rfl rfl dL_law_658 rfl ?_
  refine l_same (tgt := 844) hC dL_law_661 (by decide) ?_
  exact h xk' xo' xc' xt' xn' xl' rc rv rb la' wch wcc wpl wun srow' ssp' sen' str' stp' swd' rwp' rdr' rpd' rpv' rpc' rzp' mk mo mm' mt' mv' mx' mp mtd mf ms md mdd mn' mst mpl mbb ma' me' mb' mba' mpg' mdi' mbl' mby' mw' mz' mso' mbo' mco' mcd' ml' mr' hc' ht hf hx'

set_option maxHeartbeats 4000000 in
theorem lk_fault {κ : GK} {Z : State → Prop} {EX EM : GE} {b L i : Nat} {xs : Nat → Int32} (hC : lC κ EX EM b L xs) (hi : i + 5 ≤ L) (h : LK κ Z EX EM 844 [some (.ref b), some (.ref (ea EX 35)), some (.ref (ea EM 0)), some (.int (nI i))]) : LK κ Z EX EM 666 [some (.ref b), some (.ref (ea EX 35)), some (.ref (ea EM 0)), some (.int (nI i))] := by
  intro xk xo xc xt xn xl rc rv rb la wch wcc wpl wun srow ssp sen str stp swd rwp rdr rpd rpv rpc rzp mk mo mm mt mv mx mp mtd mf ms md mdd mn mst mpl mbb ma me mb mba mpg mdi mbl mby mw mz mso mbo mco mcd ml mr hc ht hf hx
  obtain ⟨r, e1, e2⟩ := sim_fault hx (xs (ix (nI i + nI 1)))
  refine l_aload_n (pc' := 667) (i := 1) hC dL_law_666 rfl rfl rfl ?_
  refine l_aload_n (pc' := 668) (i := 0) hC dL_law_667 rfl rfl rfl ?_
  refine l_iload_n (pc' := 669) (i := 3) hC dL_law_668 rfl rfl rfl ?_
  refine l_iconst (pc' := 670) (v := nI 1) hC dL_law_669 (by decide) rfl ?_
  refine l_iadd (pc' := 671) hC dL_law_670 rfl ?_
  refine l_sld (pc' := 672) hC (sc_in hi hC.L (by decide)) dL_law_671 rfl ?_
  refine l_callX (pc' := 675) (n := 1) hC (c_X5_fault κ.2.1 e1) ⟨v_191, v_192, v_193, v_87, v_194, ⟨⟨by decide, by decide⟩, by decide +kernel⟩⟩ rc_CP (by decide) rfl rfl rfl rfl dL_law_672 rfl ?_
  refine l_aload_n (pc' := 676) (i := 2) hC dL_law_675 rfl rfl rfl ?_
  refine l_aload_n (pc' := 677) (i := 0) hC dL_law_676 rfl rfl rfl ?_
  refine l_iload_n (pc' := 678) (i := 3) hC dL_law_677 rfl rfl rfl ?_
  refine l_iconst (pc' := 679) (v := nI 1) hC dL_law_678 (by decide) rfl ?_
  refine l_iadd (pc' := 680) hC dL_law_679 rfl ?_
  refine l_sld (pc' := 681) hC (sc_in hi hC.L (by decide)) dL_law_680 rfl ?_
  refine l_callM (pc' := 684) (n := 1) hC (c_X6_fault κ.2.1 e2) ⟨v_195, v_196, v_197, v_92, v_198, ⟨⟨by decide, by decide⟩, by decide +kernel⟩⟩ rc_M (by decide) rfl rfl rfl rfl dL_law_681 rfl ?_
  refine l_same (tgt := 844) hC dL_law_684 (by decide) ?_
  exact h xk xo xc xt xn xl rc rv rb la wch wcc wpl wun srow ssp sen str stp swd rwp rdr rpd rpv rpc rzp mk mo mm mt mv mx mp mtd mf ms md mdd mn mst mpl mbb ma me mb mba mpg mdi mbl mby mw mz mso mbo mco mcd ml mr hc ht hf hx

set_option maxHeartbeats 4000000 in
theorem lk_size {κ : GK} {Z : State → Prop} {EX EM : GE} {b L i : Nat} {xs : Nat → Int32} (hC : lC κ EX EM b L xs) (hi : i + 5 ≤ L) (h : LK κ Z EX EM 844 [some (.ref b), some (.ref (ea EX 35)), some (.ref (ea EM 0)), some (.int (nI i))]) : LK κ Z EX EM 689 [some (.ref b), some (.ref (ea EX 35)), some (.ref (ea EM 0)), some (.int (nI i))] := by
  intro xk xo xc xt xn xl rc rv rb la wch wcc wpl wun srow ssp sen str stp swd rwp rdr rpd rpv rpc rzp mk mo mm mt mv mx mp mtd mf ms md mdd mn mst mpl mbb ma me mb mba mpg mdi mbl mby mw mz mso mbo mco mcd ml mr hc ht hf hx
  obtain ⟨⟨l, hR, hS⟩, hV⟩ := id hf
  obtain ⟨r, e1, e2⟩ := sim_size hR hS
  refine l_aload_n (pc' := 690) (i := 1) hC dL_law_689 rfl rfl rfl ?_
  refine l_callX (pc' := 693) (n := 0) hC (c_X5_size κ.2.1 e1) ⟨v_199, v_200, v_201, v_87, v_202, ⟨⟨by decide, by decide⟩, by decide +kernel⟩⟩ rc_CP (by decide) rfl rfl rfl rfl dL_law_690 rfl ?_
  refine l_aload_n (pc' := 694) (i := 2) hC dL_law_693 rfl rfl rfl ?_
  refine l_callM (pc' := 697) (n := 0) hC (c_X6_size κ.2.1 e2) ⟨v_203, v_204, v_205, v_92, v_206, ⟨⟨by decide, by decide⟩, by decide +kernel⟩⟩ rc_M (by decide) rfl rfl rfl rfl dL_law_694 rfl ?_
  refine l_same (tgt := 844) hC dL_law_697 (by decide) ?_
  exact h xk xo xc xt xn xl rc rv rb la wch wcc wpl wun srow ssp sen str stp swd rwp rdr rpd rpv rpc rzp mk mo mm mt mv mx mp mtd mf ms md mdd mn mst mpl mbb ma me mb mba mpg mdi mbl mby mw mz mso mbo mco mcd ml mr hc ht hf hx

set_option maxHeartbeats 4000000 in
theorem lk_byteAt {κ : GK} {Z : State → Prop} {EX EM : GE} {b L i : Nat} {xs : Nat → Int32} (hC : lC κ EX EM b L xs) (hi : i + 5 ≤ L) (h : LK κ Z EX EM 844 [some (.ref b), some (.ref (ea EX 35)), some (.ref (ea EM 0)), some (.int (nI i))]) : LK κ Z EX EM 702 [some (.ref b), some (.ref (ea EX 35)), some (.ref (ea EM 0)), some (.int (nI i))] := by
  intro xk xo xc xt xn xl rc rv rb la wch wcc wpl wun srow ssp sen str stp swd rwp rdr rpd rpv rpc rzp mk mo mm mt mv mx mp mtd mf ms md mdd mn mst mpl mbb ma me mb mba mpg mdi mbl mby mw mz mso mbo mco mcd ml mr hc ht hf hx
  obtain ⟨⟨l, hR, hS⟩, hV⟩ := id hf
  obtain ⟨r, e1, e2⟩ := sim_byteAt hR hS (xs (ix (nI i + nI 1)))
  refine l_aload_n (pc' := 703) (i := 1) hC dL_law_702 rfl rfl rfl ?_
  refine l_aload_n (pc' := 704) (i := 0) hC dL_law_703 rfl rfl rfl ?_
  refine l_iload_n (pc' := 705) (i := 3) hC dL_law_704 rfl rfl rfl ?_
  refine l_iconst (pc' := 706) (v := nI 1) hC dL_law_705 (by decide) rfl ?_
  refine l_iadd (pc' := 707) hC dL_law_706 rfl ?_
  refine l_sld (pc' := 708) hC (sc_in hi hC.L (by decide)) dL_law_707 rfl ?_
  refine l_callX (pc' := 711) (n := 1) hC (c_X5_byteAt κ.2.1 e1) ⟨v_207, v_208, v_209, v_87, v_210, ⟨⟨by decide, by decide⟩, by decide +kernel⟩⟩ rc_CP (by decide) rfl rfl rfl rfl dL_law_708 rfl ?_
  refine l_aload_n (pc' := 712) (i := 2) hC dL_law_711 rfl rfl rfl ?_
  refine l_aload_n (pc' := 713) (i := 0) hC dL_law_712 rfl rfl rfl ?_
  refine l_iload_n (pc' := 714) (i := 3) hC dL_law_713 rfl rfl rfl ?_
  refine l_iconst (pc' := 715) (v := nI 1) hC dL_law_714 (by decide) rfl ?_
  refine l_iadd (pc' := 716) hC dL_law_715 rfl ?_
  refine l_sld (pc' := 717) hC (sc_in hi hC.L (by decide)) dL_law_716 rfl ?_
  refine l_callM (pc' := 720) (n := 1) hC (c_X6_byteAt κ.2.1 e2) ⟨v_211, v_212, v_213, v_92, v_214, ⟨⟨by decide, by decide⟩, by decide +kernel⟩⟩ rc_M (by decide) rfl rfl rfl rfl dL_law_717 rfl ?_
  refine l_same (tgt := 844) hC dL_law_720 (by decide) ?_
  exact h xk xo xc xt xn xl rc rv rb la wch wcc wpl wun srow ssp sen str stp swd rwp rdr rpd rpv rpc rzp mk mo mm mt mv mx mp mtd mf ms md mdd mn mst mpl mbb ma me mb mba mpg mdi mbl mby mw mz mso mbo mco mcd ml mr hc ht hf hx

set_option maxHeartbeats 4000000 in
theorem lk_poke {κ : GK} {Z : State → Prop} {EX EM : GE} {b L i : Nat} {xs : Nat → Int32} (hC : lC κ EX EM b L xs) (hi : i + 5 ≤ L) (h : LK κ Z EX EM 844 [some (.ref b), some (.ref (ea EX 35)), some (.ref (ea EM 0)), some (.int (nI i))]) : LK κ Z EX EM 725 [some (.ref b), some (.ref (ea EX 35)), some (.ref (ea EM 0)), some (.int (nI i))] := by
  intro xk xo xc xt xn xl rc rv rb la wch wcc wpl wun srow ssp sen str stp swd rwp rdr rpd rpv rpc rzp mk mo mm mt mv mx mp mtd mf ms md mdd mn mst mpl mbb ma me mb mba mpg mdi mbl mby mw mz mso mbo mco mcd ml mr hc ht hf hx
  obtain ⟨⟨l, hR, hS⟩, hV⟩ := id hf
  obtain ⟨r, rb', mf', l', e1, e2, hR', hS', h5⟩ := sim_poke hR hS (xs (ix (nI i + nI 1))) (xs (ix (nI i + nI 2)))
  refine l_aload_n (pc' := 726) (i := 1) hC dL_law_725 rfl rfl rfl ?_
  refine l_aload_n (pc' := 727) (i := 0) hC dL_law_726 rfl rfl rfl ?_
  refine l_iload_n (pc' := 728) (i := 3) hC dL_law_727 rfl rfl rfl ?_
  refine l_iconst (pc' := 729) (v := nI 1) hC dL_law_728 (by decide) rfl ?_
  refine l_iadd (pc' := 730) hC dL_law_729 rfl ?_
  refine l_sld (pc' := 731) hC (sc_in hi hC.L (by decide)) dL_law_730 rfl ?_
  refine l_aload_n (pc' := 732) (i := 0) hC dL_law_731 rfl rfl rfl ?_
  refine l_iload_n (pc' := 733) (i := 3) hC dL_law_732 rfl rfl rfl ?_
  refine l_iconst (pc' := 734) (v := nI 2) hC dL_law_733 (by decide) rfl ?_
  refine l_iadd (pc' := 735) hC dL_law_734 rfl ?_
  refine l_sld (pc' := 736) hC (sc_in hi hC.L (by decide)) dL_law_735 rfl ?_
  refine l_callX (pc' := 739) (n := 2) hC (c_X5_poke κ.2.1 e1) ⟨v_215, v_216, v_217, v_87, v_218, ⟨⟨by decide, by decide⟩, by decide +kernel⟩⟩ rc_CP (by decide) rfl rfl rfl rfl dL_law_736 rfl ?_
  refine l_aload_n (pc' := 740) (i := 2) hC dL_law_739 rfl rfl rfl ?_
  refine l_aload_n (pc' := 741) (i := 0) hC dL_law_740 rfl rfl rfl ?_
  refine l_iload_n (pc' := 742) (i := 3) hC dL_law_741 rfl rfl rfl ?_
  refine l_iconst (pc' := 743) (v := nI 1) hC dL_law_742 (by decide) rfl ?_
  refine l_iadd (pc' := 744) hC dL_law_743 rfl ?_
  refine l_sld (pc' := 745) hC (sc_in hi hC.L (by decide)) dL_law_744 rfl ?_
  refine l_aload_n (pc' := 746) (i := 0) hC dL_law_745 rfl rfl rfl ?_
  refine l_iload_n (pc' := 747) (i := 3) hC dL_law_746 rfl rfl rfl ?_
  refine l_iconst (pc' := 748) (v := nI 2) hC dL_law_747 (by decide) rfl ?_
  refine l_iadd (pc' := 749) hC dL_law_748 rfl ?_
  refine l_sld (pc' := 750) hC (sc_in hi hC.L (by decide)) dL_law_749 rfl ?_
  refine l_callM (pc' := 753) (n := 2) hC (c_X6_poke κ.2.1 e2) ⟨v_219, v_220, v_221, v_92, v_222, ⟨⟨by decide, by decide⟩, by decide +kernel⟩⟩ rc_M (by decide) rfl rfl rfl rfl dL_law_750 rfl ?_
  refine l_same (tgt := 844) hC dL_law_753 (by decide) ?_
  exact h xk xo xc xt xn xl rc rv rb' la wch wcc wpl wun srow ssp sen str stp swd rwp rdr rpd rpv rpc rzp mk mo mm mt mv mx mp mtd mf' ms md mdd mn mst mpl mbb ma me mb mba mpg mdi mbl mby mw mz mso mbo mco mcd ml mr hc (ht.oth rfl rfl (h5 0 (by decide))) ⟨⟨l', hR', hS'⟩, hV⟩ hx

set_option maxHeartbeats 4000000 in
theorem lk_cut {κ : GK} {Z : State → Prop} {EX EM : GE} {b L i : Nat} {xs : Nat → Int32} (hC : lC κ EX EM b L xs) (hi : i + 5 ≤ L) (h : LK κ Z EX EM 844 [some (.ref b), some (.ref (ea EX 35)), some (.ref (ea EM 0)), some (.int (nI i))]) : LK κ Z EX EM 758 [some (.ref b), some (.ref (ea EX 35)), some (.ref (ea EM 0)), some (.int (nI i))] := by
  intro xk xo xc xt xn xl rc rv rb la wch wcc wpl wun srow ssp sen str stp swd rwp rdr rpd rpv rpc rzp mk mo mm mt mv mx mp mtd mf ms md mdd mn mst mpl mbb ma me mb mba mpg mdi mbl mby mw mz mso mbo mco mcd ml mr hc ht hf hx
  obtain ⟨r, rc', ms', e1, e2, hf', h5⟩ := sim_cut hf (xs (ix (nI i + nI 1)))
  refine l_aload_n (pc' := 759) (i := 1) hC dL_law_758 rfl rfl rfl ?_
  refine l_aload_n (pc' := 760) (i := 0) hC dL_law_759 rfl rfl rfl ?_
  refine l_iload_n (pc' := 761) (i := 3) hC dL_law_760 rfl rfl rfl ?_
  refine l_iconst (pc' := 762) (v := nI 1) hC dL_law_761 (by decide) rfl ?_
  refine l_iadd (pc' := 763) hC dL_law_762 rfl ?_
  refine l_sld (pc' := 764) hC (sc_in hi hC.L (by decide)) dL_law_763 rfl ?_
  refine l_callX (pc' := 767) (n := 1) hC (c_X5_cut κ.2.1 e1) ⟨v_223, v_224, v_225, v_87, v_226, ⟨⟨by decide, by decide⟩, by decide +kernel⟩⟩ rc_CP (by decide) rfl rfl rfl rfl dL_law_764 rfl ?_
  refine l_aload_n (pc' := 768) (i := 2) hC dL_law_767 rfl rfl rfl ?_
  refine l_aload_n (pc' := 769) (i := 0) hC dL_law_768 rfl rfl rfl ?_
  refine l_iload_n (pc' := 770) (i := 3) hC dL_law_769 rfl rfl rfl ?_
  refine l_iconst (pc' := 771) (v := nI 1) hC dL_law_770 (by decide) rfl ?_
  refine l_iadd (pc' := 772) hC dL_law_771 rfl ?_
  refine l_sld (pc' := 773) hC (sc_in hi hC.L (by decide)) dL_law_772 rfl ?_
  refine l_callM (pc' := 776) (n := 1) hC (c_X6_cut κ.2.1 e2) ⟨v_227, v_228, v_229, v_92, v_230, ⟨⟨by decide, by decide⟩, by decide +kernel⟩⟩ rc_M (by decide) rfl rfl rfl rfl dL_law_773 rfl ?_
  refine l_same (tgt := 844) hC dL_law_776 (by decide) ?_
  exact h xk xo xc xt xn xl rc' rv rb la wch wcc wpl wun srow ssp sen str stp swd rwp rdr rpd rpv rpc rzp mk mo mm mt mv mx mp mtd mf ms' md mdd mn mst mpl mbb ma me mb mba mpg mdi mbl mby mw mz mso mbo mco mcd ml mr hc (ht.oth (h5 0 (by decide)) rfl rfl) hf' hx

set_option maxHeartbeats 4000000 in
theorem lk_put {κ : GK} {Z : State → Prop} {EX EM : GE} {b L i : Nat} {xs : Nat → Int32} (hC : lC κ EX EM b L xs) (hi : i + 5 ≤ L) (h : LK κ Z EX EM 844 [some (.ref b), some (.ref (ea EX 35)), some (.ref (ea EM 0)), some (.int (nI i))]) : LK κ Z EX EM 781 [some (.ref b), some (.ref (ea EX 35)), some (.ref (ea EM 0)), some (.int (nI i))] := by
  intro xk xo xc xt xn xl rc rv rb la wch wcc wpl wun srow ssp sen str stp swd rwp rdr rpd rpv rpc rzp mk mo mm mt mv mx mp mtd mf ms md mdd mn mst mpl mbb ma me mb mba mpg mdi mbl mby mw mz mso mbo mco mcd ml mr hc ht hf hx
  obtain ⟨r, rc', rv', rb', mf', ms', e1, e2, hf', h5⟩ := sim_put hf (lshl (i2l (xs (ix (nI i + nI 1)))) (32 : Int32) ||| (i2l (xs (ix (nI i + nI 2))) &&& (4294967295 : Int64))) (xs (ix (nI i + nI 3)))
  refine l_aload_n (pc' := 782) (i := 1) hC dL_law_781 rfl rfl rfl ?_
  refine l_aload_n (pc' := 783) (i := 0) hC dL_law_782 rfl rfl rfl ?_
  refine l_iload_n (pc' := 784) (i := 3) hC dL_law_783 rfl rfl rfl ?_
  refine l_iconst (pc' := 785) (v := nI 1) hC dL_law_784 (by decide) rfl ?_
  refine l_iadd (pc' := 786) hC dL_law_785 rfl ?_
  refine l_sld (pc' := 787) hC (sc_in hi hC.L (by decide)) dL_law_786 rfl ?_
  refine l_i2l (pc' := 788) hC dL_law_787 rfl ?_
  refine l_bipush (pc' := 790) (v := (32 : Int32)) hC dL_law_788 (by decide) rfl ?_
  refine l_lshl (pc' := 791) hC dL_law_790 rfl ?_
  refine l_aload_n (pc' := 792) (i := 0) hC dL_law_791 rfl rfl rfl ?_
  refine l_iload_n (pc' := 793) (i := 3) hC dL_law_792 rfl rfl rfl ?_
  refine l_iconst (pc' := 794) (v := nI 2) hC dL_law_793 (by decide) rfl ?_
  refine l_iadd (pc' := 795) hC dL_law_794 rfl ?_
  refine l_sld (pc' := 796) hC (sc_in hi hC.L (by decide)) dL_law_795 rfl ?_
  refine l_i2l (pc' := 797) hC dL_law_796 rfl ?_
  refine l_ldc2_w (pc' := 800) (v := 4294967295) hC v_94 dL_law_797 rfl ?_
  refine l_land (pc' := 801) hC dL_law_800 rfl ?_
  refine l_lor (pc' := 802) hC dL_law_801 rfl ?_
  refine l_aload_n (pc' := 803) (i := 0) hC dL_law_802 rfl rfl rfl ?_
  refine l_iload_n (pc' := 804) (i := 3) hC dL_law_803 rfl rfl rfl ?_
  refine l_iconst (pc' := 805) (v := nI 3) hC dL_law_804 (by decide) rfl ?_
  refine l_iadd (pc' := 806) hC dL_law_805 rfl ?_
  refine l_sld (pc' := 807) hC (sc_in hi hC.L (by decide)) dL_law_806 rfl ?_
  refine l_callX (pc' := 810) (n := 2) hC (c_X5_put κ.2.1 e1) ⟨v_231, v_232, v_233, v_87, v_234, ⟨⟨by decide, by decide⟩, by decide +kernel⟩⟩ rc_CP (by decide) rfl rfl rfl rfl dL_law_807 rfl ?_
  refine l_aload_n (pc' := 811) (i := 2) hC dL_law_810 rfl rfl rfl ?_
  refine l_aload_n (pc' := 812) (i := 0) hC dL_law_811 rfl rfl rfl ?_
  refine l_iload_n (pc' := 813) (i := 3) hC dL_law_812 rfl rfl rfl ?_
  refine l_iconst (pc' := 814) (v := nI 1) hC dL_law_813 (by decide) rfl ?_
  refine l_iadd (pc' := 815) hC dL_law_814 rfl ?_
  refine l_sld (pc' := 816) hC (sc_in hi hC.L (by decide)) dL_law_815 rfl ?_
  refine l_i2l (pc' := 817) hC dL_law_816 rfl ?_
  refine l_bipush (pc' := 819) (v := (32 : Int32)) hC dL_law_817 (by decide) rfl ?_
  refine l_lshl (pc' := 820) hC dL_law_819 rfl ?_
  refine l_aload_n (pc' := 821) (i := 0) hC dL_law_820 rfl rfl rfl ?_
  refine l_iload_n (pc' := 822) (i := 3) hC dL_law_821 rfl rfl rfl ?_
  refine l_iconst (pc' := 823) (v := nI 2) hC dL_law_822 (by decide) rfl ?_
  refine l_iadd (pc' := 824) hC dL_law_823 rfl ?_
  refine l_sld (pc' := 825) hC (sc_in hi hC.L (by decide)) dL_law_824 rfl ?_
  refine l_i2l (pc' := 826) hC dL_law_825 rfl ?_
  refine l_ldc2_w (pc' := 829) (v := 4294967295) hC v_94 dL_law_826 rfl ?_
  refine l_land (pc' := 830) hC dL_law_829 rfl ?_
  refine l_lor (pc' := 831) hC dL_law_830 rfl ?_
  refine l_aload_n (pc' := 832) (i := 0) hC dL_law_831 rfl rfl rfl ?_
  refine l_iload_n (pc' := 833) (i := 3) hC dL_law_832 rfl rfl rfl ?_
  refine l_iconst (pc' := 834) (v := nI 3) hC dL_law_833 (by decide) rfl ?_
  refine l_iadd (pc' := 835) hC dL_law_834 rfl ?_
  refine l_sld (pc' := 836) hC (sc_in hi hC.L (by decide)) dL_law_835 rfl ?_
  refine l_callM (pc' := 839) (n := 2) hC (c_X6_put κ.2.1 e2) ⟨v_235, v_236, v_237, v_92, v_238, ⟨⟨by decide, by decide⟩, by decide +kernel⟩⟩ rc_M (by decide) rfl rfl rfl rfl dL_law_836 rfl ?_
  refine l_same (tgt := 844) hC dL_law_839 (by decide) ?_
  exact h xk xo xc xt xn xl rc' rv' rb' la wch wcc wpl wun srow ssp sen str stp swd rwp rdr rpd rpv rpc rzp mk mo mm mt mv mx mp mtd mf' ms' md mdd mn mst mpl mbb ma me mb mba mpg mdi mbl mby mw mz mso mbo mco mcd ml mr hc (ht.fr h5) hf' hx
