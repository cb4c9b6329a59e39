/-! a page, head and body, on both sides -/
abbrev RX19 : Type := (Nat → Int32) × (Nat → Int32) × (Nat → Int32) × (Nat → Nat → Int32) × (Nat → Nat → Int64) × (Nat → Nat → Int32) × (Nat → Nat → Int64) × (Option Nat) × Int32 × Int32 × Int32 × Int32 × (Nat → Int32) × Int32 × Int32 × Int32 × Int32 × Int32 × Int32
abbrev K39 : Type := Int32 → (Nat → Int32) → (Nat → Nat → Int32) → (Nat → Nat → Int64) → (Nat → Nat → Int32) → (Nat → Nat → Int64) → Int32 → Int32 → Int32 → Int32 → (Nat → Int32) → Int32 → Int32 → Int32 → Int32 → Int32 → Int32 → Option RX19
def pgX (xk xo rc : Nat → Int32) (rb : Nat → Nat → Int32) (k39 : K39) (v4 : Int32) (xc : Nat → Int32) (xt : Nat → Nat → Int32) (xn : Nat → Nat → Int64) (xl : Nat → Nat → Int32) (la : Nat → Nat → Int64) (ssp sen str stp : Int32) (swd : Nat → Int32) (rwp rdr rpd rpv rpc rzp : Int32) : Option RX19 :=
        bd8 (p_X1_readHead xk xc rb (some 1) ssp sen str stp rwp rdr rpd rpv rpc rzp) <| fun ssp_19 sen_20 str_21 stp_22 rpd_23 rpv_24 rpc_25 rzp_26 =>
        bd1 (p_X4_isSound str_21) <| fun a_28 =>
        if a_28 = (nI 0) then
          p_X1_readPages_J95 1 v4 xk xo xc xt xn xl rc rb la (some 1) ssp_19 sen_20 str_21 stp_22 swd rwp rdr rpd_23 rpv_24 rpc_25 rzp_26 k39
        else
          if rpd_23 = (nI 0) then
            p_X1_readPages_J95 1 v4 xk xo xc xt xn xl rc rb la (some 1) ssp_19 sen_20 str_21 stp_22 swd rwp rdr rpd_23 rpv_24 rpc_25 rzp_26 k39
          else
            bd9 (p_X1_readDictionary xk xc xt xn xl rc rb la (some 1) ssp_19 sen_20 str_21 stp_22 rdr rpv_24) <| fun xc_48 xt_49 xn_50 xl_51 la_52 ssp_53 str_54 stp_55 rdr_56 =>
            p_X1_readPages_J109 1 v4 xc_48 xt_49 xn_50 xl_51 rc la_52 ssp_53 sen_20 str_54 stp_55 swd rwp rdr_56 rpd_23 rpv_24 rpc_25 rzp_26 k39
def PgS (K B : Nat) (g : Nat → AV) (rd : Nat) (mdi : Int32) (xc : Nat → Int32) (xt : Nat → Nat → Int32) (xn : Nat → Nat → Int64) (xl : Nat → Nat → Int32) (mm mt : Nat → Int32) (mv : Nat → Int64) (mx : Nat → Int32) : Prop := B ≤ 200 ∧ (∀ t, wfv K (g t)) ∧ xc 4 = nI B ∧ (∀ t, t < B → XV xt xn xl 4 t (g t)) ∧ mm 4 = nI B ∧ (∀ t, t < B → MV mt mv mx (200 * 4 + t) (g t)) ∧ DicS rd K mdi xc xt xn xl mt mv mx ∧ (rd = 0 → mm 5 = nI 0)
def F4X (xc : Nat → Int32) (xt : Nat → Nat → Int32) (xn : Nat → Nat → Int64) (xl : Nat → Nat → Int32) (xc' : Nat → Int32) (xt' : Nat → Nat → Int32) (xn' : Nat → Nat → Int64) (xl' : Nat → Nat → Int32) : Prop := ∀ d, d < 4 → xc' d = xc d ∧ xt' d = xt d ∧ xn' d = xn d ∧ xl' d = xl d
def F4M (mm mt : Nat → Int32) (mv : Nat → Int64) (mx : Nat → Int32) (mm' mt' : Nat → Int32) (mv' : Nat → Int64) (mx' : Nat → Int32) : Prop := (∀ d, d < 4 → mm' d = mm d) ∧ ∀ s a, s < 800 → MV mt mv mx s a → MV mt' mv' mx' s a
theorem F4X.rf {xc : Nat → Int32} {xt : Nat → Nat → Int32} {xn : Nat → Nat → Int64} {xl : Nat → Nat → Int32} : F4X xc xt xn xl xc xt xn xl := fun _ _ => ⟨rfl, rfl, rfl, rfl⟩
theorem F4M.rf {mm mt : Nat → Int32} {mv : Nat → Int64} {mx : Nat → Int32} : F4M mm mt mv mx mm mt mv mx := ⟨fun _ _ => rfl, fun _ _ _ h => h⟩
theorem F4X.tr {xc xc1 xc2 : Nat → Int32} {xt xt1 xt2 : Nat → Nat → Int32} {xn xn1 xn2 : Nat → Nat → Int64} {xl xl1 xl2 : Nat → Nat → Int32} (h1 : F4X xc xt xn xl xc1 xt1 xn1 xl1) (h2 : F4X xc1 xt1 xn1 xl1 xc2 xt2 xn2 xl2) : F4X xc xt xn xl xc2 xt2 xn2 xl2 := fun d hd => ⟨(h2 d hd).1.trans (h1 d hd).1, (h2 d hd).2.1.trans (h1 d hd).2.1, (h2 d hd).2.2.1.trans (h1 d hd).2.2.1, (h2 d hd).2.2.2.trans (h1 d hd).2.2.2⟩
theorem F4M.tr {mm mm1 mm2 mt mt1 mt2 : Nat → Int32} {mv mv1 mv2 : Nat → Int64} {mx mx1 mx2 : Nat → Int32} (h1 : F4M mm mt mv mx mm1 mt1 mv1 mx1) (h2 : F4M mm1 mt1 mv1 mx1 mm2 mt2 mv2 mx2) : F4M mm mt mv mx mm2 mt2 mv2 mx2 := ⟨fun d hd => (h2.1 d hd).trans (h1.1 d hd), fun s a hs h => h2.2 s a hs (h1.2 s a hs h)⟩
theorem FrX.f4 {c : Nat} {xc xc1 : Nat → Int32} {xt xt1 : Nat → Nat → Int32} {xn xn1 : Nat → Nat → Int64} {xl xl1 : Nat → Nat → Int32} (h : FrX c xc xt xn xl xc1 xt1 xn1 xl1) (hc : 4 ≤ c) : F4X xc xt xn xl xc1 xt1 xn1 xl1 := fun d hd => h d (by omega)
theorem FrT.f4 {mm mm1 mt mt1 : Nat → Int32} {mv mv1 : Nat → Int64} {mx mx1 : Nat → Int32} (h : FrT mm mt mv mx mm1 mt1 mv1 mx1) : F4M mm mt mv mx mm1 mt1 mv1 mx1 := ⟨fun d hd => h.1 d (by omega) (by omega), fun s a hs hv => h.2 s a (by omega) hv⟩
theorem FrN.f4 {c : Nat} {mm mm1 mt mt1 : Nat → Int32} {mv mv1 : Nat → Int64} {mx mx1 : Nat → Int32} (h : FrN c mm mt mv mx mm1 mt1 mv1 mx1) (hc : 4 ≤ c) : F4M mm mt mv mx mm1 mt1 mv1 mx1 := ⟨fun d hd => h.1 d (by omega), fun s a hs hv => h.2 s a (by omega) hv⟩
def dicN (mdi : Int32) : Int32 := if mdi < nI 0 then nI 0 else mdi
theorem DicS.x5 {rd K : Nat} {mdi : Int32} {xc : Nat → Int32} {xt : Nat → Nat → Int32} {xn : Nat → Nat → Int64} {xl : Nat → Nat → Int32} {mt : Nat → Int32} {mv : Nat → Int64} {mx : Nat → Int32} (h : DicS rd K mdi xc xt xn xl mt mv mx) : xc 5 = dicN mdi := by
  unfold dicN
  rcases h with ⟨_, h1, h2⟩ | ⟨_, D, h1, _, h2, _, h3⟩
  · rw [h1, h2, if_pos (by decide)]
  · rw [h2.1, h3, if_neg (by rw [ltI (by omega) (by omega)]; omega)]
theorem DicS.lt {rd K : Nat} {mdi : Int32} {xc : Nat → Int32} {xt : Nat → Nat → Int32} {xn : Nat → Nat → Int64} {xl : Nat → Nat → Int32} {mt : Nat → Int32} {mv : Nat → Int64} {mx : Nat → Int32} (h : DicS rd K mdi xc xt xn xl mt mv mx) : (mdi < nI 0 ↔ rd = 0) ∧ rd ≤ 1 := by
  rcases h with ⟨h0, h1, h2⟩ | ⟨h0, D, h1, _, h2, _, h3⟩
  · rw [h2, h0]
    exact ⟨⟨fun _ => rfl, fun _ => by decide⟩, by omega⟩
  · rw [h3, h0, ltI (by omega) (by omega)]
    exact ⟨⟨fun h => by omega, fun h => by omega⟩, by omega⟩
theorem DicS.fr {rd K : Nat} {mdi : Int32} {xc xc' : Nat → Int32} {xt xt' : Nat → Nat → Int32} {xn xn' : Nat → Nat → Int64} {xl xl' : Nat → Nat → Int32} {mm mm' mt mt' : Nat → Int32} {mv mv' : Nat → Int64} {mx mx' : Nat → Int32} (h : DicS rd K mdi xc xt xn xl mt mv mx) (f : FrX 4 xc xt xn xl xc' xt' xn' xl') (f2 : FrT mm mt mv mx mm' mt' mv' mx') : DicS rd K mdi xc' xt' xn' xl' mt' mv' mx' := by
  rcases h with ⟨h0, h1, h2⟩ | ⟨h0, D, h1, hw, h2, h4, h3⟩
  · exact Or.inl ⟨h0, (f 5 (by omega)).1.trans h1, h2⟩
  · exact Or.inr ⟨h0, D, h1, hw, h2.fr f, fun j hj => f2.2 _ _ (by omega) (h4 j hj), h3⟩
theorem d_J109 {v4 : Int32} {xc rc : Nat → Int32} {xt : Nat → Nat → Int32} {xn : Nat → Nat → Int64} {xl : Nat → Nat → Int32} {la : Nat → Nat → Int64} {ssp sen d q : Int32} {swd : Nat → Int32} {rwp rdr rpd rpv rpc rzp : Int32} {kx : K39} (hd : d ≠ nI 0) : p_X1_readPages_J109 1 v4 xc xt xn xl rc la ssp sen d q swd rwp rdr rpd rpv rpc rzp kx = kx (v4 + nI 1) xc xt xn xl la ssp (rc 1) d q swd (rwp + nI 0) rdr rpd rpv rpc rzp := by
  rw [p_X1_readPages_J109, d_nothing hd, bdS2, d_sound hd, bdS1, if_pos rfl, p_X1_readPages_J136]
theorem d_J95 {v4 : Int32} {xk xo xc rc : Nat → Int32} {xt : Nat → Nat → Int32} {xn : Nat → Nat → Int64} {xl : Nat → Nat → Int32} {rb : Nat → Nat → Int32} {la : Nat → Nat → Int64} {ssp sen d q : Int32} {swd : Nat → Int32} {rwp rdr rpd rpv rpc rzp : Int32} {kx : K39} (hd : d ≠ nI 0) : p_X1_readPages_J95 1 v4 xk xo xc xt xn xl rc rb la (some 1) ssp sen d q swd rwp rdr rpd rpv rpc rzp kx = kx (v4 + nI 1) xc xt xn xl la ssp (rc 1) d q swd (rwp + nI 0) rdr rpd rpv rpc rzp := by
  rw [p_X1_readPages_J95, d_sound hd, bdS1, if_pos rfl, d_J109 hd]
theorem l_J109 {p e : Nat} {v4 : Int32} {xc rc : Nat → Int32} {xt : Nat → Nat → Int32} {xn : Nat → Nat → Int64} {xl : Nat → Nat → Int32} {la : Nat → Nat → Int64} {swd : Nat → Int32} {rwp rdr rpd rpv rpc rzp : Int32} {kx : K39} (he : e ≤ 12000) (hp : p ≤ e) : p_X1_readPages_J109 1 v4 xc xt xn xl rc la (nI p) (nI e) (nI 0) (nI 0) swd rwp rdr rpd rpv rpc rzp kx = if p = e then kx (v4 + nI 1) xc xt xn xl la (nI p) (rc 1) (nI 0) (nI 0) swd (rwp + nI 1) rdr rpd rpv rpc rzp else kx (v4 + nI 1) xc xt xn xl la (nI p) (rc 1) (nI 13) (nI p) swd (rwp + nI 0) rdr rpd rpv rpc rzp := by
  have n1 : ¬ nI 1 = nI 0 := by decide
  have es : p_X4_isSound (nI 0) = some (nI 1) := rfl
  rw [p_X1_readPages_J109]
  unfold p_X4_demandNothingLeft
  by_cases h : p = e
  · rw [if_neg (show ¬ nI p < nI e by rw [ltI (by omega) (by omega)]; omega), demT, bdS2, bdS2, es, bdS1, if_neg n1, p_X1_readPages_J136, if_pos h]
  · rw [if_pos (show nI p < nI e by rw [ltI (by omega) (by omega)]; omega), demF, bdS2, bdS2, d_sound (by decide), bdS1, if_pos rfl, p_X1_readPages_J136, if_neg h]
def POut (K S p pg : Nat) (i : Nat) (kx : K39) (xc : Nat → Int32) (xt : Nat → Nat → Int32) (xn : Nat → Nat → Int64) (xl : Nat → Nat → Int32) (mm mt : Nat → Int32) (mv : Nat → Int64) (mx : Nat → Int32) (x : Option RX19) (m : Option PG) : Prop :=
  (∃ (B : Nat) (g : Nat → AV) (rd p' : Nat) (mdi : Int32) (xc' : Nat → Int32) (xt' : Nat → Nat → Int32) (xn' : Nat → Nat → Int64) (xl' : Nat → Nat → Int32) (la' : Nat → Nat → Int64) (swd' : Nat → Int32) (rpd' rpv' rpc' rzp' : Int32) (mm' mt' : Nat → Int32) (mv' : Nat → Int64) (mx' : Nat → Int32), p < p' ∧ p' ≤ S ∧ PgS K B g rd mdi xc' xt' xn' xl' mm' mt' mv' mx' ∧ F4X xc xt xn xl xc' xt' xn' xl' ∧ F4M mm mt mv mx mm' mt' mv' mx' ∧ x = kx (nI (i + 1)) xc' xt' xn' xl' la' (nI p') (nI S) (nI 0) (nI 0) swd' (nI (pg + 1)) (nI rd) rpd' rpv' rpc' rzp' ∧ PGm (nI 1) mm' mt' mv' mx' (nI p') (nI 0) (nI 0) (nI (pg + 1)) mdi m) ∨
  (∃ (mdi : Int32) (xc' : Nat → Int32) (xt' : Nat → Nat → Int32) (xn' : Nat → Nat → Int64) (xl' : Nat → Nat → Int32) (la' : Nat → Nat → Int64) (sx : Int32) (swd' : Nat → Int32) (rdr' rpd' rpv' rpc' rzp' : Int32) (mm' mt' : Nat → Int32) (mv' : Nat → Int64) (mx' : Nat → Int32) (ma' d q : Int32), d ≠ nI 0 ∧ xc' 5 = dicN mdi ∧ F4X xc xt xn xl xc' xt' xn' xl' ∧ F4M mm mt mv mx mm' mt' mv' mx' ∧ x = kx (nI (i + 1)) xc' xt' xn' xl' la' sx (nI S) d q swd' (nI pg) rdr' rpd' rpv' rpc' rzp' ∧ PGm (nI 0) mm' mt' mv' mx' ma' d q (nI pg) mdi m)
theorem P_page {K O B S p pg rd i : Nat} {g : Nat → AV} {kx : K39} {xk xo xc rc : Nat → Int32} {xt : Nat → Nat → Int32} {xn : Nat → Nat → Int64} {xl : Nat → Nat → Int32} {rb : Nat → Nat → Int32} {la : Nat → Nat → Int64} {swd : Nat → Int32} {rpd rpv rpc rzp : Int32} {mf mm mt : Nat → Int32} {mv : Nat → Int64} {mx : Nat → Int32} {mn : Nat → Int64} {me mdi mbl mby mz mso mbo mco mcd : Int32} {mw ml : Nat → Int32} (hs : Src rb mf S) (hS : rc 1 = nI S) (hp : p ≤ S) (hpg : pg ≤ p) (hpp : pg = 0 ↔ p = 0) (hprd : pg = 0 → rd = 0) (hK4 : xk 4 = nI K) (hK5 : xk 5 = nI K) (hK3 : K ≤ 3) (hO : xo 4 = nI O) (hO1 : O ≤ 1) (hst : PgS K B g rd mdi xc xt xn xl mm mt mv mx) :
    POut K S p pg i kx xc xt xn xl mm mt mv mx (pgX xk xo rc rb kx (nI i) xc xt xn xl la (nI p) (nI S) (nI 0) (nI 0) swd (nI pg) (nI rd) rpd rpv rpc rzp) (p_X6_readPage (nI K) (nI O) mm mt mv mx mf (nI S) mn (nI p) me (nI 0) (nI 0) (nI pg) mdi mbl mby mw mz mso mbo mco mcd ml) := by
  have n1 : ¬ nI 1 = nI 0 := by decide
  have es : p_X4_isSound (nI 0) = some (nI 1) := rfl
  have g0 : isB (nI 0) = true := by decide
  have he := hs.1
  obtain ⟨hB, hgw, hx4, hXg, hm4, hMg, hdic, hm5⟩ := hst
  obtain ⟨hdlt, hrd⟩ := hdic.lt
  unfold pgX p_X6_readPage
  rcases L_head (me := me) (mz := mz) (mso := mso) (mbo := mbo) (mco := mco) (mcd := mcd) (rpd := rpd) (rpv := rpv) (rpc := rpc) (rzp := rzp) hs hp hpg hpp hK4 hK3 hx4 hm4 hB hrd hdlt with ⟨p1, bd, N, cd, dat, z, zm, so, a1, a2, a3, a4, a5, a6, ex, em⟩ | ⟨p1, bd, zm, so, co, cd, a1, a2, a3, ⟨sx, z, ex⟩, em⟩ | ⟨d, q, sm, me2, zm, so, bo, co, cd, hd, ⟨sx, z, ex⟩, em⟩
  · have hs2 : Src rb mf (p1 + bd) := ⟨by omega, fun k hk => hs.2 k (by omega)⟩
    rw [ex, em, bdS8, es, bdS1, if_neg n1, bdS10, if_neg n1, addI, if_neg (show ¬ nI S < nI (p1 + bd) by rw [ltI (by omega) (by omega)]; omega)]
    rcases a5 with ⟨rfl, rfl, hNB, hg⟩ | ⟨rfl, rfl, rfl⟩
    · rw [if_pos (show nI (1 - 1) = nI 0 from rfl), if_neg (show ¬ nI 0 = nI 2 by decide), p_X1_readPages_J95, es, bdS1, if_neg n1]
      have hD := P_data (p := p1) (pre := g) (la := la) (swd := swd) (mn := mn) (mpg := nI pg) (mbl := mbl) (mby := mby) (mz := zm) (mso := nI 0) (mbo := nI bd) (mw := mw) (ml := ml) (N := N) hs2 hS (by omega) he (by omega) hK4 hK3 hO hO1 (by omega) hx4 hgw hXg hm4 hMg a4 hg hdic
      have hD' : DOut B K N p1 (p1 + bd) (nI pg) mdi xc xt xn xl mm mt mv mx (p_X1_readData xk xo xc xt xn xl rc rb la (some 1) (nI p1) (nI (p1 + bd)) (nI 0) (nI 0) swd (nI N) (nI cd)) (itr2 (p_X6_readPage_L127 (nI N) (fun ml_38 => pgD (nI K) (nI O) (nI (p1 + bd)) (nI N) mm mt mv mx mf mn (nI p1) (nI 0) (nI 0) (nI pg) mdi mbl mby mw zm (nI 0) (nI bd) (nI cd) ml_38)) fu (nI 0) ml) := hD
      rcases hD' with ⟨g2, p2, xc2, xt2, xn2, xl2, la2, swd2, b1, b2, b3, b4, b5, b6, b7, b8⟩ | ⟨xc2, xt2, xn2, xl2, la2, sx, sn, swd2, mm2, mt2, mv2, mx2, ma2, d, q, hd, b6, b7, b8, b9⟩
      · rw [b7, bdS10, l_J109 (by omega) b2, hS]
        rcases b8 with ⟨rfl, mm2, mt2, mv2, mx2, c1, c2, c3, c4⟩ | ⟨hlt, mm2, mt2, mv2, mx2, ma2, c3, c4⟩
        · left
          rw [if_pos rfl, addI, addI]
          refine ⟨B + N, g2, rd, p1 + bd, mdi, xc2, xt2, xn2, xl2, la2, swd2, _, _, _, _, mm2, mt2, mv2, mx2, by omega, a2, ⟨by omega, b3, b4, b5, c1, c2, hdic.fr b6 c3, fun h => (c3.1 5 (by omega) (by omega)).trans (hm5 h)⟩, b6.f4 (by omega), c3.f4, rfl, ?_⟩
          rw [addI] at c4
          exact c4
        · right
          rw [if_neg (by omega), addI, addI, Nat.add_zero]
          exact ⟨mdi, xc2, xt2, xn2, xl2, la2, nI p2, swd2, _, _, _, _, _, mm2, mt2, mv2, mx2, ma2, nI 13, nI p2, by decide, ((b6 5 (by omega)).1).trans hdic.x5, b6.f4 (by omega), c3.f4, rfl, c4⟩
      · right
        rw [b8, bdS10, d_J109 hd, hS, addI, addI, Nat.add_zero]
        exact ⟨mdi, xc2, xt2, xn2, xl2, la2, sx, swd2, _, _, _, _, _, mm2, mt2, mv2, mx2, ma2, d, q, hd, ((b6 5 (by omega)).1).trans hdic.x5, b6.f4 (by omega), b7.f4, rfl, b9⟩
    · obtain ⟨hk3, hp0⟩ := a6 rfl
      have hrd0 : rd = 0 := hprd (hpp.mpr hp0)
      obtain ⟨hx5, hmdi⟩ : xc 5 = nI 0 ∧ mdi = (-1 : Int32) := by
        rcases hdic with ⟨_, h1, h2⟩ | ⟨h, _⟩
        · exact ⟨h1, h2⟩
        · omega
      rw [if_neg (show ¬ nI (1 - 0) = nI 0 from n1), if_pos (show nI 2 = nI 2 from rfl)]
      unfold p_X1_readDictionary p_X1_readPlain
      rw [if_neg (show ¬ xk 5 = nI 3 by rw [hK5, eqI (by omega) (by omega)]; exact hk3)]
      have hr : RS (fun _ => none) 5 0 5 K [] xc xt xn xl mm mt mv mx := ⟨hx5, hm5 hrd0, fun j hj => absurd hj (by simp), fun j hj => absurd hj (by simp), fun t ht => by simp at ht, fun j => by simp [le], fun j hj => by omega⟩
      rcases L_dict_L (la := la) (mn := mn) (mpg := nI pg) (mdi := mdi) (mbl := mbl) (mby := mby) (mw := mw) (mz := zm) (mso := nI 2) (mbo := nI bd) (mcd := nI 0) (ml := ml) (N := N) (kx := fun mm_26 mt_27 mv_28 mx_29 ma_30 mb_31 mba_32 => bd3 (p_X6_isOver (nI (p1 + bd)) ma_30 mb_31 mba_32) fun a_33 mb_34 mba_35 => if a_33 = nI 0 then some (nI 0, mm_26, mt_27, mv_28, mx_29, mn, ma_30, nI (p1 + bd), mb_34, mba_35, nI pg, nI N, mbl, mby, mw, zm, nI 2, nI bd, nI N, nI 0, ml) else some (nI 1, mm_26, mt_27, mv_28, mx_29, mn, ma_30, nI (p1 + bd), mb_34, mba_35, nI pg + nI 1, nI N, mbl, mby, mw, zm, nI 2, nI bd, nI N, nI 0, ml)) hs2 hS (show p1 + bd ≤ S by omega) he hK5 (by omega) a3 N fu p1 [] xc xt xn xl mm mt mv mx (by simp) (by simp) (by rw [fu_eq]; omega) (by omega) hr with ⟨ts, p2, xc2, xt2, xn2, xl2, mm2, mt2, mv2, mx2, r1, r2, r3, r4, r5, r6, r7, r8⟩ | ⟨xc2, xt2, xn2, xl2, sx, mm2, mt2, mv2, mx2, sm, d, q, hd, r5, r6, r7, r8⟩
      · have r7' : itr8 (p_X1_readPlain_L37 5 (nI N) xk rc rb la (some 1) (nI (p1 + bd))) fu (nI 0) xc xt xn xl (nI p1) (nI 0) (nI 0) = _ := r7
        have r8' := r8
        rw [show ([] : List TV).length = 0 from rfl] at r8'
        rw [r7', bdS8, es, bdS1, if_neg n1, bdS9, l_J109 (by omega) r3, hS, r8']
        obtain ⟨w1, w2, w3, w4, w5, w6, w7⟩ := r4
        rw [Nat.zero_add, r1] at w1
        rw [r1] at w2
        have hDX : DicX ts xc2 xt2 xn2 xl2 := ⟨by rw [w1, r1], fun j hj => by
          have := w3 j hj
          rw [Nat.zero_add] at this
          exact this⟩
        have hMD : MDic mt2 mv2 mx2 ts := fun j hj => w4 j hj
        have hX4 : ∀ t, t < B → XV xt2 xn2 xl2 4 t (g t) := by
          intro t ht
          obtain ⟨f1, f2, f3, f4⟩ := r5 4 (by omega)
          obtain ⟨c1, c2, c3⟩ := hXg t ht
          exact ⟨by rw [f2]; exact c1, by rw [f3]; exact c2, fun k hk => by rw [f4]; exact c3 k hk⟩
        unfold p_X6_isOver
        by_cases hend : p2 = p1 + bd
        · left
          rw [if_pos hend, if_pos (show nI p2 = nI (p1 + bd) by rw [hend]), bdS3, if_neg n1, addI, addI]
          exact ⟨B, g, 1, p2, nI N, xc2, xt2, xn2, xl2, la, swd, _, _, _, _, mm2, mt2, mv2, mx2, by omega, by omega, ⟨hB, hgw, (r5 4 (by omega)).1.trans hx4, hX4, (r6.1 4 (by omega)).trans hm4, fun t ht => r6.2 _ _ (by omega) (hMg t ht), Or.inr ⟨rfl, ts, by omega, w5, hDX, hMD, by rw [r1]⟩, fun h => by omega⟩, r5.f4 (by omega), r6.f4 (by omega), rfl, _, _, _, _, _, _, _, _, _, _, _, rfl⟩
        · right
          rw [if_neg hend, if_neg (show ¬ nI p2 = nI (p1 + bd) by rw [eqI (by omega) (by omega)]; exact hend), p_X6_fails, bdS3, if_pos rfl, bdS3, if_pos rfl, addI, addI, Nat.add_zero]
          refine ⟨nI N, xc2, xt2, xn2, xl2, la, nI p2, swd, _, _, _, _, _, mm2, mt2, mv2, mx2, _, nI 13, nI p2, by decide, ?_, r5.f4 (by omega), r6.f4 (by omega), rfl, _, _, _, _, _, _, _, _, _, _, _, rfl⟩
          rw [w1]
          unfold dicN
          rw [if_neg (by rw [ltI (by omega) (by omega)]; omega)]
      · right
        have r7' : itr8 (p_X1_readPlain_L37 5 (nI N) xk rc rb la (some 1) (nI (p1 + bd))) fu (nI 0) xc xt xn xl (nI p1) (nI 0) (nI 0) = _ := r7
        have r8' := r8
        rw [show ([] : List TV).length = 0 from rfl] at r8'
        rw [r7', bdS8, d_sound hd, bdS1, if_pos rfl, bdS9, d_J109 hd, hS, r8', addI, addI, Nat.add_zero]
        refine ⟨mdi, up xc2 5 (nI 0), xt2, xn2, xl2, la, sx, swd, _, _, _, _, _, mm2, mt2, mv2, mx2, _, d, q, hd, ?_, fun c hc => ⟨(up_n (by omega)).trans (r5 c (by omega)).1, (r5 c (by omega)).2⟩, r6.f4 (by omega), rfl, _, _, _, _, _, _, _, _, _, _, _, rfl⟩
        rw [up_s, hmdi]
        rfl
  · right
    rw [ex, em, bdS8, d_sound (by decide), bdS1, if_pos rfl, d_J95 (by decide), bdS10, if_neg n1, addI, addI, addI, if_pos (show nI S < nI (p1 + bd) by rw [ltI (by omega) (by omega)]; omega), p_X6_fails, bdS3, gdT g0, hS]
    exact ⟨mdi, xc, xt, xn, xl, la, sx, swd, _, _, _, _, _, mm, mt, mv, mx, _, nI 1, nI S, by decide, hdic.x5, F4X.rf, F4M.rf, rfl, _, _, _, _, _, _, _, _, _, _, _, rfl⟩
  · right
    rw [ex, em, bdS8, d_sound hd, bdS1, if_pos rfl, d_J95 hd, bdS10, if_pos rfl, addI, addI, hS]
    exact ⟨mdi, xc, xt, xn, xl, la, sx, swd, _, _, _, _, _, mm, mt, mv, mx, _, d, q, hd, hdic.x5, F4X.rf, F4M.rf, rfl, _, _, _, _, _, _, _, _, _, _, _, rfl⟩
