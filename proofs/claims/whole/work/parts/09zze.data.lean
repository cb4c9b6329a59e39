/-! a data page -/
def DicS (rd K : Nat) (mdi : Int32) (xc : Nat → Int32) (xt : Nat → Nat → Int32) (xn : Nat → Nat → Int64) (xl : Nat → Nat → Int32) (mt : Nat → Int32) (mv : Nat → Int64) (mx : Nat → Int32) : Prop := (rd = 0 ∧ xc 5 = nI 0 ∧ mdi = (-1 : Int32)) ∨ (rd = 1 ∧ ∃ D : List TV, D.length ≤ 200 ∧ (∀ t ∈ D, TVok K t) ∧ DicX D xc xt xn xl ∧ MDic mt mv mx D ∧ mdi = nI D.length)
theorem VOut.mm {pre : Nat → AV} {B K N p e : Nat} {xk xo : Nat → Int32} {rpv : Int32} {la : Nat → Nat → Int64} {xc : Nat → Int32} {xt : Nat → Nat → Int32} {xn : Nat → Nat → Int64} {xl : Nat → Nat → Int32} {mm mt : Nat → Int32} {mv : Nat → Int64} {mx : Nat → Int32} {x : Option VX} {m : Option VM} (h : VOut pre B K N p e xk xo rpv la xc xt xn xl (up mm 6 (nI 0)) mt mv mx x m) : VOut pre B K N p e xk xo rpv la xc xt xn xl mm mt mv mx x m := by
  have f : FrN 6 mm mt mv mx (up mm 6 (nI 0)) mt mv mx := ⟨fun d hd => up_n hd, fun s a _ h => h⟩
  rcases h with ⟨ts, p', xc', xt', xn', xl', la', swd', mm', mt', mv', mx', mn', c, b, mw', h1, h2, h3, h4, h5, h6, h7, h8, h9⟩ | ⟨xc', xt', xn', xl', la', sx, sn, swd', mm', mt', mv', mx', mn', sm, me, d, q, c, b, mw', h1, h2, h3, h4, h5⟩
  · exact Or.inl ⟨ts, p', xc', xt', xn', xl', la', swd', mm', mt', mv', mx', mn', c, b, mw', h1, h2, h3, h4, h5, f.tr h6, h7, h8, h9⟩
  · exact Or.inr ⟨xc', xt', xn', xl', la', sx, sn, swd', mm', mt', mv', mx', mn', sm, me, d, q, c, b, mw', h1, h2, f.tr h3, h4, h5⟩
section DATA
variable {pre : Nat → AV} {B K N p e S rd cd : Nat} {xk xo xc rc : Nat → Int32} {xt : Nat → Nat → Int32} {xn : Nat → Nat → Int64} {xl : Nat → Nat → Int32} {rb : Nat → Nat → Int32} {la : Nat → Nat → Int64} {swd : Nat → Int32} {rpv : Int32} {mf mm mt : Nat → Int32} {mv : Nat → Int64} {mx : Nat → Int32} {mn : Nat → Int64} {mbl mby mdi : Int32} {mw : Nat → Int32}
theorem V_all (hs : Src rb mf e) (hS : rc 1 = nI S) (heS : e ≤ S) (hS2 : S ≤ 12000) (hp : p ≤ e) (hK : xk 4 = nI K) (hK3 : K ≤ 3) (hN : B + N ≤ 200) (hcd : cd ≤ 8) (hg : gcn K rd (lN cd) = 1) (hdic : DicS rd K mdi xc xt xn xl mt mv mx) (hr : RS pre 4 B 6 K [] xc xt xn xl (up mm 6 (nI 0)) mt mv mx) :
    VOut pre B K N p e xk xo rpv la xc xt xn xl mm mt mv mx (p_X1_readData_J44 (nI B) (nI N) xk xo xc xt xn xl rc rb la (some 1) (nI p) (nI e) (nI 0) (nI 0) swd rpv (nI cd)) (p_X6_readValues (nI K) (nI N) mm mt mv mx mf mn (nI p) (nI e) (nI 0) (nI 0) mdi mbl mby mw (nI cd)) := by
  apply VOut.mm
  unfold p_X6_readValues
  rw [p_X1_readData_J44, gdT (by decide), show ix (nI 6) = 6 from rfl]
  have ne : ∀ i : Nat, i ≤ 8 → cd ≠ i → ¬ nI cd = nI i := fun i hi h => by rw [eqI (by omega) (by omega)]; exact h
  have neL : ∀ i : Nat, i ≤ 8 → cd ≠ i → ¬ lN cd = lN i := fun i hi h => by rw [eqL (by omega) (by omega)]; exact h
  by_cases c0 : cd = 0
  · subst c0
    rw [if_pos rfl, if_pos rfl]
    by_cases k3 : K = 3
    · subst k3
      rw [if_pos rfl]
      exact V_truth hs hp hK hN hr
    · rw [if_neg (show ¬ nI K = nI 3 by rw [eqI (by omega) (by omega)]; exact k3), p_X6_readValues_J71, if_pos rfl]
      exact V_plain hs hS heS hS2 hp hK (by omega) hN hr
  · rw [if_neg (ne 0 (by omega) c0), if_neg (ne 0 (by omega) c0), p_X6_readValues_J71, if_neg (ne 0 (by omega) c0)]
    by_cases c5 : cd = 5
    · subst c5
      have hk2 : K < 2 := by
        unfold gcn at hg
        rw [if_pos rfl] at hg
        by_cases h : K < 2
        · exact h
        · rw [if_neg h] at hg
          exact absurd hg (by decide)
      rw [if_neg (ne 1 (by omega) (by omega)), if_neg (ne 2 (by omega) (by omega)), if_neg (ne 3 (by omega) (by omega)), if_neg (ne 4 (by omega) (by omega)), if_pos rfl, if_pos rfl, hK]
      by_cases k0 : K = 0
      · subst k0
        rw [if_pos rfl, if_pos rfl]
        exact V_diffs hs hp hK (by omega) rfl hN hr
      · have hk0 : ¬ nI K = nI 0 := by rw [eqI (by omega) (by omega)]; exact k0
        rw [if_neg hk0, if_neg hk0]
        exact V_diffs hs hp hK (by omega) (by rw [if_neg k0]) hN hr
    · rw [if_neg (ne 5 (by omega) c5)]
      by_cases c6 : cd = 6
      · subst c6
        have hk2 : K = 2 := by
          unfold gcn at hg
          rw [if_neg (by decide), if_pos rfl] at hg
          by_cases h : K = 2
          · exact h
          · rw [if_neg h] at hg
            exact absurd hg (by decide)
        subst hk2
        rw [if_neg (ne 1 (by omega) (by omega)), if_neg (ne 2 (by omega) (by omega)), if_neg (ne 3 (by omega) (by omega)), if_neg (ne 4 (by omega) (by omega)), if_neg (ne 5 (by omega) (by omega)), if_pos rfl, if_pos rfl]
        exact V_texts hs hS heS hS2 hp hN hr
      · rw [if_neg (ne 6 (by omega) c6)]
        by_cases c8 : cd = 8
        · subst c8
          have hrd : rd = 1 := by
            unfold gcn at hg
            rw [if_neg (by decide), if_neg (by decide), if_neg (by decide), if_pos rfl] at hg
            exact hg
          rcases hdic with ⟨h, _⟩ | ⟨_, D, h1, h2, h3, h4, h5⟩
          · omega
          · subst h5
            rw [if_neg (ne 1 (by omega) (by omega)), if_neg (ne 2 (by omega) (by omega)), if_neg (ne 3 (by omega) (by omega)), if_neg (ne 4 (by omega) (by omega)), if_neg (ne 5 (by omega) (by omega)), if_neg (ne 6 (by omega) (by omega)), if_pos rfl]
            exact V_places (rc := rc) hs hp hK hK3 hN h1 h2 h3 h4 hr
        · have c3 : cd = 3 := by
            unfold gcn at hg
            rw [if_neg (neL 5 (by omega) c5), if_neg (neL 6 (by omega) c6)] at hg
            by_cases h : cd = 3
            · exact h
            · rw [if_neg (neL 3 (by omega) h), if_neg (neL 8 (by omega) c8), if_neg (neL 0 (by omega) c0)] at hg
              exact absurd hg (by decide)
          subst c3
          have hk3 : K = 3 := by
            unfold gcn at hg
            rw [if_neg (by decide), if_neg (by decide), if_pos rfl] at hg
            by_cases h : K = 3
            · exact h
            · rw [if_neg h] at hg
              exact absurd hg (by decide)
          subst hk3
          rw [if_neg (ne 8 (by omega) c8), if_neg (ne 1 (by omega) (by omega)), if_neg (ne 2 (by omega) (by omega)), if_pos rfl]
          exact V_runs3 hs hp hK hN hr
end DATA
def FrT (mm mt : Nat → Int32) (mv : Nat → Int64) (mx : Nat → Int32) (mm' mt' : Nat → Int32) (mv' : Nat → Int64) (mx' : Nat → Int32) : Prop := (∀ d, d ≠ 4 → d ≠ 6 → mm' d = mm d) ∧ ∀ s a, (s < 800 ∨ (1000 ≤ s ∧ s < 1200)) → MV mt mv mx s a → MV mt' mv' mx' s a
theorem FrT.rf {mm mt : Nat → Int32} {mv : Nat → Int64} {mx : Nat → Int32} : FrT mm mt mv mx mm mt mv mx := ⟨fun _ _ _ => rfl, fun _ _ _ h => h⟩
theorem FrT.tr {mm mm1 mm2 mt mt1 mt2 : Nat → Int32} {mv mv1 mv2 : Nat → Int64} {mx mx1 mx2 : Nat → Int32} (h1 : FrT mm mt mv mx mm1 mt1 mv1 mx1) (h2 : FrT mm1 mt1 mv1 mx1 mm2 mt2 mv2 mx2) : FrT mm mt mv mx mm2 mt2 mv2 mx2 := ⟨fun d h4 h6 => (h2.1 d h4 h6).trans (h1.1 d h4 h6), fun s a hs h => h2.2 s a hs (h1.2 s a hs h)⟩
theorem FrN.t6 {mm mm1 mt mt1 : Nat → Int32} {mv mv1 : Nat → Int64} {mx mx1 : Nat → Int32} (h : FrN 6 mm mt mv mx mm1 mt1 mv1 mx1) : FrT mm mt mv mx mm1 mt1 mv1 mx1 := ⟨fun d _ h6 => h.1 d h6, fun s a hs hv => h.2 s a (by omega) hv⟩
theorem FrN.t4 {mm mm1 mt mt1 : Nat → Int32} {mv mv1 : Nat → Int64} {mx mx1 : Nat → Int32} (h : FrN 4 mm mt mv mx mm1 mt1 mv1 mx1) : FrT mm mt mv mx mm1 mt1 mv1 mx1 := ⟨fun d h4 _ => h.1 d h4, fun s a hs hv => h.2 s a (by omega) hv⟩
def PGm (a : Int32) (mm mt : Nat → Int32) (mv : Nat → Int64) (mx : Nat → Int32) (ma d q mpg mdi : Int32) (m : Option PG) : Prop := ∃ mn me c b mw z so bo co cd ml, m = some (a, mm, mt, mv, mx, mn, ma, me, d, q, mpg, mdi, c, b, mw, z, so, bo, co, cd, ml)
def DOut (B K N p e : Nat) (mpg mdi : Int32) (xc : Nat → Int32) (xt : Nat → Nat → Int32) (xn : Nat → Nat → Int64) (xl : Nat → Nat → Int32) (mm mt : Nat → Int32) (mv : Nat → Int64) (mx : Nat → Int32) (x : Option VX) (m : Option PG) : Prop :=
  (∃ (g : Nat → AV) (p' : Nat) (xc' : Nat → Int32) (xt' : Nat → Nat → Int32) (xn' : Nat → Nat → Int64) (xl' : Nat → Nat → Int32) (la' : Nat → Nat → Int64) (swd' : Nat → Int32), p ≤ p' ∧ p' ≤ e ∧ (∀ t, wfv K (g t)) ∧ xc' 4 = nI (B + N) ∧ (∀ t, t < B + N → XV xt' xn' xl' 4 t (g t)) ∧ FrX 4 xc xt xn xl xc' xt' xn' xl' ∧ x = some (xc', xt', xn', xl', la', nI p', nI e, nI 0, nI 0, swd') ∧
    ((p' = e ∧ ∃ mm' mt' mv' mx', mm' 4 = nI (B + N) ∧ (∀ t, t < B + N → MV mt' mv' mx' (200 * 4 + t) (g t)) ∧ FrT mm mt mv mx mm' mt' mv' mx' ∧ PGm (nI 1) mm' mt' mv' mx' (nI e) (nI 0) (nI 0) (mpg + nI 1) mdi m) ∨
     (p' < e ∧ ∃ mm' mt' mv' mx' ma', FrT mm mt mv mx mm' mt' mv' mx' ∧ PGm (nI 0) mm' mt' mv' mx' ma' (nI 13) (nI p') mpg mdi m))) ∨
  (∃ (xc' : Nat → Int32) (xt' : Nat → Nat → Int32) (xn' : Nat → Nat → Int64) (xl' : Nat → Nat → Int32) (la' : Nat → Nat → Int64) (sx sn : Int32) (swd' mm' mt' : Nat → Int32) (mv' : Nat → Int64) (mx' : Nat → Int32) (ma' d q : Int32), d ≠ nI 0 ∧ FrX 4 xc xt xn xl xc' xt' xn' xl' ∧ FrT mm mt mv mx mm' mt' mv' mx' ∧ x = some (xc', xt', xn', xl', la', sx, sn, d, q, swd') ∧ PGm (nI 0) mm' mt' mv' mx' ma' d q mpg mdi m)
theorem cnt_one {lv : Nat → Nat} (h : ∀ t, lv t = 1) : ∀ j, cnt lv j = j := by
  intro j
  induction j with
  | zero => rfl
  | succ j ih =>
    show cnt lv j + lv j = j + 1
    rw [ih, h]
theorem P_276 {pre : Nat → AV} {B K N p e S rd cd O : Nat} {lv : Nat → Nat} {xk xo xc rc : Nat → Int32} {xt : Nat → Nat → Int32} {xn : Nat → Nat → Int64} {xl : Nat → Nat → Int32} {rb : Nat → Nat → Int32} {la : Nat → Nat → Int64} {swd : Nat → Int32} {mf mm mt : Nat → Int32} {mv : Nat → Int64} {mx : Nat → Int32} {mn : Nat → Int64} {mpg mdi mbl mby mz mso mbo : Int32} {mw ml : Nat → Int32} (hs : Src rb mf e) (hS : rc 1 = nI S) (heS : e ≤ S) (hS2 : S ≤ 12000) (hp : p ≤ e) (hK : xk 4 = nI K) (hK3 : K ≤ 3) (hO : xo 4 = nI O) (hO1 : O ≤ 1) (hl : ∀ t, lv t ≤ 1) (h0 : O = 0 → ∀ t, lv t = 1) (hla : O ≠ 0 → ∀ t, t < N → la 1 t = lN (lv t)) (hml : ∀ t, t < N → ml t = nI (lv t)) (hN : B + N ≤ 200) (hxc : xc 4 = nI B) (hpw : ∀ t, wfv K (pre t)) (hX : ∀ t, t < B → XV xt xn xl 4 t (pre t)) (hm4 : mm 4 = nI B) (hM : ∀ t, t < B → MV mt mv mx (200 * 4 + t) (pre t)) (hcd : cd ≤ 8) (hg : gcn K rd (lN cd) = 1) (hdic : DicS rd K mdi xc xt xn xl mt mv mx) :
    DOut B K N p e mpg mdi xc xt xn xl mm mt mv mx (p_X1_readData_J44 (nI B) (nI (cnt lv N)) xk xo xc xt xn xl rc rb la (some 1) (nI p) (nI e) (nI 0) (nI 0) swd (nI N) (nI cd)) (p_X6_readPage_J276 (nI K) (nI e) (nI (cnt lv N)) mm mt mv mx mf mn (nI p) (nI e) (nI 0) (nI 0) mpg mdi mbl mby mw mz mso mbo (nI N) (nI cd) ml) := by
  have n1 : ¬ nI 1 = nI 0 := by decide
  have he := hs.1
  have hcN := cnt_le hl N
  have hr : RS pre 4 B 6 K [] xc xt xn xl (up mm 6 (nI 0)) mt mv mx := ⟨hxc, up_s, fun j hj => absurd hj (by simp), fun j hj => absurd hj (by simp), fun t ht => by simp at ht, fun j => (hpw j).1, hX⟩
  rw [p_X6_readPage_J276]
  rcases V_all (xo := xo) (rpv := nI N) (la := la) (swd := swd) (mn := mn) (mbl := mbl) (mby := mby) (mw := mw) (N := cnt lv N) hs hS heS hS2 hp hK hK3 (by omega) hcd hg hdic hr with ⟨ts, p', xc', xt', xn', xl', la', swd', mm', mt', mv', mx', mn', c, b, mw', v1, v2, v3, v4, v5, v6, v7, v8, v9⟩ | ⟨xc', xt', xn', xl', la', sx, sn, swd', mm', mt', mv', mx', mn', sm, me, d, q, c, b, mw', hd, v5, v6, v8, v9⟩
  · left
    obtain ⟨w1, w2, w3, w4, w5, w6, w7⟩ := v4
    have hla1 : la' 1 = la 1 := v7 1 (by omega)
    -- the levelled values
    have hgw : ∀ t, wfv K ((fun t => if t < B then pre t else mixA lv ts (t - B)) t) := by
      intro t
      show wfv K (if t < B then pre t else mixA lv ts (t - B))
      split
      · exact hpw t
      · exact mixA_wf w5 _
    have hXs : ∃ xc2 xt2 xn2 xl2, p_X1_readData_J169 (nI B) xk xo xc' xt' xn' xl' la' (nI p') (nI e) (nI 0) (nI 0) swd' (nI N) = some (xc2, xt2, xn2, xl2, la', nI p', nI e, nI 0, nI 0, swd') ∧ xc2 4 = nI (B + N) ∧ (∀ t, t < B + N → XV xt2 xn2 xl2 4 t (if t < B then pre t else mixA lv ts (t - B))) ∧ FrX 4 xc' xt' xn' xl' xc2 xt2 xn2 xl2 := by
      rw [p_X1_readData_J169, hO]
      by_cases o0 : O = 0
      · have hl1 := h0 o0
        refine ⟨xc', xt', xn', xl', by rw [if_pos (show nI O = nI 0 by rw [o0])], ?_, fun t ht => ?_, FrX.rf⟩
        · rw [w1, v1, cnt_one hl1]
        · by_cases hb : t < B
          · rw [if_pos hb]; exact w7 t hb
          · have hlt : t - B < ts.length := by rw [v1, cnt_one hl1]; omega
            have e1 : mixA lv ts (t - B) = some ts[t - B] := by
              unfold mixA
              rw [if_neg (by rw [hl1]; decide), cnt_one hl1, List.getElem?_eq_getElem hlt]
            rw [if_neg hb, e1]
            have := w3 (t - B) hlt
            rw [show B + (t - B) = t by omega] at this
            exact this
      · have es : p_X4_isSound (nI 0) = some (nI 1) := rfl
        obtain ⟨xt2, xn2, xl2, s1, s2, s3, s4⟩ := X_spread_L (xc := xc') (la := la') (pre := pre) hK hK3 hN hl (fun t ht => by rw [hla1]; exact hla o0 t ht) v1 w5 (fun j => (hpw j).1) N fu xt' xn' xl' (by omega) (by rw [fu_eq]; omega) (fun t h1 h2 => by omega) (fun j hj _ => w3 j hj) w7
        refine ⟨up xc' 4 (nI (B + N)), xt2, xn2, xl2, ?_, up_s, fun t ht => ?_, fun d hd => ⟨up_n hd, (s4 d hd).1, (s4 d hd).2.1, (s4 d hd).2.2⟩⟩
        · have sp : p_X0_spread 4 (nI B) (nI N) 1 xk xc' xt' xn' xl' la' = some (up xc' 4 (nI (B + N)), xt2, xn2, xl2) := by
            unfold p_X0_spread
            rw [w1, v1]
            exact s1
          rw [if_neg (show ¬ nI O = nI 0 by rw [eqI (by omega) (by omega)]; exact o0), es, bdS1, if_neg n1, sp, bdS4]
        · by_cases hb : t < B
          · rw [if_pos hb]; exact s3 t hb
          · rw [if_neg hb]
            have := s2 (t - B) (by omega)
            rw [show B + (t - B) = t by omega] at this
            exact this
    obtain ⟨xc2, xt2, xn2, xl2, x1, x2, x3, x4⟩ := hXs
    refine ⟨fun t => if t < B then pre t else mixA lv ts (t - B), p', xc2, xt2, xn2, xl2, la', swd', v2, v3, hgw, x2, x3, v5.tr x4, v8.trans x1, ?_⟩
    rw [v9, bdS13, if_neg n1]
    unfold p_X6_isOver
    by_cases hend : p' = e
    · left
      subst hend
      refine ⟨rfl, ?_⟩
      rw [if_pos rfl, bdS3, if_neg n1]
      have hm4' : mm' 4 = nI B := (v6.1 4 (by omega)).trans hm4
      obtain ⟨mm2, mt2, mv2, mx2, m1, m2, m3, m4⟩ := M_spread_L (g := fun t => if t < B then pre t else mixA lv ts (t - B)) (mn := mn') (ma := nI p') (me := nI p') (mpg := mpg) (mdi := mdi) (mbl := c) (mby := b) (mw := mw') (mz := mz) (mso := mso) (mbo := mbo) (mcd := nI cd) hN hl hml v1 w5 (fun t ht => by
        show (if B + t < B then _ else mixA lv ts (B + t - B)) = _
        rw [if_neg (by omega), show B + t - B = t by omega]) N fu 0 mm' mt' mv' mx' (by omega) (by omega) (by rw [fu_eq]; omega) hm4' (fun t ht => by
        show MV mt' mv' mx' (200 * 4 + t) (if t < B then pre t else _)
        rw [if_pos (by omega)]
        exact v6.2 _ _ (by omega) (hM t (by omega))) w4
      exact ⟨mm2, mt2, mv2, mx2, m1, m2, v6.t6.tr m3.t4, _, _, _, _, _, _, _, _, _, _, _, m4⟩
    · right
      refine ⟨by omega, ?_⟩
      rw [if_neg (show ¬ nI p' = nI e by rw [eqI (by omega) (by omega)]; exact hend), p_X6_fails, bdS3, if_pos rfl, bdS3, if_pos rfl]
      exact ⟨mm', mt', mv', mx', _, v6.t6, _, _, _, _, _, _, _, _, _, _, _, rfl⟩
  · right
    rw [v9, bdS13, if_pos rfl]
    exact ⟨xc', xt', xn', xl', la', sx, sn, swd', mm', mt', mv', mx', _, d, q, hd, v5, v6.t6, v8, _, _, _, _, _, _, _, _, _, _, _, rfl⟩
