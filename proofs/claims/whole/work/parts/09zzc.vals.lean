/-! a page's values, code by code -/
theorem nvB_bit {v : Int64} (h : hiB 1 v) : nvB 3 v = v := by
  obtain ⟨x, hx, rfl⟩ := hiB_nat h
  have : x = 0 ∨ x = 1 := by omega
  unfold nvB
  rw [if_neg (by decide), if_pos rfl]
  rcases this with rfl | rfl
  · rw [if_pos rfl]
  · rw [if_neg (by decide)]
theorem nvB_id {K : Nat} {v : Int64} (h0 : K ≠ 0) (h3 : K ≠ 3) : nvB K v = v := by
  unfold nvB
  rw [if_neg h0, if_neg h3]
theorem nvB_int {v : Int64} (h : isI v) : nvB 0 v = v := by
  unfold nvB
  rw [if_pos rfl]
  exact h
theorem RS.x0 {pre : Nat → AV} {cx B cm K : Nat} {xc : Nat → Int32} {xt : Nat → Nat → Int32} {xn : Nat → Nat → Int64} {xl : Nat → Nat → Int32} {mm mt : Nat → Int32} {mv : Nat → Int64} {mx : Nat → Int32} (f : Nat → Int64) (hr : RS pre 4 B 6 K [] xc xt xn xl mm mt mv mx) : XSt pre B f 0 xc xt xn xl := ⟨hr.1, fun t ht => by omega, hr.2.2.2.2.2.2⟩
theorem RS.m0 {pre : Nat → AV} {B K : Nat} {xc : Nat → Int32} {xt : Nat → Nat → Int32} {xn : Nat → Nat → Int64} {xl : Nat → Nat → Int32} {mm mt : Nat → Int32} {mv : Nat → Int64} {mx : Nat → Int32} (f : Nat → Int64) (hr : RS pre 4 B 6 K [] xc xt xn xl mm mt mv mx) : MSt f 0 mm mt mv mx := ⟨hr.2.1, fun t ht => by omega⟩
theorem RS.pr {pre : Nat → AV} {B K : Nat} {ts : List TV} {xc : Nat → Int32} {xt : Nat → Nat → Int32} {xn : Nat → Nat → Int64} {xl : Nat → Nat → Int32} {mm mt : Nat → Int32} {mv : Nat → Int64} {mx : Nat → Int32} (hr : RS pre 4 B 6 K ts xc xt xn xl mm mt mv mx) : ∀ j, (le (pre j)).length ≤ 40 := hr.2.2.2.2.2.1
theorem sumF_le {f : Nat → Nat} : ∀ (k j : Nat), (∀ t, j ≤ t → t < j + k → f t ≤ 40) → sumF f k j ≤ 40 * k := by
  intro k
  induction k with
  | zero => intro j h; exact Nat.le_refl _
  | succ k ih =>
    intro j h
    have h1 := ih (j + 1) (fun t ht1 ht2 => h t (by omega) (by omega))
    have h2 := h j (by omega) (by omega)
    show f j + sumF f k (j + 1) ≤ _
    omega
section VALS
variable {pre : Nat → AV} {B K N p e S : Nat} {xk xo xc rc : Nat → Int32} {xt : Nat → Nat → Int32} {xn : Nat → Nat → Int64} {xl : Nat → Nat → Int32} {rb : Nat → Nat → Int32} {la : Nat → Nat → Int64} {swd : Nat → Int32} {rpv : Int32} {mf mm mt : Nat → Int32} {mv : Nat → Int64} {mx : Nat → Int32} {mn : Nat → Int64} {mbl mby : Int32} {mw : Nat → Int32}
theorem V_truth (hs : Src rb mf e) (hp : p ≤ e) (hK : xk 4 = nI 3) (hN : B + N ≤ 200) (hr : RS pre 4 B 6 3 [] xc xt xn xl mm mt mv mx) :
    VOut pre B 3 N p e xk xo rpv la xc xt xn xl mm mt mv mx
      (bd8 (p_X1_readPlain 4 (nI N) xk xc xt xn xl rc rb la (some 1) (nI p) (nI e) (nI 0) (nI 0)) fun xc_2 xt_3 xn_4 xl_5 la_6 ssp_7 str_8 stp_9 => p_X1_readData_J169 (nI B) xk xo xc_2 xt_3 xn_4 xl_5 la_6 ssp_7 (nI e) str_8 stp_9 swd rpv)
      (itr10 (p_X6_readValues_L33 (nI N) mf mn (nI e) mw) fu (nI 0) mm mt mv mx (nI p) (nI 0) (nI 0) (nI 0) mby) := by
  unfold p_X1_readPlain p_X4_nextPacked
  rw [if_pos hK, X_wholeGroups (show N < 2 ^ 30 by omega), bdS1, mulI]
  rcases L_truth_L (mn := mn) (mw := mw) hs (show N ≤ 200 by omega) N fu 0 p 0 (nI 0) mby la mm mt mv mx (by omega) (by omega) (by rw [fu_eq]; omega) hp ⟨by omega, fun h => absurd rfl h⟩ (by omega) (by omega) (hr.m0 _) (fun t ht => by omega) with ⟨la2, p2, c2, by2, mm2, mt2, mv2, mx2, r1, r2, r3, r4, r5, r6, r7, r8⟩ | ⟨la2, sx, mm2, mt2, mv2, mx2, sm, d, q, cm, bm, hd, r3, r6, r7, r8⟩
  · left
    have r7' : itr7 (p_X4_nextPacked_L9 2 (nI 0) (nI N) (nI ((N + 7) / 8 * 8)) (nI 1) rb (some 1) (nI e)) fu (nI 0) (nI 0) (nI 0) la (nI p) (nI 0) (nI 0) = _ := r7
    obtain ⟨xc2, xt2, xn2, u1, u2, u3⟩ := X_push_L (f := la2 2) (la := la2) (xl := xl) hK (by omega) hN (fun t ht => nvB_bit (r5 t ht)) hr.pr N fu 0 xc xt xn (by omega) (by omega) (by rw [fu_eq]; omega) (hr.x0 (cx := 4) (cm := 6) _)
    rw [r7', bdS4, r8]
    unfold p_X1_pushNumbers
    rw [u3, bdS3, bdS8]
    exact ⟨tvs (la2 2) N, p2, xc2, xt2, xn2, xl, la2, swd, mm2, mt2, mv2, mx2, mn, nI c2, by2, mw, tvs_len, r1, r2, RS_of u1 r4 (by omega) hr.pr, u2, r6, r3, rfl, rfl⟩
  · right
    have r7' : itr7 (p_X4_nextPacked_L9 2 (nI 0) (nI N) (nI ((N + 7) / 8 * 8)) (nI 1) rb (some 1) (nI e)) fu (nI 0) (nI 0) (nI 0) la (nI p) (nI 0) (nI 0) = _ := r7
    rw [r7', bdS4, d_push hd, bdS3, bdS8, d_169 hd, r8]
    exact ⟨_, _, _, _, _, _, _, _, _, _, _, _, _, _, _, _, _, _, _, _, hd, FrX.rf, r6, rfl, rfl⟩
theorem V_plain (hs : Src rb mf e) (hS : rc 1 = nI S) (heS : e ≤ S) (hS2 : S ≤ 12000) (hp : p ≤ e) (hK : xk 4 = nI K) (hK3 : K < 3) (hN : B + N ≤ 200) (hr : RS pre 4 B 6 K [] xc xt xn xl mm mt mv mx) :
    VOut pre B K N p e xk xo rpv la xc xt xn xl mm mt mv mx
      (bd8 (p_X1_readPlain 4 (nI N) xk xc xt xn xl rc rb la (some 1) (nI p) (nI e) (nI 0) (nI 0)) fun xc_2 xt_3 xn_4 xl_5 la_6 ssp_7 str_8 stp_9 => p_X1_readData_J169 (nI B) xk xo xc_2 xt_3 xn_4 xl_5 la_6 ssp_7 (nI e) str_8 stp_9 swd rpv)
      (itr9 (p_X6_readValues_L84 (nI K) (nI N) mf mn (nI e) mbl mby mw) fu (nI 1) (nI 0) mm mt mv mx (nI p) (nI 0) (nI 0)) := by
  unfold p_X1_readPlain
  rw [if_neg (show ¬ xk 4 = nI 3 by rw [hK, eqI (by omega) (by omega)]; omega)]
  rcases L_plainv_L (la := la) (mn := mn) (mbl := mbl) (mby := mby) (mw := mw) hs hS heS hS2 hK hK3 hN N fu p [] xc xt xn xl mm mt mv mx (by simp) (by simp) (by rw [fu_eq]; omega) hp hr with ⟨ts2, p2, xc2, xt2, xn2, xl2, mm2, mt2, mv2, mx2, r1, r2, r3, r4, r5, r6, r7, r8⟩ | ⟨xc2, xt2, xn2, xl2, sx, mm2, mt2, mv2, mx2, sm, d, q, hd, r5, r6, r7, r8⟩
  · left
    have r7' : itr8 (p_X1_readPlain_L37 4 (nI N) xk rc rb la (some 1) (nI e)) fu (nI 0) xc xt xn xl (nI p) (nI 0) (nI 0) = _ := r7
    rw [r7', bdS8]
    exact ⟨ts2, p2, xc2, xt2, xn2, xl2, la, swd, mm2, mt2, mv2, mx2, mn, mbl, mby, mw, r1, r2, r3, r4, r5, r6, FrA.rf, rfl, r8⟩
  · right
    have r7' : itr8 (p_X1_readPlain_L37 4 (nI N) xk rc rb la (some 1) (nI e)) fu (nI 0) xc xt xn xl (nI p) (nI 0) (nI 0) = _ := r7
    rw [r7', bdS8, d_169 hd]
    exact ⟨_, _, _, _, _, _, _, _, _, _, _, _, _, _, _, _, _, _, _, _, hd, r5, r6, rfl, r8⟩
theorem V_diffs {ints : Nat} (hs : Src rb mf e) (hp : p ≤ e) (hK : xk 4 = nI K) (hK2 : K < 2) (hi : ints = if K = 0 then 1 else 0) (hN : B + N ≤ 200) (hr : RS pre 4 B 6 K [] xc xt xn xl mm mt mv mx) :
    VOut pre B K N p e xk xo rpv la xc xt xn xl mm mt mv mx
      (p_X1_readData_J128 (nI B) (nI N) (nI N) (nI ints) xk xo xc xt xn xl rb la (some 1) (nI p) (nI e) (nI 0) (nI 0) swd rpv)
      (p_X6_readValues_J132 (nI N) (nI N) (nI ints) mm mt mv mx mf mn (nI p) (nI e) (nI 0) (nI 0) mbl mby mw) := by
  have n1 : ¬ nI 1 = nI 0 := by decide
  have hi1 : ints ≤ 1 := by rw [hi]; split <;> omega
  rw [p_X1_readData_J128, p_X6_readValues_J132]
  rcases L_diffs (r := 2) (la := la) (mn := mn) (swd := swd) (mw := mw) (mbl := mbl) (mby := mby) hs hi1 (show N ≤ 200 by omega) hp with ⟨la2, mn2, p2, swd2, c, y, mw2, r1, r2, r3, r4, r5, r6⟩ | ⟨la2, sx, swd2, d, q, hd, r5, mn2, sm, c, y, mw2, r6⟩
  · left
    have hv : ∀ t, t < N → nvB K (la2 2 t) = mn2 t := by
      intro t ht
      rw [r4.1 t ht]
      by_cases k0 : K = 0
      · subst k0
        exact nvB_int (r4.2 (by rw [hi, if_pos rfl]; decide) t ht)
      · exact nvB_id k0 (by omega)
    obtain ⟨xc2, xt2, xn2, u1, u2, u3⟩ := X_push_L (f := mn2) (la := la2) (xl := xl) hK (by omega) hN hv hr.pr N fu 0 xc xt xn (by omega) (by omega) (by rw [fu_eq]; omega) (hr.x0 (cx := 4) (cm := 6) _)
    obtain ⟨mm2, mt2, mv2, mx2, w1, w2, w3⟩ := M_push_L (N := N) (mn := mn2) (f := mn2) (ma := nI p2) (me := nI e) (mbl := c) (mby := y) (mw := mw2) (by omega) (fun _ _ => rfl) N fu 0 mm mt mv mx (by omega) (by omega) (by rw [fu_eq]; omega) (hr.m0 _)
    rw [r5, bdS5, r6, bdS8, if_neg n1, w3]
    unfold p_X1_pushNumbers
    rw [u3, bdS3]
    exact ⟨tvs mn2 N, p2, xc2, xt2, xn2, xl, la2, swd2, mm2, mt2, mv2, mx2, mn2, c, y, mw2, tvs_len, r1, r2, RS_of u1 w1 (by omega) hr.pr, u2, w2, r3, rfl, rfl⟩
  · right
    rw [r5, bdS5, d_push hd, bdS3, d_169 hd, r6, bdS8, if_pos rfl]
    exact ⟨_, _, _, _, _, _, _, _, _, _, _, _, _, _, _, _, _, _, _, _, hd, FrX.rf, FrN.rf, rfl, rfl⟩
theorem V_runs3 (hs : Src rb mf e) (hp : p ≤ e) (hK : xk 4 = nI 3) (hN : B + N ≤ 200) (hr : RS pre 4 B 6 3 [] xc xt xn xl mm mt mv mx) :
    VOut pre B 3 N p e xk xo rpv la xc xt xn xl mm mt mv mx
      (bd5 (p_X1_readOwnRuns 2 (nI N) rb la (some 1) (nI p) (nI e) (nI 0) (nI 0)) fun la_39 ssp_40 sen_41 str_42 stp_43 => bd3 (p_X1_pushNumbers (nI N) xk xc xt xn la_39 str_42) fun xc_45 xt_46 xn_47 => p_X1_readData_J169 (nI B) xk xo xc_45 xt_46 xn_47 xl la_39 ssp_40 sen_41 str_42 stp_43 swd rpv)
      (bd4 (p_X6_readLength (nI 12000) mf (nI p) (nI e) (nI 0) (nI 0)) fun a_67 ma_68 mb_69 mba_70 =>
          if a_67 < nI 0 then
            some (nI 0, mm, mt, mv, mx, mn, ma_68, nI e, mb_69, mba_70, mbl, mby, mw)
          else
            bd7 (p_X6_readRuns (nI N) (nI 1) mf mn ma_68 (ma_68 + a_67) mb_69 mba_70 mbl mby) fun a_72 mn_73 ma_74 mb_75 mba_76 mbl_77 mby_78 =>
            if a_72 = nI 0 then
              some (nI 0, mm, mt, mv, mx, mn_73, ma_74, (ma_68 + a_67), mb_75, mba_76, mbl_77, mby_78, mw)
            else
              bd3 (p_X6_isOver (ma_68 + a_67) ma_74 mb_75 mba_76) fun a_80 mb_81 mba_82 =>
              if a_80 = nI 0 then
                some (nI 0, mm, mt, mv, mx, mn_73, ma_74, (ma_68 + a_67), mb_81, mba_82, mbl_77, mby_78, mw)
              else
                itr5 (p_X6_readValues_L258 (nI N) mn_73 ma_74 (nI e) mb_81 mba_82 mbl_77 mby_78 mw) fu (nI 0) mm mt mv mx) := by
  have n1 : ¬ nI 1 = nI 0 := by decide
  have he := hs.1
  rcases L_own (r := 2) (la := la) (mn := mn) (mbl := mbl) (mby := mby) hs (show N ≤ 200 by omega) hp with ⟨a, p1, la2, mn2, c, y, g1, g2, g3, g4, g5, g6, g7, g8⟩ | ⟨x, sm, d, q, la2, sx, sn, hx, hd, g5, g8⟩ | ⟨a, p1, mn2, sm, d, q, cm, bm, la2, sx, sn, hd, g2, g5, g6, g8⟩ | ⟨a, p1, p2, mn2, c, y, d, q, la2, sx, sn, hd, g2, g5, g6, g7, g8⟩
  · left
    have hR := R_runs (show N ≤ 200 by omega) (by omega) g6
    obtain ⟨xc2, xt2, xn2, u1, u2, u3⟩ := X_push_L (f := mn2) (la := la2) (xl := xl) hK (by omega) hN (fun t ht => by rw [g4 t ht]; exact nvB_bit (hR t ht)) hr.pr N fu 0 xc xt xn (by omega) (by omega) (by rw [fu_eq]; omega) (hr.x0 (cx := 4) (cm := 6) _)
    obtain ⟨mm2, mt2, mv2, mx2, w1, w2, w3⟩ := M_push_L (N := N) (mn := mn2) (f := mn2) (ma := nI (p1 + a)) (me := nI e) (mbl := c) (mby := y) (mw := mw) (by omega) (fun _ _ => rfl) N fu 0 mm mt mv mx (by omega) (by omega) (by rw [fu_eq]; omega) (hr.m0 _)
    rw [g8, bdS5, g5, bdS4, if_neg (show ¬ nI a < nI 0 by rw [ltI (by omega) (by omega)]; omega), addI, g6, bdS7, if_neg n1, g7, bdS3, if_neg n1, L258_eq, w3]
    unfold p_X1_pushNumbers
    rw [u3, bdS3]
    exact ⟨tvs mn2 N, p1 + a, xc2, xt2, xn2, xl, la2, swd, mm2, mt2, mv2, mx2, mn2, c, y, mw, tvs_len, by omega, g2, RS_of u1 w1 (by omega) hr.pr, u2, w2, g3, rfl, rfl⟩
  · right
    rw [g8, bdS5, d_push hd, bdS3, d_169 hd, g5, bdS4, if_pos hx]
    exact ⟨_, _, _, _, _, _, _, _, _, _, _, _, _, _, _, _, _, _, _, _, hd, FrX.rf, FrN.rf, rfl, rfl⟩
  · right
    rw [g8, bdS5, d_push hd, bdS3, d_169 hd, g5, bdS4, if_neg (show ¬ nI a < nI 0 by rw [ltI (by omega) (by omega)]; omega), addI, g6, bdS7, if_pos rfl]
    exact ⟨_, _, _, _, _, _, _, _, _, _, _, _, _, _, _, _, _, _, _, _, hd, FrX.rf, FrN.rf, rfl, rfl⟩
  · right
    rw [g8, bdS5, d_push hd, bdS3, d_169 hd, g5, bdS4, if_neg (show ¬ nI a < nI 0 by rw [ltI (by omega) (by omega)]; omega), addI, g6, bdS7, if_neg n1, g7, bdS3, if_pos rfl]
    exact ⟨_, _, _, _, _, _, _, _, _, _, _, _, _, _, _, _, _, _, _, _, hd, FrX.rf, FrN.rf, rfl, rfl⟩
theorem d_L133 {n0 : Int32} {sen str stp : Int32} (hd : str ≠ nI 0) {ssp : Int32} : itr6 (p_X1_readLengths_L133 n0 rc rb la (some 1) sen str stp swd) fu (nI 0) xc xt xn xl ssp = some (xc, xt, xn, xl, la, ssp, str, stp, swd) := by
  rw [fu_eq]
  show p_X1_readLengths_L133 n0 rc rb la (some 1) sen str stp swd _ _ xc xt xn xl ssp = _
  rw [p_X1_readLengths_L133, d_sound hd, bdS1, if_pos rfl, ite_self, ite_self]
theorem V_texts (hs : Src rb mf e) (hS : rc 1 = nI S) (heS : e ≤ S) (hS2 : S ≤ 12000) (hp : p ≤ e) (hN : B + N ≤ 200) (hr : RS pre 4 B 6 2 [] xc xt xn xl mm mt mv mx) :
    VOut pre B 2 N p e xk xo rpv la xc xt xn xl mm mt mv mx
      (bd9 (p_X1_readLengths (nI N) xc xt xn xl rc rb la (some 1) (nI p) (nI e) (nI 0) (nI 0) swd) fun xc_71 xt_72 xn_73 xl_74 la_75 ssp_76 str_77 stp_78 swd_79 => p_X1_readData_J169 (nI B) xk xo xc_71 xt_72 xn_73 xl_74 la_75 ssp_76 (nI e) str_77 stp_78 swd_79 rpv)
      (bd12 (p_X6_readTexts (nI N) (nI e) mm mt mv mx mf mn (nI p) (nI e) (nI 0) (nI 0) mbl mby mw) fun a_40 mm_41 mt_42 mv_43 mx_44 mn_45 ma_46 mb_47 mba_48 mbl_49 mby_50 mw_51 => gd (isB a_40) <| some (a_40, mm_41, mt_42, mv_43, mx_44, mn_45, ma_46, nI e, mb_47, mba_48, mbl_49, mby_50, mw_51)) := by
  have n1 : ¬ nI 1 = nI 0 := by decide
  have g0 : isB (nI 0) = true := by decide
  have g1 : isB (nI 1) = true := by decide
  have he := hs.1
  unfold p_X1_readLengths p_X6_readTexts
  rcases L_diffs (r := 2) (la := la) (mn := mn) (swd := swd) (mw := mw) (mbl := mbl) (mby := mby) (n0 := N) (ints := 1) hs (by omega) (show N ≤ 200 by omega) hp with ⟨la2, mn2, p2, swd2, c, y, mw2, r1, r2, r3, r4, r5, r6⟩ | ⟨la2, sx, swd2, d, q, hd, r5, mn2, sm, c, y, mw2, r6⟩
  · rw [r5, bdS5, r6, bdS8, if_neg n1]
    obtain ⟨sum, fl, h1, h2, h3, h4⟩ := L_good_L (β := Nat) (γ := Nat) (N := N) (la := la2) (mn := mn2) (k91 := fun v2_10 v4_11 => p_X1_readLengths_J91 (nI N) v2_10 v4_11 xc xt xn xl rc rb la2 (some 1) (nI p2) (nI e) (nI 0) (nI 0) swd2) (k70 := fun v3_14 v5_15 => if v5_15 = nI 0 then bd3 (p_X6_fails (nI 10) (nI p2) (nI 0) (nI 0)) fun a_16 mb_17 mba_18 => gd (isB a_16) <| some (a_16, mm, mt, mv, mx, mn2, nI p2, mb_17, mba_18, c, y, mw2) else if i2l (nI e - nI p2) < v3_14 then bd3 (p_X6_fails (nI 10) (nI p2) (nI 0) (nI 0)) fun a_21 mb_22 mba_23 => gd (isB a_21) <| some (a_21, mm, mt, mv, mx, mn2, nI p2, mb_22, mba_23, c, y, mw2) else itr8 (p_X6_readTexts_L101 (nI N) mf mn2 (nI e) c y mw2) fu (nI 0) mm mt mv mx (nI p2) (nI 0) (nI 0)) r4.1 (by omega) N fu 0 (lN 0) 1 (by omega) (by omega) (by rw [fu_eq]; omega) (by omega)
    rw [h3, h4]
    rw [p_X1_readLengths_J91, demF, demT, bdS2, bdS2]
    unfold p_X4_left
    rw [bdS1, subI (by omega), i2lI (by omega), p_X6_fails, bdS3, gdT g0, d_L133 (show nI 10 ≠ nI 0 by decide)]
    by_cases f0 : fl = 0
    · right
      subst f0
      rw [if_pos rfl, if_pos rfl, bdS9, d_169 (by decide), bdS12, gdT g0]
      exact ⟨_, _, _, _, _, _, _, _, _, _, _, _, _, _, _, _, _, _, _, _, by decide, FrX.rf, FrN.rf, rfl, rfl⟩
    · have f1 : fl = 1 := by omega
      subst f1
      obtain ⟨_, h5, h6⟩ := h2 rfl
      have hsum := h6 0 rfl
      rw [Nat.zero_add, Nat.sub_zero] at hsum
      have hb := sumF_le (f := lnF mn2) N 0 (fun t ht1 ht2 => by
        obtain ⟨l, hl, hle⟩ := h5 t (by omega) (by omega)
        rw [lnF_of hle hl]; exact hl)
      rw [if_neg n1, if_neg n1, hsum]
      by_cases hov : e - p2 < sumF (lnF mn2) N 0
      · right
        rw [if_pos (show lN (e - p2) < lN (sumF (lnF mn2) N 0) by rw [ltL (by omega) (by omega)]; exact hov), if_pos (show lN (e - p2) < lN (sumF (lnF mn2) N 0) by rw [ltL (by omega) (by omega)]; exact hov), bdS9, d_169 (by decide), bdS12, gdT g0]
        exact ⟨_, _, _, _, _, _, _, _, _, _, _, _, _, _, _, _, _, _, _, _, by decide, FrX.rf, FrN.rf, rfl, rfl⟩
      · left
        obtain ⟨ts, p3, xc2, xt2, xn2, xl2, mm2, mt2, mv2, mx2, u1, u2, u3, u4, u5, u6, u7, u8⟩ := L_texts_L (la := la2) (mn := mn2) (mbl := c) (mby := y) (mw := mw2) (swd := swd2) hs hS heS hS2 hN r4.1 (fun t ht => h5 t (by omega) ht) N fu p2 [] xc xt xn xl mm mt mv mx (by simp) (by simp) (by rw [fu_eq]; omega) (show p2 + sumF (lnF mn2) N 0 ≤ e by omega) hr
        have u7' : itr6 (p_X1_readLengths_L133 (nI N) rc rb la2 (some 1) (nI e) (nI 0) (nI 0) swd2) fu (nI 0) xc xt xn xl (nI p2) = _ := u7
        have u8' : itr8 (p_X6_readTexts_L101 (nI N) mf mn2 (nI e) c y mw2) fu (nI 0) mm mt mv mx (nI p2) (nI 0) (nI 0) = _ := u8
        rw [if_neg (show ¬ lN (e - p2) < lN (sumF (lnF mn2) N 0) by rw [ltL (by omega) (by omega)]; exact hov), if_neg (show ¬ lN (e - p2) < lN (sumF (lnF mn2) N 0) by rw [ltL (by omega) (by omega)]; exact hov), u7', u8', bdS9, bdS12, gdT g1]
        exact ⟨ts, p3, xc2, xt2, xn2, xl2, la2, swd2, mm2, mt2, mv2, mx2, mn2, c, y, mw2, u1, by omega, u3, u4, u5, u6, r3, rfl, rfl⟩
  · right
    obtain ⟨sum, fl, h1, h2, h3, h4⟩ := L_good_L (β := Nat) (γ := Nat) (N := N) (la := la2) (mn := fun t => la2 2 t) (k91 := fun v2_10 v4_11 => p_X1_readLengths_J91 (nI N) v2_10 v4_11 xc xt xn xl rc rb la2 (some 1) sx (nI e) d q swd2) (k70 := fun _ _ => none) (fun _ _ => rfl) (by omega) N fu 0 (lN 0) 1 (by omega) (by omega) (by rw [fu_eq]; omega) (by omega)
    rw [r5, bdS5, r6, bdS8, if_pos rfl, h3, p_X1_readLengths_J91, d_demand hd, d_demand hd, bdS2, d_L133 hd]
    unfold p_X4_left
    rw [bdS1, ite_self, ite_self, bdS9, d_169 hd, bdS12, gdT g0]
    exact ⟨_, _, _, _, _, _, _, _, _, _, _, _, _, _, _, _, _, _, _, _, hd, FrX.rf, FrN.rf, rfl, rfl⟩
end VALS
