/-! a page -/
def pgD (v1 v2 st mco : Int32) (mm mt : Nat → Int32) (mv : Nat → Int64) (mx mf : Nat → Int32) (mn : Nat → Int64) (ma_2 mb_4 mba_5 mpg mdi mbl mby : Int32) (mw : Nat → Int32) (mz mso mbo mcd : Int32) (ml_38 : Nat → Int32) : Option PG :=
            if v2 = (nI 0) then
              p_X6_readPage_J276 v1 st mco mm mt mv mx mf mn ma_2 st mb_4 mba_5 mpg mdi mbl mby mw mz mso mbo mco mcd ml_38
            else
              bd4 (p_X6_readLength (nI 12000) mf ma_2 st mb_4 mba_5) <| fun a_74 ma_75 mb_76 mba_77 =>
              if a_74 < (nI 0) then
                some ((nI 0), mm, mt, mv, mx, mn, ma_75, st, mb_76, mba_77, mpg, mdi, mbl, mby, mw, mz, mso, mbo, mco, mcd, ml_38)
              else
                bd7 (p_X6_readRuns mco (nI 1) mf mn ma_75 (ma_75 + a_74) mb_76 mba_77 mbl mby) <| fun a_79 mn_80 ma_81 mb_82 mba_83 mbl_84 mby_85 =>
                if a_79 = (nI 0) then
                  some ((nI 0), mm, mt, mv, mx, mn_80, ma_81, (ma_75 + a_74), mb_82, mba_83, mpg, mdi, mbl_84, mby_85, mw, mz, mso, mbo, mco, mcd, ml_38)
                else
                  bd3 (p_X6_isOver (ma_75 + a_74) ma_81 mb_82 mba_83) <| fun a_87 mb_88 mba_89 =>
                  if a_87 = (nI 0) then
                    some ((nI 0), mm, mt, mv, mx, mn_80, ma_81, (ma_75 + a_74), mb_88, mba_89, mpg, mdi, mbl_84, mby_85, mw, mz, mso, mbo, mco, mcd, ml_38)
                  else
                    itr3 (p_X6_readPage_L217 mn_80 mco (fun v4_95 ml_96 =>
                        p_X6_readPage_J276 v1 st v4_95 mm mt mv mx mf mn_80 ma_81 st mb_88 mba_89 mpg mdi mbl_84 mby_85 mw mz mso mbo mco mcd ml_96)) fu (nI 0) (nI 0) ml_38
theorem d_J44 {n0 : Nat} {v1 : Int32} {xk xo xc rc : Nat → Int32} {xt : Nat → Nat → Int32} {xn : Nat → Nat → Int64} {xl : Nat → Nat → Int32} {rb : Nat → Nat → Int32} {la : Nat → Nat → Int64} {ssp sen d q : Int32} {swd : Nat → Int32} {rpv rpc : Int32} (hd : d ≠ nI 0) (hn : n0 ≤ 200) : ∃ la' sn swd', p_X1_readData_J44 v1 (nI n0) xk xo xc xt xn xl rc rb la (some 1) ssp sen d q swd rpv rpc = some (xc, xt, xn, xl, la', ssp, sn, d, q, swd') := by
  have pl : ∃ la' sn swd', (bd8 (p_X1_readPlaces (nI n0) xk xc xt xn xl rb la (some 1) ssp sen d q) fun xc_81 xt_82 xn_83 xl_84 la_85 ssp_86 str_87 stp_88 => p_X1_readData_J169 v1 xk xo xc_81 xt_82 xn_83 xl_84 la_85 ssp_86 sen str_87 stp_88 swd rpv) = some (xc, xt, xn, xl, la', ssp, sn, d, q, swd') := by
    rw [d_places hd hn, bdS8, d_169 hd]
    exact ⟨_, _, _, rfl⟩
  have df : ∀ s2 s3, ∃ la' sn swd', p_X1_readData_J128 v1 (nI n0) s2 s3 xk xo xc xt xn xl rb la (some 1) ssp sen d q swd rpv = some (xc, xt, xn, xl, la', ssp, sn, d, q, swd') := by
    intro s2 s3
    obtain ⟨la1, e1⟩ := d_diffs (v1 := 2) (v2 := s2) (v3 := s3) (rb := rb) (la := la) (srow := some 1) (ssp := ssp) (sen := sen) (stp := q) (swd := swd) hd
    rw [p_X1_readData_J128, e1, bdS5, d_push hd, bdS3, d_169 hd]
    exact ⟨_, _, _, rfl⟩
  rw [p_X1_readData_J44]
  split
  · rw [d_plain hd, bdS8, d_169 hd]
    exact ⟨_, _, _, rfl⟩
  · split
    · exact pl
    · split
      · exact pl
      · split
        · rw [d_own hd, bdS5, d_push hd, bdS3, d_169 hd]
          exact ⟨_, _, _, rfl⟩
        · split
          · exact pl
          · split
            · split
              · exact df _ _
              · exact df _ _
            · split
              · obtain ⟨la1, e1⟩ := d_lengths (n0 := n0) (xc := xc) (xt := xt) (xn := xn) (xl := xl) (rc := rc) (rb := rb) (la := la) (srow := some 1) (ssp := ssp) (sen := sen) (stp := q) (swd := swd) hd hn
                rw [e1, bdS9, d_169 hd]
                exact ⟨_, _, _, rfl⟩
              · exact pl
theorem P_data {pre : Nat → AV} {B K N p e S rd cd O : Nat} {xk xo xc rc : Nat → Int32} {xt : Nat → Nat → Int32} {xn : Nat → Nat → Int64} {xl : Nat → Nat → Int32} {rb : Nat → Nat → Int32} {la : Nat → Nat → Int64} {swd : Nat → Int32} {mf mm mt : Nat → Int32} {mv : Nat → Int64} {mx : Nat → Int32} {mn : Nat → Int64} {mpg mdi mbl mby mz mso mbo : Int32} {mw ml : Nat → Int32} (hs : Src rb mf e) (hS : rc 1 = nI S) (heS : e ≤ S) (hS2 : S ≤ 12000) (hp : p ≤ e) (hK : xk 4 = nI K) (hK3 : K ≤ 3) (hO : xo 4 = nI O) (hO1 : O ≤ 1) (hN : B + N ≤ 200) (hxc : xc 4 = nI B) (hpw : ∀ t, wfv K (pre t)) (hX : ∀ t, t < B → XV xt xn xl 4 t (pre t)) (hm4 : mm 4 = nI B) (hM : ∀ t, t < B → MV mt mv mx (200 * 4 + t) (pre t)) (hcd : cd ≤ 8) (hg : gcn K rd (lN cd) = 1) (hdic : DicS rd K mdi xc xt xn xl mt mv mx) :
    DOut B K N p e mpg mdi xc xt xn xl mm mt mv mx (p_X1_readData xk xo xc xt xn xl rc rb la (some 1) (nI p) (nI e) (nI 0) (nI 0) swd (nI N) (nI cd)) (itr2 (p_X6_readPage_L127 (nI N) (fun ml_38 => pgD (nI K) (nI O) (nI e) (nI N) mm mt mv mx mf mn (nI p) (nI 0) (nI 0) mpg mdi mbl mby mw mz mso mbo (nI cd) ml_38)) fu (nI 0) ml) := by
  have n1 : ¬ nI 1 = nI 0 := by decide
  have he := hs.1
  obtain ⟨ml1, hml1, eml⟩ := L_all_L (N := N) (kz := fun ml_38 => pgD (nI K) (nI O) (nI e) (nI N) mm mt mv mx mf mn (nI p) (nI 0) (nI 0) mpg mdi mbl mby mw mz mso mbo (nI cd) ml_38) (by omega) N fu 0 ml (by omega) (by omega) (by rw [fu_eq]; omega) (fun t ht => by omega)
  rw [eml]
  unfold p_X1_readData pgD
  rw [hO, hxc]
  by_cases o0 : O = 0
  · rw [if_pos (show nI O = nI 0 by rw [o0]), if_pos (show nI O = nI 0 by rw [o0])]
    have := P_276 (pre := pre) (lv := fun _ => 1) (N := N) (la := la) (swd := swd) (mn := mn) (mpg := mpg) (mbl := mbl) (mby := mby) (mz := mz) (mso := mso) (mbo := mbo) (mw := mw) (ml := ml1) hs hS heS hS2 hp hK hK3 hO hO1 (fun _ => Nat.le_refl _) (fun _ _ => rfl) (fun h => absurd o0 h) (fun t ht => hml1 t ht) hN hxc hpw hX hm4 hM hcd hg hdic
    rw [cnt_one (fun _ => rfl)] at this
    exact this
  · have o1 : ¬ nI O = nI 0 := by rw [eqI (by omega) (by omega)]; exact o0
    rw [if_neg o1, if_neg o1]
    have dead : ∀ (sx sn d q : Int32) (la2 : Nat → Nat → Int64) (m : Option PG), d ≠ nI 0 → ∀ ma', PGm (nI 0) mm mt mv mx ma' d q mpg mdi m → DOut B K N p e mpg mdi xc xt xn xl mm mt mv mx (bd1 (p_X1_countOnes (nI N) la2 d) fun a_96 => p_X1_readData_J44 (nI B) a_96 xk xo xc xt xn xl rc rb la2 (some 1) sx sn d q swd (nI N) (nI cd)) m := by
      intro sx sn d q la2 m hd ma' hm
      right
      obtain ⟨la3, sn3, swd3, e3⟩ := d_J44 (n0 := 0) (v1 := nI B) (xk := xk) (xo := xo) (xc := xc) (rc := rc) (xt := xt) (xn := xn) (xl := xl) (rb := rb) (la := la2) (ssp := sx) (sen := sn) (q := q) (swd := swd) (rpv := nI N) (rpc := nI cd) hd (by omega)
      rw [d_ones hd (by omega), bdS1, e3]
      exact ⟨_, _, _, _, _, _, _, _, _, _, _, _, _, _, _, hd, FrX.rf, FrT.rf, rfl, hm⟩
    rcases L_own (r := 1) (la := la) (mn := mn) (mbl := mbl) (mby := mby) hs (show N ≤ 200 by omega) hp with ⟨a, p1, la2, mn2, c, y, g1, g2, g3, g4, g5, g6, g7, g8⟩ | ⟨x, sm, d, q, la2, sx, sn, hx, hd, g5, g8⟩ | ⟨a, p1, mn2, sm, d, q, cm, bm, la2, sx, sn, hd, g2, g5, g6, g8⟩ | ⟨a, p1, p2, mn2, c, y, d, q, la2, sx, sn, hd, g2, g5, g6, g7, g8⟩
    · have hR := R_runs (show N ≤ 200 by omega) (by omega) g6
      rw [g8, bdS5, g5, bdS4, if_neg (show ¬ nI a < nI 0 by rw [ltI (by omega) (by omega)]; omega), addI, g6, bdS7, if_neg n1, g7, bdS3, if_neg n1]
      obtain ⟨ml2, hml2, ec, em⟩ := L_ones_L (N := N) (la := la2) (mn := mn2) (kz := fun v4_95 ml_96 => p_X6_readPage_J276 (nI K) (nI e) v4_95 mm mt mv mx mf mn2 (nI (p1 + a)) (nI e) (nI 0) (nI 0) mpg mdi c y mw mz mso mbo (nI N) (nI cd) ml_96) g4 hR (by omega) N fu 0 ml1 (by omega) (by omega) (by rw [fu_eq]; omega) (fun t ht => by omega)
      have ec' : itr2 (p_X1_countOnes_L4 (nI N) la2 (nI 0)) fu (nI 0) (nI 0) = some (nI (cnt (lvF mn2) N)) := ec
      have em' : itr3 (p_X6_readPage_L217 mn2 (nI N) (fun v4_95 ml_96 => p_X6_readPage_J276 (nI K) (nI e) v4_95 mm mt mv mx mf mn2 (nI (p1 + a)) (nI e) (nI 0) (nI 0) mpg mdi c y mw mz mso mbo (nI N) (nI cd) ml_96)) fu (nI 0) (nI 0) ml1 = _ := em
      rw [em']
      unfold p_X1_countOnes
      rw [ec', bdS1]
      have hla : ∀ t, t < N → la2 1 t = lN (lvF mn2 t) := by
        intro t ht
        obtain ⟨x, hx, hxe⟩ := hiB_nat (hR t ht)
        rw [g4 t ht]
        unfold lvF
        have hx2 : x = 0 ∨ x = 1 := by omega
        rcases hx2 with rfl | rfl
        · rw [hxe, if_neg (by decide)]
        · rw [hxe, if_pos rfl]
      have hP := P_276 (pre := pre) (lv := lvF mn2) (N := N) (la := la2) (swd := swd) (mn := mn2) (mpg := mpg) (mbl := c) (mby := y) (mz := mz) (mso := mso) (mbo := mbo) (mw := mw) (ml := ml2) hs hS heS hS2 g2 hK hK3 hO hO1 (lvF_le mn2) (fun h => absurd h o0) (fun _ => hla) hml2 hN hxc hpw hX hm4 hM hcd hg hdic
      rcases hP with ⟨g, p', xc', xt', xn', xl', la', swd', v2, v3⟩ | h
      · exact Or.inl ⟨g, p', xc', xt', xn', xl', la', swd', by omega, v3⟩
      · exact Or.inr h
    · rw [g8, bdS5, g5, bdS4, if_pos hx]
      exact dead _ _ _ _ _ _ hd _ ⟨_, _, _, _, _, _, _, _, _, _, _, rfl⟩
    · rw [g8, bdS5, g5, bdS4, if_neg (show ¬ nI a < nI 0 by rw [ltI (by omega) (by omega)]; omega), addI, g6, bdS7, if_pos rfl]
      exact dead _ _ _ _ _ _ hd _ ⟨_, _, _, _, _, _, _, _, _, _, _, rfl⟩
    · rw [g8, bdS5, g5, bdS4, if_neg (show ¬ nI a < nI 0 by rw [ltI (by omega) (by omega)]; omega), addI, g6, bdS7, if_neg n1, g7, bdS3, if_pos rfl]
      exact dead _ _ _ _ _ _ hd _ ⟨_, _, _, _, _, _, _, _, _, _, _, rfl⟩
