/-! reading: all pages, then the column -/
theorem bdS19 {α1 α2 α3 α4 α5 α6 α7 α8 α9 α10 α11 α12 α13 α14 α15 α16 α17 α18 α19 β : Type} {a1 : α1} {a2 : α2} {a3 : α3} {a4 : α4} {a5 : α5} {a6 : α6} {a7 : α7} {a8 : α8} {a9 : α9} {a10 : α10} {a11 : α11} {a12 : α12} {a13 : α13} {a14 : α14} {a15 : α15} {a16 : α16} {a17 : α17} {a18 : α18} {a19 : α19} {k : α1 → α2 → α3 → α4 → α5 → α6 → α7 → α8 → α9 → α10 → α11 → α12 → α13 → α14 → α15 → α16 → α17 → α18 → α19 → Option β} : bd19 (some (a1, a2, a3, a4, a5, a6, a7, a8, a9, a10, a11, a12, a13, a14, a15, a16, a17, a18, a19)) k = k a1 a2 a3 a4 a5 a6 a7 a8 a9 a10 a11 a12 a13 a14 a15 a16 a17 a18 a19 := rfl
theorem bdS21 {α1 α2 α3 α4 α5 α6 α7 α8 α9 α10 α11 α12 α13 α14 α15 α16 α17 α18 α19 α20 α21 β : Type} {a1 : α1} {a2 : α2} {a3 : α3} {a4 : α4} {a5 : α5} {a6 : α6} {a7 : α7} {a8 : α8} {a9 : α9} {a10 : α10} {a11 : α11} {a12 : α12} {a13 : α13} {a14 : α14} {a15 : α15} {a16 : α16} {a17 : α17} {a18 : α18} {a19 : α19} {a20 : α20} {a21 : α21} {k : α1 → α2 → α3 → α4 → α5 → α6 → α7 → α8 → α9 → α10 → α11 → α12 → α13 → α14 → α15 → α16 → α17 → α18 → α19 → α20 → α21 → Option β} : bd21 (some (a1, a2, a3, a4, a5, a6, a7, a8, a9, a10, a11, a12, a13, a14, a15, a16, a17, a18, a19, a20, a21)) k = k a1 a2 a3 a4 a5 a6 a7 a8 a9 a10 a11 a12 a13 a14 a15 a16 a17 a18 a19 a20 a21 := rfl
abbrev RM22 : Type := Int32 × (Nat → Int32) × (Nat → Int32) × (Nat → Int64) × (Nat → Int32) × (Nat → Int64) × Int32 × Int32 × Int32 × Int32 × Int32 × Int32 × Int32 × Int32 × (Nat → Int32) × Int32 × Int32 × Int32 × Int32 × Int32 × (Nat → Int32) × Int32
abbrev K91 : Type := (Nat → Int32) → (Nat → Int32) → (Nat → Int64) → (Nat → Int32) → (Nat → Int64) → Int32 → Int32 → Int32 → Int32 → Int32 → Int32 → Int32 → Int32 → (Nat → Int32) → Int32 → Int32 → Int32 → Int32 → Int32 → (Nat → Int32) → Option RM22
def XRd (xk xo xc : Nat → Int32) (xt : Nat → Nat → Int32) (xn : Nat → Nat → Int64) (xl : Nat → Nat → Int32) (d q rw : Int32) (x : Option RX19) : Prop := ∃ la ssp sen swd rdr rpd rpv rpc rzp, x = some (xk, xo, xc, xt, xn, xl, la, some 1, ssp, sen, d, q, swd, rw, rdr, rpd, rpv, rpc, rzp)
theorem L_pages_L {K O c S : Nat} {xk xo rc : Nat → Int32} {rb : Nat → Nat → Int32} {mk mo mf : Nat → Int32} {mr : Int32} {kz : K91} (hs : Src rb mf S) (hS : rc 1 = nI S) (hc : c < 4) (hK4 : xk 4 = nI K) (hK5 : xk 5 = nI K) (hK3 : K ≤ 3) (hO : xo 4 = nI O) (hO1 : O ≤ 1) (hmk : mk c = nI K) (hmo : mo c = nI O) : ∀ (m n p pg B rd : Nat) (g : Nat → AV) (xc : Nat → Int32) (xt : Nat → Nat → Int32) (xn : Nat → Nat → Int64) (xl : Nat → Nat → Int32) (la : Nat → Nat → Int64) (swd : Nat → Int32) (rpd rpv rpc rzp : Int32) (mm mt : Nat → Int32) (mv : Nat → Int64) (mx : Nat → Int32) (mn : Nat → Int64) (me mdi mbl mby : Int32) (mw : Nat → Int32) (mz mso mbo mco mcd : Int32) (ml : Nat → Int32), S - p ≤ m → p ≤ S → m + 2 < n → pg ≤ p → (pg = 0 ↔ p = 0) → (pg = 0 → rd = 0) → PgS K B g rd mdi xc xt xn xl mm mt mv mx →
    (∃ (B' rd' : Nat) (g' : Nat → AV) (mdi' rw' : Int32) (xc' : Nat → Int32) (xt' : Nat → Nat → Int32) (xn' : Nat → Nat → Int64) (xl' : Nat → Nat → Int32) (mm' mt' : Nat → Int32) (mv' : Nat → Int64) (mx' : Nat → Int32), PgS K B' g' rd' mdi' xc' xt' xn' xl' mm' mt' mv' mx' ∧ F4X xc xt xn xl xc' xt' xn' xl' ∧ F4M mm mt mv mx mm' mt' mv' mx' ∧ XRd xk xo xc' xt' xn' xl' (nI 0) (nI 0) rw' (itr17 (p_X1_readPages_L39 1 xk xo rc rb (some 1)) n (nI pg) xc xt xn xl la (nI p) (nI S) (nI 0) (nI 0) swd (nI pg) (nI rd) rpd rpv rpc rzp) ∧ ∃ mn' ma' me' c' b' mw' z' so' bo' co' cd' ml', itr20 (p_X6_read_L53 (nI c) mk mo mf (nI S) mr kz) n mm mt mv mx mn (nI p) me (nI 0) (nI 0) (nI pg) mdi mbl mby mw mz mso mbo mco mcd ml = kz mm' mt' mv' mx' mn' ma' me' (nI 0) (nI 0) rw' mdi' c' b' mw' z' so' bo' co' cd' ml') ∨
    (∃ (mdi' rw' d q : Int32) (xc' : Nat → Int32) (xt' : Nat → Nat → Int32) (xn' : Nat → Nat → Int64) (xl' : Nat → Nat → Int32) (mm' mt' : Nat → Int32) (mv' : Nat → Int64) (mx' : Nat → Int32), d ≠ nI 0 ∧ xc' 5 = dicN mdi' ∧ F4X xc xt xn xl xc' xt' xn' xl' ∧ F4M mm mt mv mx mm' mt' mv' mx' ∧ XRd xk xo xc' xt' xn' xl' d q rw' (itr17 (p_X1_readPages_L39 1 xk xo rc rb (some 1)) n (nI pg) xc xt xn xl la (nI p) (nI S) (nI 0) (nI 0) swd (nI pg) (nI rd) rpd rpv rpc rzp) ∧ ∃ mn' ma' me' c' b' mw' z' so' bo' co' cd' ml', itr20 (p_X6_read_L53 (nI c) mk mo mf (nI S) mr kz) n mm mt mv mx mn (nI p) me (nI 0) (nI 0) (nI pg) mdi mbl mby mw mz mso mbo mco mcd ml = some ((-10 : Int32) - d, mm', mt', mv', mx', mn', ma', me', d, q, rw', mdi', c', b', mw', z', so', bo', co', cd', ml', mr)) := by
  have he := hs.1
  have es : p_X4_isSound (nI 0) = some (nI 1) := rfl
  have n1 : ¬ nI 1 = nI 0 := by decide
  intro m
  induction m with
  | zero =>
    intro n p pg B rd g xc xt xn xl la swd rpd rpv rpc rzp mm mt mv mx mn me mdi mbl mby mw mz mso mbo mco mcd ml h1 h2 h3 h4 h5 h6 hst
    have : p = S := by omega
    subst this
    cases n with
    | zero => omega
    | succ n =>
      left
      refine ⟨B, rd, g, mdi, nI pg, xc, xt, xn, xl, mm, mt, mv, mx, hst, F4X.rf, F4M.rf, ?_, mn, nI p, me, mbl, mby, mw, mz, mso, mbo, mco, mcd, ml, ?_⟩
      · show XRd xk xo xc xt xn xl (nI 0) (nI 0) (nI pg) (p_X1_readPages_L39 1 xk xo rc rb (some 1) _ (nI pg) xc xt xn xl la (nI p) (nI p) (nI 0) (nI 0) swd (nI pg) (nI rd) rpd rpv rpc rzp)
        rw [p_X1_readPages_L39, es, bdS1, if_neg n1]
        unfold p_X4_left
        rw [bdS1, subI (by omega), if_neg (show ¬ nI 0 < nI (p - p) by rw [ltI (by omega) (by omega)]; omega), ite_self]
        exact ⟨_, _, _, _, _, _, _, _, _, rfl⟩
      · show p_X6_read_L53 (nI c) mk mo mf (nI p) mr kz _ mm mt mv mx mn (nI p) me (nI 0) (nI 0) (nI pg) mdi mbl mby mw mz mso mbo mco mcd ml = _
        rw [p_X6_read_L53, if_neg (by rw [ltI (by omega) (by omega)]; omega)]
  | succ m ih =>
    intro n p pg B rd g xc xt xn xl la swd rpd rpv rpc rzp mm mt mv mx mn me mdi mbl mby mw mz mso mbo mco mcd ml h1 h2 h3 h4 h5 h6 hst
    by_cases hlt : p < S
    · cases n with
      | zero => omega
      | succ n =>
        have hX : itr17 (p_X1_readPages_L39 1 xk xo rc rb (some 1)) (n + 1) (nI pg) xc xt xn xl la (nI p) (nI S) (nI 0) (nI 0) swd (nI pg) (nI rd) rpd rpv rpc rzp = pgX xk xo rc rb (itr17 (p_X1_readPages_L39 1 xk xo rc rb (some 1)) n) (nI pg) xc xt xn xl la (nI p) (nI S) (nI 0) (nI 0) swd (nI pg) (nI rd) rpd rpv rpc rzp := by
          show p_X1_readPages_L39 1 xk xo rc rb (some 1) (itr17 (p_X1_readPages_L39 1 xk xo rc rb (some 1)) n) (nI pg) xc xt xn xl la (nI p) (nI S) (nI 0) (nI 0) swd (nI pg) (nI rd) rpd rpv rpc rzp = _
          rw [p_X1_readPages_L39, if_pos (by rw [ltI (by omega) (by omega)]; omega), es, bdS1, if_neg n1]
          unfold p_X4_left
          rw [bdS1, subI (by omega), if_pos (show nI 0 < nI (S - p) by rw [ltI (by omega) (by omega)]; omega)]
          rfl
        have hM : itr20 (p_X6_read_L53 (nI c) mk mo mf (nI S) mr kz) (n + 1) mm mt mv mx mn (nI p) me (nI 0) (nI 0) (nI pg) mdi mbl mby mw mz mso mbo mco mcd ml = bd21 (p_X6_readPage (nI K) (nI O) mm mt mv mx mf (nI S) mn (nI p) me (nI 0) (nI 0) (nI pg) mdi mbl mby mw mz mso mbo mco mcd ml) (fun a_7 mm_8 mt_9 mv_10 mx_11 mn_12 ma_13 me_14 mb_15 mba_16 mpg_17 mdi_18 mbl_19 mby_20 mw_21 mz_22 mso_23 mbo_24 mco_25 mcd_26 ml_27 => if a_7 = (nI 0) then some (((-10 : Int32) - mb_15), mm_8, mt_9, mv_10, mx_11, mn_12, ma_13, me_14, mb_15, mba_16, mpg_17, mdi_18, mbl_19, mby_20, mw_21, mz_22, mso_23, mbo_24, mco_25, mcd_26, ml_27, mr) else itr20 (p_X6_read_L53 (nI c) mk mo mf (nI S) mr kz) n mm_8 mt_9 mv_10 mx_11 mn_12 ma_13 me_14 mb_15 mba_16 mpg_17 mdi_18 mbl_19 mby_20 mw_21 mz_22 mso_23 mbo_24 mco_25 mcd_26 ml_27) := by
          show p_X6_read_L53 (nI c) mk mo mf (nI S) mr kz (itr20 (p_X6_read_L53 (nI c) mk mo mf (nI S) mr kz) n) mm mt mv mx mn (nI p) me (nI 0) (nI 0) (nI pg) mdi mbl mby mw mz mso mbo mco mcd ml = _
          rw [p_X6_read_L53, if_pos (by rw [ltI (by omega) (by omega)]; omega), inbI (by omega), gdD (by omega), gdD (by omega), ixI (by omega), hmk, hmo]
        rw [hX, hM]
        rcases P_page (i := pg) (kx := itr17 (p_X1_readPages_L39 1 xk xo rc rb (some 1)) n) (la := la) (swd := swd) (rpd := rpd) (rpv := rpv) (rpc := rpc) (rzp := rzp) (mn := mn) (me := me) (mbl := mbl) (mby := mby) (mz := mz) (mso := mso) (mbo := mbo) (mco := mco) (mcd := mcd) (mw := mw) (ml := ml) hs hS h2 h4 h5 h6 hK4 hK5 hK3 hO hO1 hst with ⟨B2, g2, rd2, p2, mdi2, xc2, xt2, xn2, xl2, la2, swd2, rpd2, rpv2, rpc2, rzp2, mm2, mt2, mv2, mx2, a1, a2, a3, a4, a5, a6, mn2, me2, c2, b2, mw2, z2, so2, bo2, co2, cd2, ml2, a7⟩ | ⟨mdi2, xc2, xt2, xn2, xl2, la2, sx, swd2, rdr2, rpd2, rpv2, rpc2, rzp2, mm2, mt2, mv2, mx2, ma2, d, q, hd, a3, a4, a5, a6, mn2, me2, c2, b2, mw2, z2, so2, bo2, co2, cd2, ml2, a7⟩
        · rw [a6, a7, bdS21, if_neg n1]
          rcases ih n p2 (pg + 1) B2 rd2 g2 xc2 xt2 xn2 xl2 la2 swd2 rpd2 rpv2 rpc2 rzp2 mm2 mt2 mv2 mx2 mn2 me2 mdi2 c2 b2 mw2 z2 so2 bo2 co2 cd2 ml2 (by omega) a2 (by omega) (by omega) (by omega) (fun h => by omega) a3 with ⟨B3, rd3, g3, mdi3, rw3, xc3, xt3, xn3, xl3, mm3, mt3, mv3, mx3, f1, f2, f3, f4, f5⟩ | ⟨mdi3, rw3, d, q, xc3, xt3, xn3, xl3, mm3, mt3, mv3, mx3, f0, f1, f2, f3, f4, f5⟩
          · exact Or.inl ⟨B3, rd3, g3, mdi3, rw3, xc3, xt3, xn3, xl3, mm3, mt3, mv3, mx3, f1, a4.tr f2, a5.tr f3, f4, f5⟩
          · exact Or.inr ⟨mdi3, rw3, d, q, xc3, xt3, xn3, xl3, mm3, mt3, mv3, mx3, f0, f1, a4.tr f2, a5.tr f3, f4, f5⟩
        · right
          rw [a6, a7, bdS21, if_pos rfl]
          refine ⟨mdi2, nI pg, d, q, xc2, xt2, xn2, xl2, mm2, mt2, mv2, mx2, hd, a3, a4, a5, ?_, _, _, _, _, _, _, _, _, _, _, _, _, rfl⟩
          cases n with
          | zero => omega
          | succ n =>
            show XRd xk xo xc2 xt2 xn2 xl2 d q (nI pg) (p_X1_readPages_L39 1 xk xo rc rb (some 1) _ (nI (pg + 1)) xc2 xt2 xn2 xl2 la2 sx (nI S) d q swd2 (nI pg) rdr2 rpd2 rpv2 rpc2 rzp2)
            rw [p_X1_readPages_L39, d_sound hd, bdS1, if_pos rfl, ite_self]
            exact ⟨_, _, _, _, _, _, _, _, _, rfl⟩
    · exact ih n p pg B rd g xc xt xn xl la swd rpd rpv rpc rzp mm mt mv mx mn me mdi mbl mby mw mz mso mbo mco mcd ml (by omega) h2 (by omega) h4 h5 h6 hst
