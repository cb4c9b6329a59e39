/-! places in the dictionary -/
abbrev PM : Type := Int32 × (Nat → Int32) × (Nat → Int32) × (Nat → Int64) × (Nat → Int32) × (Nat → Int64) × Int32 × Int32 × Int32 × Int32 × Int32
theorem d_L62 {n0 : Nat} {v4 : Int32} {xc : Nat → Int32} {la : Nat → Nat → Int64} {kx : Int32 → Int32 → Option PX} {str stp : Int32} (hd : str ≠ nI 0) (hn : n0 ≤ 200) : ∀ (m n k : Nat), n0 - k = m → k ≤ n0 → m < n → itr3 (p_X1_readPlaces_L62 (nI n0) v4 xc la kx) n (nI k) str stp = kx str stp := by
  intro m
  induction m with
  | zero =>
    intro n k h1 h2 h3
    cases n with
    | zero => omega
    | succ n =>
      show p_X1_readPlaces_L62 (nI n0) v4 xc la kx _ (nI k) str stp = _
      rw [p_X1_readPlaces_L62, if_neg (by rw [ltI (by omega) (by omega)]; omega)]
  | succ m ih =>
    intro n k h1 h2 h3
    cases n with
    | zero => omega
    | succ n =>
      show p_X1_readPlaces_L62 (nI n0) v4 xc la kx _ (nI k) str stp = _
      rw [p_X1_readPlaces_L62, if_pos (by rw [ltI (by omega) (by omega)]; omega), if_pos (by rw [ltI (by omega) (by omega)]; omega), inbI (by omega), gdD (by omega), d_demand hd, d_demand hd, bdS2, ite_self, addI]
      exact ih n (k + 1) (by omega) (by omega) (by omega)
theorem d_L122 {n0 : Int32} {xk xc : Nat → Int32} {xt : Nat → Nat → Int32} {xn : Nat → Nat → Int64} {xl : Nat → Nat → Int32} {la : Nat → Nat → Int64} {ssp str stp : Int32} (hd : str ≠ nI 0) : itr5 (p_X1_readPlaces_L122 n0 xk la ssp str stp) fu (nI 0) xc xt xn xl = some (xc, xt, xn, xl, la, ssp, str, stp) := by
  rw [fu_eq]
  show p_X1_readPlaces_L122 n0 xk la ssp str stp _ _ xc xt xn xl = _
  rw [p_X1_readPlaces_L122, d_sound hd, bdS1, if_pos rfl, ite_self, ite_self]
theorem d_J31 {n0 : Nat} {v2 v3 s1 : Int32} {xk xc : Nat → Int32} {xt : Nat → Nat → Int32} {xn : Nat → Nat → Int64} {xl : Nat → Nat → Int32} {rb : Nat → Nat → Int32} {la : Nat → Nat → Int64} {srow : Option Nat} {ssp sen str stp : Int32} (hd : str ≠ nI 0) (hn : n0 ≤ 200) : p_X1_readPlaces_J31 (nI n0) v2 v3 s1 xk xc xt xn xl rb la srow ssp sen str stp = some (xc, xt, xn, xl, la, ssp, str, stp) := by
  rw [p_X1_readPlaces_J31, d_demand hd, bdS2, d_runs hd, bdS4]
  refine (d_L62 hd hn n0 fu 0 (by omega) (by omega) (by rw [fu_eq]; omega)).trans ?_
  exact d_L122 hd
theorem b31 {n0 v2 v3 : Int32} {xk xc : Nat → Int32} {xt : Nat → Nat → Int32} {xn : Nat → Nat → Int64} {xl : Nat → Nat → Int32} {rb : Nat → Nat → Int32} {la : Nat → Nat → Int64} {srow : Option Nat} {ssp sen stp : Int32} : p_X1_readPlaces_J31 n0 v2 v3 (nI 0) xk xc xt xn xl rb la srow ssp sen (nI 0) stp = p_X1_readPlaces_J31 n0 v2 v3 (nI 1) xk xc xt xn xl rb la srow ssp sen (nI 11) v2 := by
  unfold p_X1_readPlaces_J31
  rw [demF, d_demand (show nI 11 ≠ nI 0 by decide)]
theorem L_chk_L {N D : Nat} {v4 ma mbl mby : Int32} {xc mm mt : Nat → Int32} {mv : Nat → Int64} {mx : Nat → Int32} {la : Nat → Nat → Int64} {mn : Nat → Int64} {kx : Int32 → Int32 → Option PX} {kz : Option PM} (hk : Lk 2 N la mn) (hN : N ≤ 200) (hx : xc 5 = nI D) (hD : D ≤ 200) (hb : ∀ t, t < N → hiB 32 (mn t)) : ∀ (m n j : Nat), N - j = m → j ≤ N → m < n →
    ((∀ t, j ≤ t → t < N → ∃ x, x < D ∧ mn t = lN x) ∧ itr3 (p_X1_readPlaces_L62 (nI N) v4 xc la kx) n (nI j) (nI 0) (nI 0) = kx (nI 0) (nI 0) ∧ itr1 (p_X6_readPlaces_L53 (nI N) v4 mm mt mv mx mn ma (nI 0) (nI 0) (nI D) mbl mby kz) n (nI j) = kz) ∨
    (itr3 (p_X1_readPlaces_L62 (nI N) v4 xc la kx) n (nI j) (nI 0) (nI 0) = kx (nI 12) v4 ∧ itr1 (p_X6_readPlaces_L53 (nI N) v4 mm mt mv mx mn ma (nI 0) (nI 0) (nI D) mbl mby kz) n (nI j) = some (nI 0, mm, mt, mv, mx, mn, ma, nI 12, v4, mbl, mby)) := by
  intro m
  induction m with
  | zero =>
    intro n j h1 h2 h3
    have : j = N := by omega
    subst this
    cases n with
    | zero => omega
    | succ n =>
      left
      refine ⟨fun t ht1 ht2 => by omega, ?_, ?_⟩
      · show p_X1_readPlaces_L62 (nI j) v4 xc la kx _ (nI j) (nI 0) (nI 0) = _
        rw [p_X1_readPlaces_L62, if_neg (by rw [ltI (by omega) (by omega)]; omega)]
      · show p_X6_readPlaces_L53 (nI j) v4 mm mt mv mx mn ma (nI 0) (nI 0) (nI D) mbl mby kz _ (nI j) = _
        rw [p_X6_readPlaces_L53, if_neg (by rw [ltI (by omega) (by omega)]; omega)]
  | succ m ih =>
    intro n j h1 h2 h3
    cases n with
    | zero => omega
    | succ n =>
      have hX : itr3 (p_X1_readPlaces_L62 (nI N) v4 xc la kx) (n + 1) (nI j) (nI 0) (nI 0) = p_X1_readPlaces_L62 (nI N) v4 xc la kx (fun a b c => itr3 (p_X1_readPlaces_L62 (nI N) v4 xc la kx) n a b c) (nI j) (nI 0) (nI 0) := rfl
      have hM : itr1 (p_X6_readPlaces_L53 (nI N) v4 mm mt mv mx mn ma (nI 0) (nI 0) (nI D) mbl mby kz) (n + 1) (nI j) = p_X6_readPlaces_L53 (nI N) v4 mm mt mv mx mn ma (nI 0) (nI 0) (nI D) mbl mby kz (fun a => itr1 (p_X6_readPlaces_L53 (nI N) v4 mm mt mv mx mn ma (nI 0) (nI 0) (nI D) mbl mby kz) n a) (nI j) := rfl
      rw [hX, hM, p_X1_readPlaces_L62, p_X6_readPlaces_L53, if_pos (show nI j < nI N by rw [ltI (by omega) (by omega)]; omega), if_pos (show nI j < nI 200 by rw [ltI (by omega) (by omega)]; omega), if_pos (show nI j < nI N by rw [ltI (by omega) (by omega)]; omega), inbI (by omega), gdD (by omega), inbI (by omega), gdD (by omega), ixI (by omega), hk j (by omega), hx, i2lI (by omega), demT, demF, bdS2, bdS2, addI]
      obtain ⟨x, hxlt, hxe⟩ := hiB_nat (hb j (by omega))
      by_cases h : x < D
      · have hl : mn j < lN D := by rw [hxe, ltL (by omega) (by omega)]; exact h
        rw [if_pos hl, if_pos hl]
        rcases ih n (j + 1) (by omega) (by omega) (by omega) with ⟨g1, g2, g3⟩ | ⟨g2, g3⟩
        · refine Or.inl ⟨fun t ht1 ht2 => ?_, g2, g3⟩
          by_cases e : t = j
          · rw [e]; exact ⟨x, h, hxe⟩
          · exact g1 t (by omega) ht2
        · exact Or.inr ⟨g2, g3⟩
      · have hl : ¬ mn j < lN D := by rw [hxe, ltL (by omega) (by omega)]; exact h
        rw [if_neg hl, if_neg hl]
        right
        refine ⟨?_, ?_⟩
        · exact d_L62 (by decide) hN (N - (j + 1)) n (j + 1) rfl (by omega) (by omega)
        · rw [p_X6_fails, bdS3, gdT (by decide)]
theorem wr_40 {f : Nat → Int32} {a : Nat} {l m : List Int32} : wr (wr f a (l40 l)) a (l40 m) = wr f a (l40 m) := by
  funext j
  by_cases h : j < a ∨ a + 40 ≤ j
  · rw [wr_out (by rw [l40_len]; exact h), wr_out (by rw [l40_len]; exact h), wr_out (by rw [l40_len]; exact h)]
  · rw [wr_in (by omega) (by rw [l40_len]; omega), wr_in (by omega) (by rw [l40_len]; omega)]
theorem wfv_of {K : Nat} {q : TV} (h : TVok K q) : wfv K (some q) := ⟨h.1, h.2.1, fun _ => h.2.2⟩
def DicX (D : List TV) (xc : Nat → Int32) (xt : Nat → Nat → Int32) (xn : Nat → Nat → Int64) (xl : Nat → Nat → Int32) : Prop := xc 5 = nI D.length ∧ ∀ (j : Nat) (h : j < D.length), XV xt xn xl 5 j (some D[j])
theorem DicX.fr {D : List TV} {xc xc' : Nat → Int32} {xt xt' : Nat → Nat → Int32} {xn xn' : Nat → Nat → Int64} {xl xl' : Nat → Nat → Int32} (h : DicX D xc xt xn xl) (f : FrX 4 xc xt xn xl xc' xt' xn' xl') : DicX D xc' xt' xn' xl' := by
  obtain ⟨f1, f2, f3, f4⟩ := f 5 (by omega)
  refine ⟨f1.trans h.1, fun j hj => ?_⟩
  obtain ⟨a1, a2, a3⟩ := h.2 j hj
  exact ⟨by rw [f2]; exact a1, by rw [f3]; exact a2, fun k hk => by rw [f4]; exact a3 k hk⟩
theorem MDic.fr {D : List TV} {mm mt : Nat → Int32} {mv : Nat → Int64} {mx : Nat → Int32} {mm' mt' : Nat → Int32} {mv' : Nat → Int64} {mx' : Nat → Int32} {c : Nat} (h : MDic mt mv mx D) (f : FrN c mm mt mv mx mm' mt' mv' mx') (hc : c = 4 ∨ c = 6) (hD : D.length ≤ 200) : MDic mt' mv' mx' D := fun j hj => f.2 _ _ (by omega) (h j hj)
theorem L_copy_L {pre : Nat → AV} {B K N : Nat} {xk : Nat → Int32} {la : Nat → Nat → Int64} {mn : Nat → Int64} {D : List TV} {ssp ma mbl mby : Int32} (hK : xk 4 = nI K) (hK3 : K ≤ 3) (hN : B + N ≤ 200) (hD : D.length ≤ 200) (hDw : ∀ t ∈ D, TVok K t) (hk : Lk 2 N la mn) (hg : ∀ t, t < N → ∃ x, x < D.length ∧ mn t = lN x) : ∀ (m n : Nat) (ts : List TV) (xc : Nat → Int32) (xt : Nat → Nat → Int32) (xn : Nat → Nat → Int64) (xl : Nat → Nat → Int32) (mm mt : Nat → Int32) (mv : Nat → Int64) (mx : Nat → Int32), N - ts.length = m → ts.length ≤ N → m < n → RS pre 4 B 6 K ts xc xt xn xl mm mt mv mx → DicX D xc xt xn xl → MDic mt mv mx D →
    ∃ ts' xc' xt' xn' xl' mm' mt' mv' mx', ts'.length = N ∧ RS pre 4 B 6 K ts' xc' xt' xn' xl' mm' mt' mv' mx' ∧ FrX 4 xc xt xn xl xc' xt' xn' xl' ∧ FrN 6 mm mt mv mx mm' mt' mv' mx' ∧ itr5 (p_X1_readPlaces_L122 (nI N) xk la ssp (nI 0) (nI 0)) n (nI ts.length) xc xt xn xl = some (xc', xt', xn', xl', la, ssp, nI 0, nI 0) ∧ itr5 (p_X6_readPlaces_L93 (nI N) mn ma (nI 0) (nI 0) mbl mby) n (nI ts.length) mm mt mv mx = some (nI 1, mm', mt', mv', mx', mn, ma, nI 0, nI 0, mbl, mby) := by
  have es : p_X4_isSound (nI 0) = some (nI 1) := rfl
  have n1 : ¬ nI 1 = nI 0 := by decide
  intro m
  induction m with
  | zero =>
    intro n ts xc xt xn xl mm mt mv mx h1 h2 h3 hr hdx hdm
    cases n with
    | zero => omega
    | succ n =>
      refine ⟨ts, xc, xt, xn, xl, mm, mt, mv, mx, by omega, hr, FrX.rf, FrN.rf, ?_, ?_⟩
      · show p_X1_readPlaces_L122 (nI N) xk la ssp (nI 0) (nI 0) _ (nI ts.length) xc xt xn xl = _
        rw [p_X1_readPlaces_L122, if_neg (by rw [ltI (by omega) (by omega)]; omega)]
      · show p_X6_readPlaces_L93 (nI N) mn ma (nI 0) (nI 0) mbl mby _ (nI ts.length) mm mt mv mx = _
        rw [p_X6_readPlaces_L93, if_neg (by rw [ltI (by omega) (by omega)]; omega)]
  | succ m ih =>
    intro n ts xc xt xn xl mm mt mv mx h1 h2 h3 hr hdx hdm
    cases n with
    | zero => omega
    | succ n =>
      obtain ⟨x, hx, hxe⟩ := hg ts.length (by omega)
      have ht : TVok K D[x] := hDw _ (List.getElem_mem hx)
      have hr2 := hr.put ht
      have hlen : (ts ++ [D[x]]).length = ts.length + 1 := by simp
      have f1 : FrX 4 xc xt xn xl (up xc 4 (nI (B + ts.length + 1))) (up xt 4 (up (xt 4) (B + ts.length) (nI 1))) (up xn 4 (up (xn 4) (B + ts.length) D[x].1)) (up xl 4 (wr (xl 4) ((B + ts.length) * 40) D[x].2)) := fun d hd => ⟨up_n hd, up_n hd, up_n hd, up_n hd⟩
      have f2 : FrN 6 mm mt mv mx (up mm 6 (nI (ts.length + 1))) (up mt (200 * 6 + ts.length) (nI 1)) (up mv (200 * 6 + ts.length) D[x].1) (wr mx (40 * (200 * 6 + ts.length)) (l40 D[x].2)) := FrN.put (some D[x]) (by omega)
      have hgo := ih n (ts ++ [D[x]]) _ _ _ _ _ _ _ _ (by omega) (by omega) (by omega) hr2 (hdx.fr f1) (hdm.fr f2 (by omega) hD)
      rw [hlen] at hgo
      obtain ⟨ts2, xc2, xt2, xn2, xl2, mm2, mt2, mv2, mx2, r1, r2, r3, r4, r5, r6⟩ := hgo
      refine ⟨ts2, xc2, xt2, xn2, xl2, mm2, mt2, mv2, mx2, r1, r2, f1.tr r3, f2.tr r4, ?_, ?_⟩
      · have ep : p_X0_pushCopy 4 5 (nI x) xk xc xt xn xl = some (up xc 4 (nI (B + ts.length + 1)), up xt 4 (up (xt 4) (B + ts.length) (nI 1)), up xn 4 (up (xn 4) (B + ts.length) D[x].1), up xl 4 (wr (xl 4) ((B + ts.length) * 40) D[x].2)) := by
          unfold p_X0_pushCopy
          rw [hr.1, if_neg (by rw [ltI (by omega) (by omega)]; omega), if_pos (by rw [ltI (by omega) (by omega)]; omega), X_setCopy (a := some D[x]) (by omega) (by omega) hK hK3 (wfv_of ht) (hdx.2 x hx), bdS3, addI]
          rfl
        show p_X1_readPlaces_L122 (nI N) xk la ssp (nI 0) (nI 0) _ (nI ts.length) xc xt xn xl = _
        rw [p_X1_readPlaces_L122, if_pos (by rw [ltI (by omega) (by omega)]; omega), if_pos (by rw [ltI (by omega) (by omega)]; omega), es, bdS1, if_neg n1, inbI (by omega), gdD (by omega), ixI (by omega), hk ts.length (by omega), hxe, l2iL, ep, bdS4, addI]
        exact r5
      · have ec := M_copies (s1 := 200 * 6 + ts.length) (s2 := 1000 + x) (mt := up mt (200 * 6 + ts.length) (nI 1)) (mv := up mv (200 * 6 + ts.length) (lN 0)) (mx := wr mx (40 * (200 * 6 + ts.length)) (l40 [])) (a := some D[x]) (by omega) (by omega) ht.2.1 (MV_wr_n (a := some (lN 0, [])) (by omega) (hdm x hx))
        rw [up_up, up_up, wr_40] at ec
        show p_X6_readPlaces_L93 (nI N) mn ma (nI 0) (nI 0) mbl mby _ (nI ts.length) mm mt mv mx = _
        rw [p_X6_readPlaces_L93, if_pos (by rw [ltI (by omega) (by omega)]; omega), M_adds (by omega) (by omega) hr.2.1 (by omega), bdS5, inbI (by omega), gdD (by omega), ixI (by omega), hxe, l2iL, addI, addI, ec, bdS3, addI]
        exact r6
theorem V_places {pre : Nat → AV} {B K N p e : Nat} {xk xo xc rc : Nat → Int32} {xt : Nat → Nat → Int32} {xn : Nat → Nat → Int64} {xl : Nat → Nat → Int32} {rb : Nat → Nat → Int32} {la : Nat → Nat → Int64} {swd : Nat → Int32} {rpv : Int32} {mf mm mt : Nat → Int32} {mv : Nat → Int64} {mx : Nat → Int32} {mn : Nat → Int64} {mbl mby : Int32} {mw : Nat → Int32} {D : List TV} (hs : Src rb mf e) (hp : p ≤ e) (hK : xk 4 = nI K) (hK3 : K ≤ 3) (hN : B + N ≤ 200) (hD : D.length ≤ 200) (hDw : ∀ t ∈ D, TVok K t) (hdx : DicX D xc xt xn xl) (hdm : MDic mt mv mx D) (hr : RS pre 4 B 6 K [] xc xt xn xl mm mt mv mx) :
    VOut pre B K N p e xk xo rpv la xc xt xn xl mm mt mv mx
      (bd8 (p_X1_readPlaces (nI N) xk xc xt xn xl rb la (some 1) (nI p) (nI e) (nI 0) (nI 0)) fun xc_81 xt_82 xn_83 xl_84 la_85 ssp_86 str_87 stp_88 => p_X1_readData_J169 (nI B) xk xo xc_81 xt_82 xn_83 xl_84 la_85 ssp_86 (nI e) str_87 stp_88 swd rpv)
      (bd11 (p_X6_readPlaces (nI N) mm mt mv mx mf mn (nI p) (nI e) (nI 0) (nI 0) (nI D.length) mbl mby) fun a_54 mm_55 mt_56 mv_57 mx_58 mn_59 ma_60 mb_61 mba_62 mbl_63 mby_64 => gd (isB a_54) <| some (a_54, mm_55, mt_56, mv_57, mx_58, mn_59, ma_60, nI e, mb_61, mba_62, mbl_63, mby_64, mw)) := by
  have n1 : ¬ nI 1 = nI 0 := by decide
  have g0 : isB (nI 0) = true := by decide
  have g1 : isB (nI 1) = true := by decide
  have he := hs.1
  unfold p_X1_readPlaces p_X6_readPlaces
  rcases L_next hs hp with ⟨b, hb, hlt, e1, e2⟩ | ⟨rfl, e1, e2⟩
  · rw [e1, e2, bdS4, bdS4, if_pos (show nI 0 = nI 0 from rfl)]
    by_cases h32 : 32 < b
    · right
      rw [if_pos (show nI 32 < nI b by rw [ltI (by omega) (by omega)]; exact h32), if_pos (show nI 32 < nI b by rw [ltI (by omega) (by omega)]; exact h32), b31, d_J31 (by decide) (by omega), bdS8, d_169 (by decide), p_X6_fails, bdS3, gdT g0, bdS11, gdT g0]
      exact ⟨_, _, _, _, _, _, _, _, _, _, _, _, _, _, _, _, _, _, _, _, by decide, FrX.rf, FrN.rf, rfl, rfl⟩
    · rw [if_neg (show ¬ nI 32 < nI b by rw [ltI (by omega) (by omega)]; exact h32), if_neg (show ¬ nI 32 < nI b by rw [ltI (by omega) (by omega)]; exact h32), p_X1_readPlaces_J31, demT, bdS2]
      rcases L_runs (r := 2) (la := la) (mn := mn) (mbl := mbl) (mby := mby) (w := b) (lim := N) hs (by omega) (by omega) (show p + 1 ≤ e by omega) with ⟨la1, mn1, p2, c, y, r1, r2, r3, r4, r5, r6⟩ | ⟨la1, sx, mn1, sm, d, q, cm, bm, hd, r3, r5, r6⟩
      · have hR := R_runs (by omega) (by omega) r6
        rw [r5, r6, bdS4, bdS7, if_neg n1]
        rcases L_chk_L (N := N) (D := D.length) (v4 := nI (p + 1)) (ma := nI p2) (mbl := c) (mby := y) (xc := xc) (mm := mm) (mt := mt) (mv := mv) (mx := mx) (la := la1) (mn := mn1) (kx := fun str_21 stp_22 => itr5 (p_X1_readPlaces_L122 (nI N) xk la1 (nI p2) str_21 stp_22) fu (nI 0) xc xt xn xl) (kz := itr5 (p_X6_readPlaces_L93 (nI N) mn1 (nI p2) (nI 0) (nI 0) c y) fu (nI 0) mm mt mv mx) r4 (by omega) hdx.1 hD (fun t ht => hiB_mono (hR t ht) (by omega)) N fu 0 (by omega) (by omega) (by rw [fu_eq]; omega) with ⟨k1, k2, k3⟩ | ⟨k2, k3⟩
        · left
          rw [k2, k3]
          obtain ⟨ts, xc2, xt2, xn2, xl2, mm2, mt2, mv2, mx2, u1, u2, u3, u4, u5, u6⟩ := L_copy_L (ssp := nI p2) (ma := nI p2) (mbl := c) (mby := y) hK hK3 hN hD hDw r4 (fun t ht => k1 t (by omega) ht) N fu [] xc xt xn xl mm mt mv mx (by simp) (by simp) (by rw [fu_eq]; omega) hr hdx hdm
          have u5' : itr5 (p_X1_readPlaces_L122 (nI N) xk la1 (nI p2) (nI 0) (nI 0)) fu (nI 0) xc xt xn xl = _ := u5
          have u6' : itr5 (p_X6_readPlaces_L93 (nI N) mn1 (nI p2) (nI 0) (nI 0) c y) fu (nI 0) mm mt mv mx = _ := u6
          rw [u5', u6', bdS8, bdS11, gdT g1]
          exact ⟨ts, p2, xc2, xt2, xn2, xl2, la1, swd, mm2, mt2, mv2, mx2, mn1, c, y, mw, u1, by omega, r2, u2, u3, u4, r3, rfl, rfl⟩
        · right
          rw [k2, k3]
          have e3 : itr5 (p_X1_readPlaces_L122 (nI N) xk la1 (nI p2) (nI 12) (nI (p + 1))) fu (nI 0) xc xt xn xl = _ := d_L122 (by decide)
          rw [e3, bdS8, d_169 (by decide), bdS11, gdT g0]
          exact ⟨_, _, _, _, _, _, _, _, _, _, _, _, _, _, _, _, _, _, _, _, by decide, FrX.rf, FrN.rf, rfl, rfl⟩
      · right
        rw [r5, r6, bdS4, bdS7, if_pos (show nI 0 = nI 0 from rfl), d_L62 hd (by omega) N fu 0 (by omega) (by omega) (by rw [fu_eq]; omega), d_L122 hd, bdS8, d_169 hd, bdS11, gdT g0]
        exact ⟨_, _, _, _, _, _, _, _, _, _, _, _, _, _, _, _, _, _, _, _, hd, FrX.rf, FrN.rf, rfl, rfl⟩
  · right
    rw [e1, e2, bdS4, bdS4, if_neg n1, if_neg (show ¬ nI 32 < nI 0 by decide), d_J31 (by decide) (by omega), bdS8, d_169 (by decide), bdS11, gdT g0]
    exact ⟨_, _, _, _, _, _, _, _, _, _, _, _, _, _, _, _, _, _, _, _, by decide, FrX.rf, FrN.rf, rfl, rfl⟩
