/-- a page's plain values -/
theorem L_plainv_L {pre : Nat → AV} {B K N e S : Nat} {xk rc : Nat → Int32} {rb : Nat → Nat → Int32} {la : Nat → Nat → Int64} {mf : Nat → Int32} {mn : Nat → Int64} {mbl mby : Int32} {mw : Nat → Int32} (hs : Src rb mf e) (hS : rc 1 = nI S) (heS : e ≤ S) (hS2 : S ≤ 12000) (hK : xk 4 = nI K) (hK3 : K < 3) (hN : B + N ≤ 200) : ∀ (m n p : Nat) (ts : List TV) (xc : Nat → Int32) (xt : Nat → Nat → Int32) (xn : Nat → Nat → Int64) (xl : Nat → Nat → Int32) (mm mt : Nat → Int32) (mv : Nat → Int64) (mx : Nat → Int32), N - ts.length = m → ts.length ≤ N → m + 1 < n → p ≤ e → RS pre 4 B 6 K ts xc xt xn xl mm mt mv mx →
    (∃ ts' p' xc' xt' xn' xl' mm' mt' mv' mx', ts'.length = N ∧ p ≤ p' ∧ p' ≤ e ∧ RS pre 4 B 6 K ts' xc' xt' xn' xl' mm' mt' mv' mx' ∧ FrX 4 xc xt xn xl xc' xt' xn' xl' ∧ FrN 6 mm mt mv mx mm' mt' mv' mx' ∧ itr8 (p_X1_readPlain_L37 4 (nI N) xk rc rb la (some 1) (nI e)) n (nI ts.length) xc xt xn xl (nI p) (nI 0) (nI 0) = some (xc', xt', xn', xl', la, nI p', nI 0, nI 0) ∧ itr9 (p_X6_readValues_L84 (nI K) (nI N) mf mn (nI e) mbl mby mw) n (nI 1) (nI ts.length) mm mt mv mx (nI p) (nI 0) (nI 0) = some (nI 1, mm', mt', mv', mx', mn, nI p', nI e, nI 0, nI 0, mbl, mby, mw)) ∨
    (∃ xc' xt' xn' xl' sx mm' mt' mv' mx' sm d q, d ≠ nI 0 ∧ FrX 4 xc xt xn xl xc' xt' xn' xl' ∧ FrN 6 mm mt mv mx mm' mt' mv' mx' ∧ itr8 (p_X1_readPlain_L37 4 (nI N) xk rc rb la (some 1) (nI e)) n (nI ts.length) xc xt xn xl (nI p) (nI 0) (nI 0) = some (xc', xt', xn', xl', la, sx, d, q) ∧ itr9 (p_X6_readValues_L84 (nI K) (nI N) mf mn (nI e) mbl mby mw) n (nI 1) (nI ts.length) mm mt mv mx (nI p) (nI 0) (nI 0) = some (nI 0, mm', mt', mv', mx', mn, sm, nI e, d, q, mbl, mby, mw)) := by
  have b1 : isB (nI 1) = true := by decide
  have b0 : isB (nI 0) = true := by decide
  intro m
  induction m with
  | zero =>
    intro n p ts xc xt xn xl mm mt mv mx h1 h2 h3 hp hr
    cases n with
    | zero => omega
    | succ n =>
      left
      refine ⟨ts, p, xc, xt, xn, xl, mm, mt, mv, mx, by omega, by omega, hp, hr, FrX.rf, FrN.rf, ?_, ?_⟩
      · show p_X1_readPlain_L37 4 (nI N) xk rc rb la (some 1) (nI e) _ (nI ts.length) xc xt xn xl (nI p) (nI 0) (nI 0) = _
        rw [p_X1_readPlain_L37, if_neg (by rw [ltI (by omega) (by omega)]; omega)]
      · show p_X6_readValues_L84 (nI K) (nI N) mf mn (nI e) mbl mby mw _ (nI 1) (nI ts.length) mm mt mv mx (nI p) (nI 0) (nI 0) = _
        rw [p_X6_readValues_L84, if_neg (by rw [ltI (by omega) (by omega)]; omega), gdT b1]
  | succ m ih =>
    intro n p ts xc xt xn xl mm mt mv mx h1 h2 h3 hp hr
    cases n with
    | zero => omega
    | succ n =>
      cases n with
      | zero => omega
      | succ n =>
        have hM : itr9 (p_X6_readValues_L84 (nI K) (nI N) mf mn (nI e) mbl mby mw) (n + 1 + 1) (nI 1) (nI ts.length) mm mt mv mx (nI p) (nI 0) (nI 0) = p_X6_readValues_L84 (nI K) (nI N) mf mn (nI e) mbl mby mw (fun a b c d f g h i j => itr9 (p_X6_readValues_L84 (nI K) (nI N) mf mn (nI e) mbl mby mw) (n + 1) a b c d f g h i j) (nI 1) (nI ts.length) mm mt mv mx (nI p) (nI 0) (nI 0) := rfl
        rw [hM, p_X6_readValues_L84, if_pos (show nI ts.length < nI N by rw [ltI (by omega) (by omega)]; omega), if_neg (show ¬ nI 1 = nI 0 by decide), addI]
        rcases L_plain1 (cx := 4) (cm := 6) (K := K) (N := N) (j := ts.length) (n := n) (la := la) hs hS heS hS2 hp hK hK3 (B := B + ts.length) (Bm := ts.length) hr.1 (by omega) (by omega) hr.2.1 (by omega) (by omega) (by omega) with ⟨t, p1, q1, q2, q3, q4, q5⟩ | ⟨xc1, xt1, xn1, xl1, sx, sm, d, q, hd, q3, q4, q5⟩
        · have hr2 := hr.put q3
          have hlen : (ts ++ [t]).length = ts.length + 1 := by simp
          have hgo := ih (n + 1) p1 (ts ++ [t]) _ _ _ _ _ _ _ _ (by omega) (by omega) (by omega) q2 hr2
          rw [hlen] at hgo
          have f1 : FrX 4 xc xt xn xl (up xc 4 (nI (B + ts.length + 1))) (up xt 4 (up (xt 4) (B + ts.length) (nI 1))) (up xn 4 (up (xn 4) (B + ts.length) t.1)) (up xl 4 (wr (xl 4) ((B + ts.length) * 40) t.2)) := fun d hd => ⟨up_n hd, up_n hd, up_n hd, up_n hd⟩
          have f2 : FrN 6 mm mt mv mx (up mm 6 (nI (ts.length + 1))) (up mt (200 * 6 + ts.length) (nI 1)) (up mv (200 * 6 + ts.length) t.1) (wr mx (40 * (200 * 6 + ts.length)) (l40 t.2)) := FrN.put (some t) (by omega)
          rw [q5, bdS8]
          rcases hgo with ⟨ts2, p2, xc2, xt2, xn2, xl2, mm2, mt2, mv2, mx2, r1, r2, r3, r4, r5, r6, r7, r8⟩ | ⟨xc2, xt2, xn2, xl2, sx, mm2, mt2, mv2, mx2, sm, d, q, hd, r5, r6, r7, r8⟩
          · exact Or.inl ⟨ts2, p2, xc2, xt2, xn2, xl2, mm2, mt2, mv2, mx2, r1, by omega, r3, r4, f1.tr r5, f2.tr r6, q4.trans r7, r8⟩
          · exact Or.inr ⟨xc2, xt2, xn2, xl2, sx, mm2, mt2, mv2, mx2, sm, d, q, hd, f1.tr r5, f2.tr r6, q4.trans r7, r8⟩
        · rw [q5, bdS8]
          right
          refine ⟨xc1, xt1, xn1, xl1, sx, mm, mt, mv, mx, sm, d, q, hd, q3, FrN.rf, q4, ?_⟩
          show p_X6_readValues_L84 (nI K) (nI N) mf mn (nI e) mbl mby mw _ (nI 0) (nI (ts.length + 1)) mm mt mv mx sm d q = _
          rw [p_X6_readValues_L84, if_pos (show nI 0 = nI 0 from rfl), gdT b0, ite_self]
/-- numbers gathered before, put into the column -/
theorem L_push_L {pre : Nat → AV} {B K N : Nat} {xk : Nat → Int32} {la : Nat → Nat → Int64} {mn : Nat → Int64} {ma me mbl mby : Int32} {mw : Nat → Int32} (hK : xk 4 = nI K) (hK3 : K ≤ 3) (hK2 : K ≠ 2) (hN : B + N ≤ 200) (hk : Lk 2 N la mn) (hv : ∀ j, j < N → nvB K (mn j) = mn j) : ∀ (m n : Nat) (ts : List TV) (xc : Nat → Int32) (xt : Nat → Nat → Int32) (xn : Nat → Nat → Int64) (xl : Nat → Nat → Int32) (mm mt : Nat → Int32) (mv : Nat → Int64) (mx : Nat → Int32), N - ts.length = m → ts.length ≤ N → m + 1 < n → RS pre 4 B 6 K ts xc xt xn xl mm mt mv mx →
    ∃ ts' xc' xt' xn' mm' mt' mv' mx' xl', ts'.length = N ∧ RS pre 4 B 6 K ts' xc' xt' xn' xl' mm' mt' mv' mx' ∧ xl' = xl ∧ FrX 4 xc xt xn xl xc' xt' xn' xl' ∧ FrN 6 mm mt mv mx mm' mt' mv' mx' ∧ itr4 (p_X1_pushNumbers_L2 (nI N) xk la (nI 0)) n (nI ts.length) xc xt xn = some (xc', xt', xn') ∧ itr5 (p_X6_readValues_L143 (nI N) mn ma me (nI 0) (nI 0) mbl mby mw) n (nI ts.length) mm mt mv mx = some (nI 1, mm', mt', mv', mx', mn, ma, me, nI 0, nI 0, mbl, mby, mw) := by
  have es : p_X4_isSound (nI 0) = some (nI 1) := rfl
  intro m
  induction m with
  | zero =>
    intro n ts xc xt xn xl mm mt mv mx h1 h2 h3 hr
    cases n with
    | zero => omega
    | succ n =>
      refine ⟨ts, xc, xt, xn, mm, mt, mv, mx, xl, by omega, hr, rfl, FrX.rf, FrN.rf, ?_, ?_⟩
      · show p_X1_pushNumbers_L2 (nI N) xk la (nI 0) _ (nI ts.length) xc xt xn = _
        rw [p_X1_pushNumbers_L2, if_neg (by rw [ltI (by omega) (by omega)]; omega)]
      · show p_X6_readValues_L143 (nI N) mn ma me (nI 0) (nI 0) mbl mby mw _ (nI ts.length) mm mt mv mx = _
        rw [p_X6_readValues_L143, if_neg (by rw [ltI (by omega) (by omega)]; omega)]
  | succ m ih =>
    intro n ts xc xt xn xl mm mt mv mx h1 h2 h3 hr
    cases n with
    | zero => omega
    | succ n =>
      have ht : TVok K (mn ts.length, []) := ⟨by simp, b8L_nil, by rw [if_neg hK2]⟩
      have hr2 := hr.put ht
      have hlen : (ts ++ [(mn ts.length, ([] : List Int32))]).length = ts.length + 1 := by simp
      obtain ⟨ts2, xc2, xt2, xn2, mm2, mt2, mv2, mx2, xl2, r1, r2, r3, r4, r5, r6, r7⟩ := ih n (ts ++ [(mn ts.length, [])]) _ _ _ _ _ _ _ _ (by omega) (by omega) (by omega) hr2
      rw [hlen] at r6 r7
      have exl : up xl 4 (wr (xl 4) ((B + ts.length) * 40) (mn ts.length, ([] : List Int32)).2) = xl := by rw [wr_nil, up_id]
      have f1 : FrX 4 xc xt xn xl (up xc 4 (nI (B + ts.length + 1))) (up xt 4 (up (xt 4) (B + ts.length) (nI 1))) (up xn 4 (up (xn 4) (B + ts.length) (mn ts.length))) (up xl 4 (wr (xl 4) ((B + ts.length) * 40) (mn ts.length, ([] : List Int32)).2)) := fun d hd => ⟨up_n hd, up_n hd, up_n hd, up_n hd⟩
      have f2 : FrN 6 mm mt mv mx (up mm 6 (nI (ts.length + 1))) (up mt (200 * 6 + ts.length) (nI 1)) (up mv (200 * 6 + ts.length) (mn ts.length)) (wr mx (40 * (200 * 6 + ts.length)) (l40 [])) := FrN.put (some (mn ts.length, [])) (by omega)
      refine ⟨ts2, xc2, xt2, xn2, mm2, mt2, mv2, mx2, xl2, r1, r2, r3.trans exl, f1.tr r4, f2.tr r5, ?_, ?_⟩
      · show p_X1_pushNumbers_L2 (nI N) xk la (nI 0) _ (nI ts.length) xc xt xn = _
        rw [p_X1_pushNumbers_L2, if_pos (by rw [ltI (by omega) (by omega)]; omega), if_pos (by rw [ltI (by omega) (by omega)]; omega), es, bdS1, if_neg (show ¬ nI 1 = nI 0 by decide), inbI (by omega), gdD (by omega), ixI (by omega), hk ts.length (by omega), X_pushNumber hK hK3 hr.1 (by omega), bdS3, addI, hv ts.length (by omega)]
        exact r6
      · show p_X6_readValues_L143 (nI N) mn ma me (nI 0) (nI 0) mbl mby mw _ (nI ts.length) mm mt mv mx = _
        rw [p_X6_readValues_L143, if_pos (by rw [ltI (by omega) (by omega)]; omega), inbI (by omega), gdD (by omega), ixI (by omega)]
        unfold p_X6_reads
        rw [M_adds (by omega) (by omega) hr.2.1 (by omega), bdS5, bdS4, addI]
        exact r7
