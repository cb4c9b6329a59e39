/-! write -/
theorem Cols.frM {xk xo xc : Nat → Int32} {xt : Nat → Nat → Int32} {xn : Nat → Nat → Int64} {xl : Nat → Nat → Int32} {mk mo mm mt mm' mt' : Nat → Int32} {mv mv' : Nat → Int64} {mx mx' : Nat → Int32} (h : Cols xk xo xc xt xn xl mk mo mm mt mv mx) (h1 : ∀ j, j ≠ 5 → mm' j = mm j) (h2 : MFr 1000 mt mv mx mt' mv' mx') : Cols xk xo xc xt xn xl mk mo mm' mt' mv' mx' := by
  intro c hc
  obtain ⟨K, O, vals, w, x, m⟩ := h c hc
  have hn := w.n
  exact ⟨K, O, vals, w, x, m.oth rfl rfl (h1 c (by omega)) (fun j a hj hv => h2 _ (by omega) a hv)⟩
theorem X_J78 {s0 : Nat} {Z kept l : List Int32} {rc rv : Nat → Int32} {rb : Nat → Nat → Int32} {la : Nat → Nat → Int64} {wch : Nat → Int32} {wcc : Int32} {wpl : Nat → Int32} {wun : Int32} {mf : Nat → Int32} (hk : kept = [] ∨ kept = l) (hs : kept.length = s0) (hb : b8L Z) (hx : XRow rc rb 1 l) (hv : rv 1 = nI 0) (hm : MRow mf (nI l.length) 12000 l) (h : XOut rc rv rb 2 Z) : ∃ r rc' rv' rb', p_X5_write_J78 (nI s0) rc rv rb la wch wcc wpl wun = some (r, rc', rv', rb', la, wch, wcc, wpl, wun) ∧ (r, wr mf s0 Z, nI (s0 + Z.length)) = (r, wr mf s0 Z, nI (s0 + Z.length)) ∧ (if 12000 < s0 + Z.length then r = (-3 : Int32) ∧ Filed rc' rv' rb' mf (nI l.length) else r = nI (s0 + Z.length) ∧ Filed rc' rv' rb' (wr mf s0 Z) (nI (s0 + Z.length))) ∧ FrR 1 rc rv rb rc' rv' rb' := by
  have hl : l.length ≤ 12000 := hm.2.1
  have hsl : s0 ≤ l.length := by
    rcases hk with e | e
    · rw [← hs, e]; exact Nat.zero_le _
    · rw [← hs, e]; exact Nat.le_refl _
  have r2 : rlen 2 = 12000 := rfl
  have r1 : rlen 1 = 12000 := rfl
  rw [p_X5_write_J78]
  rcases h with ⟨h1, h2, h3, h4⟩ | ⟨h1, h2, _⟩
  · rw [if_pos h3, h2, addI]
    by_cases hf : 12000 < s0 + Z.length
    · rw [if_pos (by rw [ltI (by omega) (by omega)]; exact hf)]
      exact ⟨_, _, _, _, rfl, rfl, by rw [if_pos hf]; exact ⟨rfl, ⟨l, hx, hm⟩, hv⟩, FrR.rf⟩
    · have es : p_X3_shorten 1 (nI s0) rc = some (up rc 1 (nI s0)) := by
        unfold p_X3_shorten
        rw [hx.1, iminI (by omega) (by omega), imaxI (by omega) (by omega)]
        congr 2
        rw [show max 0 (min s0 l.length) = s0 by omega]
      have hkb : b8L kept := by
        rcases hk with e | e
        · rw [e]; exact b8L_nil
        · rw [e]; exact hx.2.2.1
      have hks : ∀ (k : Nat) (h : k < kept.length) , ∃ h2 : k < l.length, kept[k] = l[k] := by
        intro k hkk
        rcases hk with e | e
        · subst e; simp at hkk
        · subst e; exact ⟨hkk, rfl⟩
      have hko : XOut (up rc 1 (nI s0)) rv rb 1 kept := Or.inl ⟨by omega, by rw [up_s, hs], hv, fun k hkk => by
        obtain ⟨q1, q2⟩ := hks k hkk
        rw [q2]
        exact hx.2.2.2 k q1⟩
      have hzo : XOut (up rc 1 (nI s0)) rv rb 2 Z := Or.inl ⟨h1, by rw [up_n (by omega)]; exact h2, h3, h4⟩
      obtain ⟨rc1, rv1, rb1, e1, g1, f1⟩ := X_append (d := 1) (s := 2) (by omega) rfl hb hzo hko
      have hlen : (kept ++ Z).length = s0 + Z.length := by rw [List.length_append, hs]
      obtain ⟨q1, q2⟩ := g1.row (by omega) (hkb.app hb)
      rw [if_neg (by rw [ltI (by omega) (by omega)]; exact hf), es, bdS1, e1, bdS3]
      refine ⟨_, _, _, _, rfl, rfl, ?_, fun q hq => ⟨(f1 q hq).1.trans (up_n hq), (f1 q hq).2⟩⟩
      rw [if_neg hf]
      refine ⟨by rw [q1.1, hlen], ⟨⟨kept ++ Z, q1, by rw [hlen], by rw [hlen]; omega, fun k hkk => ?_⟩, q2⟩⟩
      by_cases hkk2 : k < kept.length
      · obtain ⟨q3, q4⟩ := hks k hkk2
        rw [wr_out (by omega), List.getElem_append_left hkk2, q4]
        exact hm.2.2 k q3
      · rw [hlen] at hkk
        rw [wr_in (by omega) (by omega), List.getElem_append_right (by omega)]
        congr 1
        omega
  · rw [if_neg (by rw [h2]; decide)]
    exact ⟨_, _, _, _, rfl, rfl, by rw [if_pos (by omega)]; exact ⟨rfl, ⟨l, hx, hm⟩, hv⟩, FrR.rf⟩
theorem sim_write {xk xo xc : Nat → Int32} {xt : Nat → Nat → Int32} {xn : Nat → Nat → Int64} {xl : Nat → Nat → Int32} {rc rv : Nat → Int32} {rb : Nat → Nat → Int32} {mk mo mm mt : Nat → Int32} {mv : Nat → Int64} {mx mf : Nat → Int32} {ms : Int32} (h : Cols xk xo xc xt xn xl mk mo mm mt mv mx) (hfl : Filed rc rv rb mf ms) (v1 v2 v3 v4 : Int32) (la : Nat → Nat → Int64) (wch : Nat → Int32) (wcc : Int32) (wpl : Nat → Int32) (wun : Int32) (md : Nat → Int32) (mdd : Int32) (mn mst : Nat → Int64) (mpl mbb : Nat → Int32) :
    ∃ r rc' rv' rb' la' wch' wcc' wpl' wun' mm' mt' mv' mx' mf' ms' md' mdd' mn' mst' mpl' mbb', p_X5_write v1 v2 v3 v4 xk xo xc xt xn xl rc rv rb la wch wcc wpl wun = some (r, rc', rv', rb', la', wch', wcc', wpl', wun') ∧ p_X6_write v1 v2 v3 v4 mk mo mm mt mv mx mf ms md mdd mn mst mpl mbb = some (r, mm', mt', mv', mx', mf', ms', md', mdd', mn', mst', mpl', mbb') ∧ Cols xk xo xc xt xn xl mk mo mm' mt' mv' mx' ∧ Filed rc' rv' rb' mf' ms' ∧ rc' 0 = rc 0 ∧ rv' 0 = rv 0 ∧ rb' 0 = rb 0 := by
  have hbad : ∃ r rc' rv' rb' la' wch' wcc' wpl' wun' mm' mt' mv' mx' mf' ms' md' mdd' mn' mst' mpl' mbb', (some ((-1 : Int32), rc, rv, rb, la, wch, wcc, wpl, wun) : Option (Int32 × (Nat → Int32) × (Nat → Int32) × (Nat → Nat → Int32) × (Nat → Nat → Int64) × (Nat → Int32) × Int32 × (Nat → Int32) × Int32)) = some (r, rc', rv', rb', la', wch', wcc', wpl', wun') ∧ (some ((-1 : Int32), mm, mt, mv, mx, mf, ms, md, mdd, mn, mst, mpl, mbb) : Option WR) = some (r, mm', mt', mv', mx', mf', ms', md', mdd', mn', mst', mpl', mbb') ∧ Cols xk xo xc xt xn xl mk mo mm' mt' mv' mx' ∧ Filed rc' rv' rb' mf' ms' ∧ rc' 0 = rc 0 ∧ rv' 0 = rv 0 ∧ rb' 0 = rb 0 :=
    ⟨_, _, _, _, _, _, _, _, _, _, _, _, _, _, _, _, _, _, _, _, _, rfl, rfl, h, hfl, rfl, rfl, rfl⟩
  unfold p_X5_write p_X6_write
  rcases colAt v1 with ⟨c, hc, rfl, e1, e2⟩ | ⟨e1, e2⟩
  · obtain ⟨K, O, vals, w, x, m⟩ := h c hc
    have hK3 := w.k
    have hn := w.n
    rw [e1, e2, bdS1, bdS1, moS, gdD (by omega), if_neg (show ¬ nI 1 = nI 0 by decide)]
    rcases splitI v2 with hneg | ⟨way, hway, rfl⟩
    · rw [if_pos hneg, M_in_neg hneg 0 _ (by omega), bdS1, if_pos rfl]
      exact hbad
    · rw [if_neg (show ¬ nI way < nI 0 by rw [ltI (by omega) (by omega)]; omega), M_in_nat (by omega) (by omega) (by omega), bdS1]
      by_cases hw2 : way ≤ 2
      · rw [if_neg (show ¬ nI 2 < nI way by rw [ltI (by omega) (by omega)]; omega), if_pos (show 0 ≤ way ∧ way ≤ 2 by omega), if_neg (show ¬ nI 1 = nI 0 by decide), inbI (by omega), gdD (by omega), ixI (by omega), x.k, m.k]
        -- a bad count of values for each page
        have badq : ¬ (∃ q, q < 2 ^ 31 ∧ v3 = nI q ∧ 1 ≤ q ∧ q ≤ 200) → p_X6_in (i2l v3) (lN 1) (lN 200) = some (nI 0) ∧ (v3 < nI 1 ∨ nI 200 < v3) := by
          intro hq
          rcases splitI v3 with hneg | ⟨q, hq3, rfl⟩
          · exact ⟨M_in_neg hneg 1 _ (by omega), Or.inl (Int32.lt_trans hneg (by decide))⟩
          · have hno : ¬ (1 ≤ q ∧ q ≤ 200) := fun hh => hq ⟨q, hq3, rfl, hh.1, hh.2⟩
            refine ⟨by rw [M_in_nat (by omega) (by omega) (by omega), if_neg hno], ?_⟩
            rw [ltI (by omega) (by omega), ltI (by omega) (by omega)]
            omega
        by_cases hq : ∃ q, q < 2 ^ 31 ∧ v3 = nI q ∧ 1 ≤ q ∧ q ≤ 200
        · obtain ⟨q, hq3, rfl, hq1, hq2⟩ := hq
          rw [if_neg (show ¬ nI q < nI 1 by rw [ltI (by omega) (by omega)]; omega), if_neg (show ¬ nI 200 < nI q by rw [ltI (by omega) (by omega)]; omega)]
          have main : (way = 1 → K ≠ 3) → ∃ r rc' rv' rb' la' wch' wcc' wpl' wun' mm' mt' mv' mx' mf' ms' md' mdd' mn' mst' mpl' mbb', p_X5_write_J51 (nI way) (nI q) v4 c xk xo xc xt xn xl rc rv rb la wch wcc wpl wun = some (r, rc', rv', rb', la', wch', wcc', wpl', wun') ∧ p_X6_write_J34 (nI c) (nI way) (nI q) v4 mk mo mm mt mv mx mf ms md mdd mn mst mpl mbb = some (r, mm', mt', mv', mx', mf', ms', md', mdd', mn', mst', mpl', mbb') ∧ Cols xk xo xc xt xn xl mk mo mm' mt' mv' mx' ∧ Filed rc' rv' rb' mf' ms' ∧ rc' 0 = rc 0 ∧ rv' 0 = rv 0 ∧ rb' 0 = rb 0 := by
            intro h13
            obtain ⟨⟨l, hx, hm⟩, hv⟩ := hfl
            have hl : l.length ≤ 12000 := hm.2.1
            have hmt := hm.1
            subst hmt
            obtain ⟨rc1, rv1, rb1, la1, wch1, wcc1, wpl1, wun1, eX, gX, fX⟩ := X_writePages (way := way) (q := q) (wch := wch) (wcc := wcc) (wpl := wpl) (wun := wun) (la := la) (rc := rc) (rv := rv) (rb := rb) hn x.n x.k hK3 x.o w.o x.v w.w hw2 hq1 hq2 h13
            obtain ⟨f1, f2, f3⟩ := fX 1 (by omega) (by omega)
            obtain ⟨f4, f5, f6⟩ := fX 0 (by omega) (by omega)
            have hx1 : XRow rc1 rb1 1 l := ⟨by rw [f1]; exact hx.1, hx.2.1, hx.2.2.1, fun k hk => by rw [f3]; exact hx.2.2.2 k hk⟩
            have hv1 : rv1 1 = nI 0 := f2.trans hv
            obtain ⟨mm', mt', mv', mx', md', mdd', mn', mst', mpl', mbb', eM, gm, gf⟩ := M_write_J34 (s0 := if v4 = nI 0 then 0 else l.length) (S := l.length) (ap := v4) (mf := mf) (md := md) (mdd := mdd) (mn := mn) (mst := mst) (mpl := mpl) (mbb := mbb) (show c < 5 by omega) hn m.n m.k hK3 m.o w.o m.v w.w hw2 hq1 hq2 h13 hl rfl
            have hbz := b8L_write (K := K) (O := O) (way := way) (q := q) w.w
            have hJ : ∃ r rc' rv' rb', p_X5_write_J78 (nI (if v4 = nI 0 then 0 else l.length)) rc1 rv1 rb1 la1 wch1 wcc1 wpl1 wun1 = some (r, rc', rv', rb', la1, wch1, wcc1, wpl1, wun1) ∧ (if 12000 < (if v4 = nI 0 then 0 else l.length) + (writeB K O vals way q).length then r = (-3 : Int32) ∧ Filed rc' rv' rb' mf (nI l.length) else r = nI ((if v4 = nI 0 then 0 else l.length) + (writeB K O vals way q).length) ∧ Filed rc' rv' rb' (wr mf (if v4 = nI 0 then 0 else l.length) (writeB K O vals way q)) (nI ((if v4 = nI 0 then 0 else l.length) + (writeB K O vals way q).length))) ∧ FrR 1 rc1 rv1 rb1 rc' rv' rb' := by
              by_cases hap : v4 = nI 0
              · rw [if_pos hap]
                obtain ⟨r, a, b, d, j1, _, j2, j3⟩ := X_J78 (kept := []) (la := la1) (wch := wch1) (wcc := wcc1) (wpl := wpl1) (wun := wun1) (Or.inl rfl) rfl hbz hx1 hv1 hm gX
                exact ⟨r, a, b, d, j1, j2, j3⟩
              · rw [if_neg hap]
                obtain ⟨r, a, b, d, j1, _, j2, j3⟩ := X_J78 (kept := l) (la := la1) (wch := wch1) (wcc := wcc1) (wpl := wpl1) (wun := wun1) (Or.inr rfl) rfl hbz hx1 hv1 hm gX
                exact ⟨r, a, b, d, j1, j2, j3⟩
            obtain ⟨r, rc2, rv2, rb2, j1, j2, j3⟩ := hJ
            have eX2 : p_X5_write_J51 (nI way) (nI q) v4 c xk xo xc xt xn xl rc rv rb la wch wcc wpl wun = some (r, rc2, rv2, rb2, la1, wch1, wcc1, wpl1, wun1) := by
              rw [p_X5_write_J51, eX, bdS8]
              by_cases hap : v4 = nI 0
              · rw [if_pos hap] at j1
                rw [if_pos hap]
                exact j1
              · rw [if_neg hap] at j1
                rw [if_neg hap, hx1.1]
                exact j1
            have hfr : rc2 0 = rc 0 ∧ rv2 0 = rv 0 ∧ rb2 0 = rb 0 := ⟨(j3 0 (by omega)).1.trans f4, (j3 0 (by omega)).2.1.trans f5, (j3 0 (by omega)).2.2.trans f6⟩
            rw [eX2, eM]
            by_cases hf : 12000 < (if v4 = nI 0 then 0 else l.length) + (writeB K O vals way q).length
            · rw [if_pos hf] at j2 ⊢
              obtain ⟨k1, k2⟩ := j2
              rw [k1]
              exact ⟨_, _, _, _, _, _, _, _, _, _, _, _, _, _, _, _, _, _, _, _, _, rfl, rfl, h.frM gm gf, k2, hfr⟩
            · rw [if_neg hf] at j2 ⊢
              obtain ⟨k1, k2⟩ := j2
              rw [k1]
              exact ⟨_, _, _, _, _, _, _, _, _, _, _, _, _, _, _, _, _, _, _, _, _, rfl, rfl, h.frM gm gf, k2, hfr⟩
          by_cases w1 : way = 1
          · rw [if_pos (show nI way = nI 1 by rw [w1]), if_pos (show nI way = nI 1 by rw [w1])]
            by_cases k3 : K = 3
            · rw [if_pos (show nI K = nI 3 by rw [k3]), if_pos (show nI K = nI 3 by rw [k3])]
              exact hbad
            · rw [if_neg (show ¬ nI K = nI 3 by rw [eqI (by omega) (by omega)]; exact k3), if_neg (show ¬ nI K = nI 3 by rw [eqI (by omega) (by omega)]; exact k3)]
              exact main (fun _ => k3)
          · rw [if_neg (show ¬ nI way = nI 1 by rw [eqI (by omega) (by omega)]; exact w1), if_neg (show ¬ nI way = nI 1 by rw [eqI (by omega) (by omega)]; exact w1)]
            exact main (fun hh => absurd hh w1)
        · obtain ⟨b1, b2⟩ := badq hq
          have eM : p_X6_write_J34 (nI c) (nI way) v3 v4 mk mo mm mt mv mx mf ms md mdd mn mst mpl mbb = some ((-1 : Int32), mm, mt, mv, mx, mf, ms, md, mdd, mn, mst, mpl, mbb) := by
            rw [p_X6_write_J34, b1, bdS1, if_pos rfl]
          have hM : ∃ X, X = some ((-1 : Int32), mm, mt, mv, mx, mf, ms, md, mdd, mn, mst, mpl, mbb) ∧ (if nI way = nI 1 then (if nI K = nI 3 then some ((-1 : Int32), mm, mt, mv, mx, mf, ms, md, mdd, mn, mst, mpl, mbb) else p_X6_write_J34 (nI c) (nI way) v3 v4 mk mo mm mt mv mx mf ms md mdd mn mst mpl mbb) else p_X6_write_J34 (nI c) (nI way) v3 v4 mk mo mm mt mv mx mf ms md mdd mn mst mpl mbb) = X := by
            refine ⟨_, ?_, rfl⟩
            rw [eM]
            split
            · split <;> rfl
            · rfl
          obtain ⟨X, hX1, hX2⟩ := hM
          rw [hX2, hX1]
          by_cases b3 : v3 < nI 1
          · rw [if_pos b3]
            exact hbad
          · rw [if_neg b3, if_pos (b2.resolve_left b3)]
            exact hbad
      · rw [if_pos (show nI 2 < nI way by rw [ltI (by omega) (by omega)]; omega), if_neg (show ¬ (0 ≤ way ∧ way ≤ 2) by omega), if_pos rfl]
        exact hbad
  · rw [e1, e2, bdS1, bdS1, moN, if_pos rfl]
    exact hbad
