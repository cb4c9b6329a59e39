/-! read, on both sides -/
theorem sim_read {xk xo xc : Nat → Int32} {xt : Nat → Nat → Int32} {xn : Nat → Nat → Int64} {xl : Nat → Nat → Int32} {rc rv : Nat → Int32} {rb : Nat → Nat → Int32} {la : Nat → Nat → Int64} {srow : Option Nat} {ssp sen str stp : Int32} {swd : Nat → Int32} {rwp rdr rpd rpv rpc rzp : Int32} {mk mo mm mt : Nat → Int32} {mv : Nat → Int64} {mx mf : Nat → Int32} {ms : Int32} {mn : Nat → Int64} {ma me mb mba mpg mdi mbl mby : Int32} {mw : Nat → Int32} {mz mso mbo mco mcd : Int32} {ml : Nat → Int32} {mr : Int32} (h : Cols xk xo xc xt xn xl mk mo mm mt mv mx) (hf : Filed rc rv rb mf ms) (hflt : FltR xc str stp rwp mr mb mba mpg mdi) (v1 : Int32) :
    ∃ r xk' xo' xc' xt' xn' xl' la' srow' ssp' sen' str' stp' swd' rwp' rdr' rpd' rpv' rpc' rzp' mm' mt' mv' mx' mn' ma' me' mb' mba' mpg' mdi' mbl' mby' mw' mz' mso' mbo' mco' mcd' ml' mr', p_X5_read v1 xk xo xc xt xn xl rc rb la srow ssp sen str stp swd rwp rdr rpd rpv rpc rzp = some (r, xk', xo', xc', xt', xn', xl', la', srow', ssp', sen', str', stp', swd', rwp', rdr', rpd', rpv', rpc', rzp') ∧ p_X6_read v1 mk mo mm mt mv mx mf ms mn ma me mb mba mpg mdi mbl mby mw mz mso mbo mco mcd ml mr = some (r, mm', mt', mv', mx', mn', ma', me', mb', mba', mpg', mdi', mbl', mby', mw', mz', mso', mbo', mco', mcd', ml', mr') ∧ Cols xk' xo' xc' xt' xn' xl' mk mo mm' mt' mv' mx' ∧ FltR xc' str' stp' rwp' mr' mb' mba' mpg' mdi' := by
  have n1 : ¬ nI 1 = nI 0 := by decide
  have es : p_X4_isSound (nI 0) = some (nI 1) := rfl
  have g0 : isB (nI 0) = true := by decide
  unfold p_X5_read p_X6_read
  rcases colAt v1 with ⟨c, hc, rfl, e1, e2⟩ | ⟨e1, e2⟩
  · rw [e1, e2, bdS1, bdS1, moS, gdD (by omega), if_neg n1, gdT (by decide), gdT (by decide), show ix (nI 4) = 4 from rfl, show ix (nI 5) = 5 from rfl]
    obtain ⟨K, O, vals, w, x, mc⟩ := h c hc
    obtain ⟨⟨l, hxr, hmr⟩, hrv⟩ := hf
    have hl12 : l.length ≤ 12000 := hmr.2.1
    have hs : Src rb mf l.length := ⟨hl12, fun k hk => by rw [hxr.2.2.2 k hk, hmr.2.2 k hk]⟩
    have hOb : isB (nI O) = true := isB_n w.o
    unfold p_X1_readPages p_X4_begin p_X0_begin
    rw [bdS5, x.o, gdT hOb, bdS3, gdT g0, bdS3, x.k, hxr.1, hmr.1]
    have hK4 : up (up xk 4 (nI K)) 5 (nI K) 4 = nI K := by rw [up_n (by omega), up_s]
    have hO4 : up (up xo 4 (nI O)) 5 (nI 0) 4 = nI O := by rw [up_n (by omega), up_s]
    have hst : PgS K 0 (fun _ => none) 0 (-1 : Int32) (up (up xc 4 (nI 0)) 5 (nI 0)) xt xn xl (up (up mm 4 (nI 0)) 5 (nI 0)) mt mv mx := ⟨by omega, fun _ => wfv_none, by rw [up_n (by omega), up_s], fun t ht => by omega, by rw [up_n (by omega), up_s], fun t ht => by omega, Or.inl ⟨rfl, up_s, rfl⟩, fun _ => up_s⟩
    have hoX : F4X xc xt xn xl (up (up xc 4 (nI 0)) 5 (nI 0)) xt xn xl := fun d hd => ⟨by rw [up_n (by omega), up_n (by omega)], rfl, rfl, rfl⟩
    have hoM : F4M mm mt mv mx (up (up mm 4 (nI 0)) 5 (nI 0)) mt mv mx := ⟨fun d hd => by rw [up_n (by omega), up_n (by omega)], fun s a _ h => h⟩
    rcases L_pages_L (mr := nI 1) (kz := fun mm_29 mt_30 mv_31 mx_32 mn_33 ma_34 me_35 mb_36 mba_37 mpg_38 mdi_39 mbl_40 mby_41 mw_42 mz_43 mso_44 mbo_45 mco_46 mcd_47 ml_48 => gd (inb (nI 4) 7) <| gd (inb (nI c) 7) <| itr4 (p_X6_read_L105 (nI c) (up mm_29 (ix (nI c)) (mm_29 4)) mn_33 ma_34 me_35 mb_36 mba_37 mpg_38 mdi_39 mbl_40 mby_41 mw_42 mz_43 mso_44 mbo_45 mco_46 mcd_47 ml_48 (nI 1)) fu (nI 0) mt_30 mv_31 mx_32) hs hxr.1 hc hK4 up_s w.k hO4 w.o mc.k mc.o l.length fu 0 0 0 0 (fun _ => none) (up (up xc 4 (nI 0)) 5 (nI 0)) xt xn xl la swd rpd rpv rpc rzp (up (up mm 4 (nI 0)) 5 (nI 0)) mt mv mx mn me (-1 : Int32) mbl mby mw mz mso mbo mco mcd ml (by omega) (by omega) (by rw [fu_eq]; omega) (by omega) (by omega) (fun _ => rfl) hst with ⟨B, rd, g, mdi2, rw2, xc2, xt2, xn2, xl2, mm2, mt2, mv2, mx2, f1, f2, f3, ⟨la2, ssp2, sen2, swd2, rdr2, rpd2, rpv2, rpc2, rzp2, f4⟩, mn2, ma2, me2, c2, b2, mw2, z2, so2, bo2, co2, cd2, ml2, f5⟩ | ⟨mdi2, rw2, d, q, xc2, xt2, xn2, xl2, mm2, mt2, mv2, mx2, hd, f1, f2, f3, ⟨la2, ssp2, sen2, swd2, rdr2, rpd2, rpv2, rpc2, rzp2, f4⟩, mn2, ma2, me2, c2, b2, mw2, z2, so2, bo2, co2, cd2, ml2, f5⟩
    · obtain ⟨u1, u2, u3, u4, u5, u6, u7, u8⟩ := f1
      have fX := hoX.tr f2
      have fM := hoM.tr f3
      have hvl : ((List.range B).map g).length = B := by simp
      have hva : ∀ (i : Nat) (h : i < ((List.range B).map g).length), ((List.range B).map g)[i] = g i := fun i h => by simp
      have hvw : ∀ a ∈ (List.range B).map g, wfv K a := by
        intro a ha
        obtain ⟨i, _, rfl⟩ := List.mem_map.mp ha
        exact u2 i
      rw [f4, bdS19, es, bdS1, if_neg n1, f5]
      unfold p_X0_become p_X0_begin
      rw [hK4, hO4, gdT hOb, bdS3, gdT (by decide), inbI (by omega), gdD (by omega), ixI (by omega)]
      obtain ⟨xt3, xn3, xl3, b1, b2', b3⟩ := X_become_L (c := c) (K := K) (xk := up (up (up xk 4 (nI K)) 5 (nI K)) c (nI K)) (xo := up (up (up xo 4 (nI O)) 5 (nI 0)) c (nI O)) (vals := (List.range B).map g) hc up_s w.k hvw (by omega) B fu 0 (up xc2 c (nI 0)) xt2 xn2 xl2 (by omega) (by omega) (by rw [fu_eq]; omega) (by rw [up_n (by omega), hvl]; exact u3) up_s (fun i hi => by rw [hva i hi]; rw [hvl] at hi; exact u4 i hi) (fun i hi h => by omega)
      obtain ⟨mt3, mv3, mx3, c1, c2', c3⟩ := M_become_L (c := c) (K := K) (mm := up mm2 c (mm2 4)) (mn := mn2) (ma := ma2) (me := me2) (mb := nI 0) (mba := nI 0) (mpg := rw2) (mdi := mdi2) (mbl := c2) (mby := b2) (mw := mw2) (mz := z2) (mso := so2) (mbo := bo2) (mco := co2) (mcd := cd2) (ml := ml2) (mr := nI 1) hc hvw (by omega) (by rw [up_n (by omega), hvl]; exact u5) B fu 0 mt2 mv2 mx2 (by omega) (by omega) (by rw [fu_eq]; omega) (fun i hi => by rw [hva i hi]; rw [hvl] at hi; exact u6 i hi) (fun i hi h => by omega)
      rw [b1, bdS6, c1, up_up, up_s, up_s, hvl, u5]
      refine ⟨_, _, _, _, _, _, _, _, _, _, _, _, _, _, _, _, _, _, _, _, _, _, _, _, _, _, _, _, _, _, _, _, _, _, _, _, _, _, _, _, _, rfl, rfl, ?_, ?_⟩
      · intro d hd4
        by_cases e : d = c
        · subst e
          exact ⟨K, O, (List.range B).map g, ⟨w.k, w.o, by omega, hvw⟩, ⟨up_s, up_s, by rw [up_s, hvl], b2'⟩, ⟨mc.k, mc.o, by rw [up_s, hvl], c2'⟩⟩
        · obtain ⟨K1, O1, vals1, w1, x1, m1⟩ := h d hd4
          obtain ⟨a1, a2, a3, a4⟩ := fX d hd4
          obtain ⟨d1, d2, d3⟩ := b3 d e
          have hn := w1.n
          exact ⟨K1, O1, vals1, w1, x1.oth (by rw [up_n e, up_n (by omega), up_n (by omega)]) (by rw [up_n e, up_n (by omega), up_n (by omega)]) (by rw [up_n e]; exact a1) (d1.trans a2) (d2.trans a3) (d3.trans a4), m1.oth rfl rfl (by rw [up_n e]; exact fM.1 d hd4) (fun j a hj hv => c3 _ _ (by omega) (fM.2 _ _ (by omega) hv))⟩
      · refine Or.inr ⟨rfl, rfl, rfl, rfl, ?_⟩
        rw [up_n (show (5 : Nat) ≠ c by omega)]
        exact u7.x5
    · have fX := hoX.tr f2
      have fM := hoM.tr f3
      rw [f4, bdS19, d_sound hd, bdS1, if_pos rfl, f5]
      refine ⟨_, _, _, _, _, _, _, _, _, _, _, _, _, _, _, _, _, _, _, _, _, _, _, _, _, _, _, _, _, _, _, _, _, _, _, _, _, _, _, _, _, rfl, rfl, ?_, ?_⟩
      · intro d hd4
        obtain ⟨K1, O1, vals1, w1, x1, m1⟩ := h d hd4
        obtain ⟨a1, a2, a3, a4⟩ := fX d hd4
        have hn := w1.n
        exact ⟨K1, O1, vals1, w1, x1.oth (by rw [up_n (by omega), up_n (by omega)]) (by rw [up_n (by omega), up_n (by omega)]) a1 a2 a3 a4, m1.oth rfl rfl (fM.1 d hd4) (fun j a hj hv => fM.2 _ _ (by omega) hv)⟩
      · exact Or.inr ⟨rfl, rfl, rfl, rfl, f1⟩
  · rw [e1, e2, bdS1, bdS1, moN, if_pos rfl]
    exact ⟨_, _, _, _, _, _, _, _, _, _, _, _, _, _, _, _, _, _, _, _, _, _, _, _, _, _, _, _, _, _, _, _, _, _, _, _, _, _, _, _, _, rfl, rfl, h, hflt⟩
