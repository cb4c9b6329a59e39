abbrev DifO (ints r n0 p e : Nat) (la : Nat → Nat → Int64) (x : Option DX) (m : Option DM) : Prop :=
  (∃ la' mn' p' swd' c b mw', p ≤ p' ∧ p' ≤ e ∧ FrA r la la' ∧ LkI ints r n0 la' mn' ∧ x = some (la', nI p', nI 0, nI 0, swd') ∧ m = some (nI 1, mn', nI p', nI 0, nI 0, c, b, mw')) ∨
  (∃ la' sx swd' d q, d ≠ nI 0 ∧ FrA r la la' ∧ x = some (la', sx, d, q, swd') ∧ DeadM d q m)
theorem DifO.mono {ints r n0 p p1 e : Nat} {la la1 : Nat → Nat → Int64} {x : Option DX} {m : Option DM} (h : DifO ints r n0 p1 e la1 x m) (hp : p ≤ p1) (hf : FrA r la la1) : DifO ints r n0 p e la x m := by
  rcases h with ⟨la', mn', p', s', c, b, mw', h1, h2, h3, h4, h5, h6⟩ | ⟨la', sx, s', d, q, h1, h2, h3, h4⟩
  · exact Or.inl ⟨la', mn', p', s', c, b, mw', by omega, h2, hf.tr h3, h4, h5, h6⟩
  · exact Or.inr ⟨la', sx, s', d, q, h1, hf.tr h2, h3, h4⟩
theorem L_blocks {r n0 ints : Nat} {rb : Nat → Nat → Int32} {mf : Nat → Int32} {e : Nat} (hs : Src rb mf e) (hi : ints ≤ 1) (hn : n0 ≤ 200) : ∀ (m n s p : Nat) (la : Nat → Nat → Int64) (mn : Nat → Int64) (v4 : Int64) (swd mw : Nat → Int32) (mbl mby : Int32), n0 - s ≤ m → 1 ≤ s → s ≤ n0 + 200 → m + 2 < n → p ≤ e → LkI ints r (min s n0) la mn → (s < n0 → v4 = mn (s - 1)) → DifO ints r n0 p e la (itr6 (p_X4_nextDifferences_L111 r (nI n0) (nI ints) rb (some 1) (nI e)) n (nI s) la (nI p) (nI 0) (nI 0) swd) (itr9 (p_X6_readDifferences_L80 (nI n0) (nI ints) mf (nI e)) n v4 (nI s) mn (nI p) (nI 0) (nI 0) mbl mby mw) := by
  have he := hs.1
  have over : ∀ (n s p : Nat) (la : Nat → Nat → Int64) (mn : Nat → Int64) (v4 : Int64) (swd mw : Nat → Int32) (mbl mby : Int32), n0 ≤ s → s ≤ n0 + 200 → 0 < n → p ≤ e → LkI ints r (min s n0) la mn → DifO ints r n0 p e la (itr6 (p_X4_nextDifferences_L111 r (nI n0) (nI ints) rb (some 1) (nI e)) n (nI s) la (nI p) (nI 0) (nI 0) swd) (itr9 (p_X6_readDifferences_L80 (nI n0) (nI ints) mf (nI e)) n v4 (nI s) mn (nI p) (nI 0) (nI 0) mbl mby mw) := by
    intro n s p la mn v4 swd mw mbl mby h1 h2 h3 hp hk
    cases n with
    | zero => omega
    | succ n =>
      have em : min s n0 = n0 := by omega
      rw [em] at hk
      left
      refine ⟨la, mn, p, swd, mbl, mby, mw, by omega, hp, FrA.rf, hk, ?_, ?_⟩
      · show p_X4_nextDifferences_L111 r (nI n0) (nI ints) rb (some 1) (nI e) _ (nI s) la (nI p) (nI 0) (nI 0) swd = _
        rw [p_X4_nextDifferences_L111, if_neg (by rw [ltI (by omega) (by omega)]; omega)]
      · show p_X6_readDifferences_L80 (nI n0) (nI ints) mf (nI e) _ v4 (nI s) mn (nI p) (nI 0) (nI 0) mbl mby mw = _
        rw [p_X6_readDifferences_L80, if_neg (by rw [ltI (by omega) (by omega)]; omega)]
  intro m
  induction m with
  | zero =>
    intro n s p la mn v4 swd mw mbl mby h1 h1s h2 h3 hp hk hv
    exact over n s p la mn v4 swd mw mbl mby (by omega) h2 (by omega) hp hk
  | succ m ih =>
    intro n s p la mn v4 swd mw mbl mby h1 h1s h2 h3 hp hk hv
    by_cases hsn : s < n0
    · cases n with
      | zero => omega
      | succ n =>
        have em : min s n0 = s := by omega
        rw [em] at hk
        have hv4 := hv hsn
        subst hv4
        have hX : itr6 (p_X4_nextDifferences_L111 r (nI n0) (nI ints) rb (some 1) (nI e)) (n + 1) (nI s) la (nI p) (nI 0) (nI 0) swd = p_X4_nextDifferences_L111 r (nI n0) (nI ints) rb (some 1) (nI e) (fun a b c d f g => itr6 (p_X4_nextDifferences_L111 r (nI n0) (nI ints) rb (some 1) (nI e)) n a b c d f g) (nI s) la (nI p) (nI 0) (nI 0) swd := rfl
        have hM : itr9 (p_X6_readDifferences_L80 (nI n0) (nI ints) mf (nI e)) (n + 1) (mn (s - 1)) (nI s) mn (nI p) (nI 0) (nI 0) mbl mby mw = p_X6_readDifferences_L80 (nI n0) (nI ints) mf (nI e) (fun a b c d f g h i j => itr9 (p_X6_readDifferences_L80 (nI n0) (nI ints) mf (nI e)) n a b c d f g h i j) (mn (s - 1)) (nI s) mn (nI p) (nI 0) (nI 0) mbl mby mw := rfl
        -- the block from s to en
        have block : ∀ en, en = min (s + 128) n0 → DifO ints r n0 p e la
            (bd4 (p_X4_nextVar rb (some 1) (nI p) (nI e) (nI 0) (nI 0)) fun a_33 ssp_34 str_35 stp_36 => bd1 (p_X5_unzigged a_33) fun a_38 => bd4 (p_X4_nextWidths (nI (en - s)) (nI (if ints = 0 then 64 else 32)) rb (some 1) ssp_34 (nI e) str_35 stp_36 swd) fun ssp_40 str_41 stp_42 swd_43 => itr5 (p_X4_nextDifferences_L168 r (nI s) (nI en) rb (some 1) (nI e) swd_43 (fun la_51 ssp_52 str_53 stp_54 => itr2 (p_X4_nextDifferences_L221 r (nI ints) (nI en) a_38 (fun la_59 => itr6 (p_X4_nextDifferences_L111 r (nI n0) (nI ints) rb (some 1) (nI e)) n (nI (s + 128)) la_59 ssp_52 str_53 stp_54 swd_43)) fu (nI s) la_51)) fu (nI 0) la ssp_40 str_41 stp_42)
            (bd4 (p_X6_readZig mf (nI p) (nI e) (nI 0) (nI 0)) fun a_22 ma_23 mb_24 mba_25 => itr5 (p_X6_readDifferences_L117 (nI ints) (nI s) (nI en) mf mn (nI e) mbl mby (fun ma_39 mb_40 mba_41 mw_42 => itr8 (p_X6_readDifferences_L222 (nI ints) (nI s) (nI en) a_22 mf (nI e) mw_42 (fun v4_60 mn_61 ma_62 mb_63 mba_64 mbl_65 mby_66 => p_X6_readDifferences_J352 v4_60 (nI s) mn_61 ma_62 mb_63 mba_64 mbl_65 mby_66 mw_42 (fun a b c d f g h i j => itr9 (p_X6_readDifferences_L80 (nI n0) (nI ints) mf (nI e)) n a b c d f g h i j))) fu (mn (s - 1)) (nI 0) mn ma_39 mb_40 mba_41 mbl mby)) fu (nI 0) ma_23 mb_24 mba_25 mw) := by
          intro en hen
          have hse : s < en := by omega
          have hj352 : ∀ (v : Int64) (mn1 : Nat → Int64) (sm d q cm bm : Int32) (mw1 : Nat → Int32), d ≠ nI 0 → DeadM d q (p_X6_readDifferences_J352 v (nI s) mn1 sm d q cm bm mw1 (fun a b c d f g h i j => itr9 (p_X6_readDifferences_L80 (nI n0) (nI ints) mf (nI e)) n a b c d f g h i j)) := by
            intro v mn1 sm d q cm bm mw1 hd
            rw [p_X6_readDifferences_J352, if_neg hd]
            exact ⟨_, _, _, _, _, rfl⟩
          have hkx : ∀ (L : Int64) (sm d q : Int32) (mw' : Nat → Int32), d ≠ nI 0 → DeadM d q (itr8 (p_X6_readDifferences_L222 (nI ints) (nI s) (nI en) L mf (nI e) mw' (fun v4_60 mn_61 ma_62 mb_63 mba_64 mbl_65 mby_66 => p_X6_readDifferences_J352 v4_60 (nI s) mn_61 ma_62 mb_63 mba_64 mbl_65 mby_66 mw' (fun a b c d f g h i j => itr9 (p_X6_readDifferences_L80 (nI n0) (nI ints) mf (nI e)) n a b c d f g h i j))) fu (mn (s - 1)) (nI 0) mn sm d q mbl mby) := by
            intro L sm d q mw' hd
            rw [fu_eq]
            show DeadM d q (p_X6_readDifferences_L222 (nI ints) (nI s) (nI en) L mf (nI e) mw' _ _ (mn (s - 1)) (nI 0) mn sm d q mbl mby)
            rw [p_X6_readDifferences_L222, if_neg hd, ite_self]
            exact hj352 (mn (s - 1)) mn sm d q mbl mby mw' hd
          have xend : ∀ (L : Int64) (la1 : Nat → Nat → Int64) (sx d q : Int32) (swd1 : Nat → Int32), d ≠ nI 0 → ∃ la2, itr2 (p_X4_nextDifferences_L221 r (nI ints) (nI en) L (fun la_59 => itr6 (p_X4_nextDifferences_L111 r (nI n0) (nI ints) rb (some 1) (nI e)) n (nI (s + 128)) la_59 sx d q swd1)) fu (nI s) la1 = some (la2, sx, d, q, swd1) ∧ FrA r la1 la2 := by
            intro L la1 sx d q swd1 hd
            obtain ⟨la2, e1, f1, _⟩ := X_sum_L (r := r) (s := s) (en := en) (ints := ints) (L := L) (kz := fun la_59 => itr6 (p_X4_nextDifferences_L111 r (nI n0) (nI ints) rb (some 1) (nI e)) n (nI (s + 128)) la_59 sx d q swd1) hi h1s (by omega) (en - s) fu s la1 rfl (by omega) (by omega) (by rw [fu_eq]; omega)
            refine ⟨la2, e1.trans ?_, f1⟩
            cases n with
            | zero => omega
            | succ n =>
              show p_X4_nextDifferences_L111 r (nI n0) (nI ints) rb (some 1) (nI e) _ (nI (s + 128)) la2 sx d q swd1 = _
              rw [p_X4_nextDifferences_L111, if_neg hd, ite_self]
          rcases L_zig hs hp with ⟨v, p1, q1, q2, q3, q4⟩ | ⟨vx, sx, vm, sm, d, q, hd, q3, q4⟩
          · rw [q3, q4, bdS4, bdS4, X_unz, bdS1]
            unfold p_X4_nextWidths
            rcases L_widths_L (mn := mn) (mbl := mbl) (mby := mby) (kx := fun ma_39 mb_40 mba_41 mw_42 => itr8 (p_X6_readDifferences_L222 (nI ints) (nI s) (nI en) (unz v) mf (nI e) mw_42 (fun v4_60 mn_61 ma_62 mb_63 mba_64 mbl_65 mby_66 => p_X6_readDifferences_J352 v4_60 (nI s) mn_61 ma_62 mb_63 mba_64 mbl_65 mby_66 mw_42 (fun a b c d f g h i j => itr9 (p_X6_readDifferences_L80 (nI n0) (nI ints) mf (nI e)) n a b c d f g h i j))) fu (mn (s - 1)) (nI 0) mn ma_39 mb_40 mba_41 mbl mby) hs hi hse (show en ≤ 200 by omega) (fun sm d q mw' hd => hkx (unz v) sm d q mw' hd) 4 fu 0 p1 swd mw (by omega) (by omega) (by rw [fu_eq]; omega) q2 (fun j hj => by omega) with ⟨p2, swd2, mw2, r1, r2, r3, r4, r5⟩ | ⟨sx, d, q, swd2, hd, r4, r5⟩
            · rw [r4, bdS4, r5]
              have em0 : min (s + 32 * 0) en = s := by omega
              rcases L_parts (r := r) (s := s) (en := en) (ints := ints) (L := unz v) (swd := swd2) (mw := mw2) (kz := fun la_51 ssp_52 str_53 stp_54 => itr2 (p_X4_nextDifferences_L221 r (nI ints) (nI en) (unz v) (fun la_59 => itr6 (p_X4_nextDifferences_L111 r (nI n0) (nI ints) rb (some 1) (nI e)) n (nI (s + 128)) la_59 ssp_52 str_53 stp_54 swd2)) fu (nI s) la_51) (kx := fun v4_60 mn_61 ma_62 mb_63 mba_64 mbl_65 mby_66 => p_X6_readDifferences_J352 v4_60 (nI s) mn_61 ma_62 mb_63 mba_64 mbl_65 mby_66 mw2 (fun a b c d f g h i j => itr9 (p_X6_readDifferences_L80 (nI n0) (nI ints) mf (nI e)) n a b c d f g h i j)) hs hi h1s hse (by omega) (by omega) r3 4 fu 0 p2 la mn mbl mby (by omega) (by omega) (by rw [fu_eq]; omega) r2 hk (by rw [em0]; intro t ht1 ht2; omega) with ⟨la3, mn3, p3, c3, by3, u1, u2, u3, u4, u5, u6, u7⟩ | ⟨la3, sx, vv, mn3, sm, d, q, cm, bm, hd, u3, u6, u7⟩
              · rw [em0] at u7
                rw [u6, u7, p_X6_readDifferences_J352, if_pos (show nI 0 = nI 0 from rfl), addI]
                obtain ⟨la4, e4, f4, g4⟩ := X_sum_L (r := r) (s := s) (en := en) (ints := ints) (L := unz v) (kz := fun la_59 => itr6 (p_X4_nextDifferences_L111 r (nI n0) (nI ints) rb (some 1) (nI e)) n (nI (s + 128)) la_59 (nI p3) (nI 0) (nI 0) swd2) hi h1s (by omega) (en - s) fu s la3 rfl (by omega) (by omega) (by rw [fu_eq]; omega)
                rw [e4]
                have hk4 : LkI ints r en la4 mn3 := ⟨g4 mn3 u5 u4.1, fun h0 t ht => by
                  by_cases hts : t < s
                  · exact u4.2 h0 t hts
                  · rw [u5 t (by omega) ht]
                    unfold acc
                    rw [if_neg h0]
                    exact isI_i _⟩
                have hmin : min (s + 128) n0 = en := hen.symm
                have := ih n (s + 128) p3 la4 mn3 (mn3 (en - 1)) swd2 mw2 c3 by3 (by omega) (by omega) (by omega) (by omega) u2 (by rw [hmin]; exact hk4) (fun hlt => by rw [show en = s + 128 by omega])
                exact this.mono (by omega) (u3.tr f4)
              · rw [em0] at u7
                rw [u6, u7]
                obtain ⟨la4, e4, f4⟩ := xend (unz v) la3 sx d q swd2 hd
                exact Or.inr ⟨la4, sx, swd2, d, q, hd, u3.tr f4, e4, hj352 vv mn3 sm d q cm bm mw2 hd⟩
            · rw [r4, bdS4, d_L168 hd 4 fu 0 (by omega) (by omega) (by rw [fu_eq]; omega)]
              obtain ⟨la4, e4, f4⟩ := xend (unz v) la sx d q swd2 hd
              exact Or.inr ⟨la4, sx, swd2, d, q, hd, f4, e4, r5⟩
          · rw [q3, q4, bdS4, bdS4, X_unz, bdS1]
            obtain ⟨swd2, r4⟩ := d_widths (v1 := nI (en - s)) (v2 := nI (if ints = 0 then 64 else 32)) (rb := rb) (srow := some 1) (ssp := sx) (sen := nI e) (stp := q) (swd := swd) hd
            rw [r4, bdS4, d_L168 hd 4 fu 0 (by omega) (by omega) (by rw [fu_eq]; omega)]
            obtain ⟨la4, e4, f4⟩ := xend (unz vx) la sx d q swd2 hd
            refine Or.inr ⟨la4, sx, swd2, d, q, hd, f4, e4, ?_⟩
            rw [fu_eq]
            show DeadM d q (p_X6_readDifferences_L117 (nI ints) (nI s) (nI en) mf mn (nI e) mbl mby _ _ (nI 0) sm d q mw)
            rw [p_X6_readDifferences_L117, if_neg hd, ite_self]
            exact hkx vm sm d q mw hd
        rw [hX, hM, p_X4_nextDifferences_L111, p_X6_readDifferences_L80, if_pos (show nI s < nI n0 by rw [ltI (by omega) (by omega)]; exact hsn), if_pos (show nI s < nI n0 by rw [ltI (by omega) (by omega)]; exact hsn), if_pos (show nI 0 = nI 0 from rfl), addI, iminI (by omega) (by omega), subI (show s ≤ min (s + 128) n0 by omega)]
        have hb := block (min (s + 128) n0) rfl
        have hMe : (if nI (s + 128) < nI n0 then (bd4 (p_X6_readZig mf (nI p) (nI e) (nI 0) (nI 0)) fun a_22 ma_23 mb_24 mba_25 => itr5 (p_X6_readDifferences_L117 (nI ints) (nI s) (nI (s + 128)) mf mn (nI e) mbl mby (fun ma_39 mb_40 mba_41 mw_42 => itr8 (p_X6_readDifferences_L222 (nI ints) (nI s) (nI (s + 128)) a_22 mf (nI e) mw_42 (fun v4_60 mn_61 ma_62 mb_63 mba_64 mbl_65 mby_66 => p_X6_readDifferences_J352 v4_60 (nI s) mn_61 ma_62 mb_63 mba_64 mbl_65 mby_66 mw_42 (fun a b c d f g h i j => itr9 (p_X6_readDifferences_L80 (nI n0) (nI ints) mf (nI e)) n a b c d f g h i j))) fu (mn (s - 1)) (nI 0) mn ma_39 mb_40 mba_41 mbl mby)) fu (nI 0) ma_23 mb_24 mba_25 mw) else (bd4 (p_X6_readZig mf (nI p) (nI e) (nI 0) (nI 0)) fun a_67 ma_68 mb_69 mba_70 => itr5 (p_X6_readDifferences_L117 (nI ints) (nI s) (nI n0) mf mn (nI e) mbl mby (fun ma_72 mb_73 mba_74 mw_75 => itr8 (p_X6_readDifferences_L222 (nI ints) (nI s) (nI n0) a_67 mf (nI e) mw_75 (fun v4_76 mn_77 ma_78 mb_79 mba_80 mbl_81 mby_82 => p_X6_readDifferences_J352 v4_76 (nI s) mn_77 ma_78 mb_79 mba_80 mbl_81 mby_82 mw_75 (fun a b c d f g h i j => itr9 (p_X6_readDifferences_L80 (nI n0) (nI ints) mf (nI e)) n a b c d f g h i j))) fu (mn (s - 1)) (nI 0) mn ma_72 mb_73 mba_74 mbl mby)) fu (nI 0) ma_68 mb_69 mba_70 mw)) = (bd4 (p_X6_readZig mf (nI p) (nI e) (nI 0) (nI 0)) fun a_22 ma_23 mb_24 mba_25 => itr5 (p_X6_readDifferences_L117 (nI ints) (nI s) (nI (min (s + 128) n0)) mf mn (nI e) mbl mby (fun ma_39 mb_40 mba_41 mw_42 => itr8 (p_X6_readDifferences_L222 (nI ints) (nI s) (nI (min (s + 128) n0)) a_22 mf (nI e) mw_42 (fun v4_60 mn_61 ma_62 mb_63 mba_64 mbl_65 mby_66 => p_X6_readDifferences_J352 v4_60 (nI s) mn_61 ma_62 mb_63 mba_64 mbl_65 mby_66 mw_42 (fun a b c d f g h i j => itr9 (p_X6_readDifferences_L80 (nI n0) (nI ints) mf (nI e)) n a b c d f g h i j))) fu (mn (s - 1)) (nI 0) mn ma_39 mb_40 mba_41 mbl mby)) fu (nI 0) ma_23 mb_24 mba_25 mw) := by
          by_cases hlt : s + 128 < n0
          · rw [if_pos (by rw [ltI (by omega) (by omega)]; exact hlt), show min (s + 128) n0 = s + 128 by omega]
          · rw [if_neg (by rw [ltI (by omega) (by omega)]; exact hlt), show min (s + 128) n0 = n0 by omega]
        rw [← hMe] at hb
        by_cases i0 : ints = 0
        · subst i0
          simp only [if_pos (show nI 0 = nI 0 from rfl)]
          rw [if_pos (show 0 = 0 from rfl)] at hb
          exact hb
        · simp only [if_neg (show ¬ nI ints = nI 0 by rw [eqI (by omega) (by omega)]; exact i0)]
          rw [if_neg i0] at hb
          exact hb
    · exact over n s p la mn v4 swd mw mbl mby (by omega) h2 (by omega) hp hk
