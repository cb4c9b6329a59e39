theorem and1_01 (v : Int64) : v &&& lN 1 = lN 0 ∨ v &&& lN 1 = lN 1 := by
  have key : ∀ y : BitVec 64, y &&& 1#64 = 0#64 ∨ y &&& 1#64 = 1#64 := by
    intro y
    have h : (y &&& 1#64).toNat = y.toNat % 2 := by
      rw [BitVec.toNat_and]
      exact Nat.and_one_is_mod _
    have h2 : y.toNat % 2 = 0 ∨ y.toNat % 2 = 1 := by omega
    rcases h2 with h2 | h2
    · left
      apply BitVec.eq_of_toNat_eq
      rw [h, h2]
      rfl
    · right
      apply BitVec.eq_of_toNat_eq
      rw [h, h2]
      rfl
  rcases key v.toBitVec with h | h
  · exact Or.inl (Int64.toBitVec_inj.mp h)
  · exact Or.inr (Int64.toBitVec_inj.mp h)
theorem ushr1_nat (v : Int64) : ∃ t : Nat, t < 2 ^ 63 ∧ lushr v (nI 1) = lN t := by
  refine ⟨(v.toBitVec >>> 1).toNat, ?_, ?_⟩
  · rw [BitVec.toNat_ushiftRight, Nat.shiftRight_eq_div_pow]
    have := v.toBitVec.isLt
    omega
  · apply Int64.toBitVec_inj.mp
    rw [lushr_bv v (by omega)]
    show _ = BitVec.ofNat 64 _
    rw [BitVec.ofNat_toNat, BitVec.setWidth_eq]
theorem ushr_zero {v : Int64} {w : Nat} (hw : w < 64) : lushr v (nI w) = lN 0 ↔ ¬ w < bl v := by
  constructor
  · intro h hlt
    have h0 : bl v ≠ 0 := by omega
    have e := bl_top h0
    have e2 : lb (lushr v (nI w)) (bl v - 1 - w) = lb v (w + (bl v - 1 - w)) := lb_ushr v hw
    rw [h, lb_zero, show w + (bl v - 1 - w) = bl v - 1 by omega, e] at e2
    cases e2
  · intro h
    apply lb_ext
    intro i _
    rw [lb_ushr v hw, lb_zero]
    exact bl_hi (by omega)
theorem X_fill_L {r a t : Nat} {v : Int64} (h : a + t ≤ 200) : ∀ (m n k : Nat) (la : Nat → Nat → Int64) (mn : Nat → Int64) (kx : Int32 → (Nat → Int64) → Option RR), t - k = m → k ≤ t → m < n → Lk r (a + k) la mn → ∃ la' mn', itr2 (p_X4_fill_L7 r (nI (a + t)) v) n (nI (a + k)) la = some la' ∧ itr3 (p_X6_readRuns_L208 (lN t) v kx) n (nI (a + k)) (nI k) mn = kx (nI (a + t)) mn' ∧ Lk r (a + t) la' mn' ∧ FrA r la la' := by
  intro m
  induction m with
  | zero =>
    intro n k la mn kx h1 h2 h3 hk
    have : k = t := by omega
    subst this
    cases n with
    | zero => omega
    | succ n =>
      refine ⟨la, mn, ?_, ?_, hk, FrA.rf⟩
      · show p_X4_fill_L7 r (nI (a + k)) v _ (nI (a + k)) la = _
        rw [p_X4_fill_L7, if_neg (by rw [ltI (by omega) (by omega)]; omega)]
      · show p_X6_readRuns_L208 (lN k) v kx _ (nI (a + k)) (nI k) mn = _
        rw [p_X6_readRuns_L208, l2iL, if_neg (by rw [ltI (by omega) (by omega)]; omega)]
  | succ m ih =>
    intro n k la mn kx h1 h2 h3 hk
    cases n with
    | zero => omega
    | succ n =>
      have hp := hk.put v (lim := 200) (show a + k < 200 by omega)
      have e : stA la r (a + k) 200 v = up la r (up (la r) (a + k) v) := by unfold stA; rw [if_pos (by omega)]
      obtain ⟨la', mn', e1, e2, g, f⟩ := ih n (k + 1) _ _ kx (by omega) (by omega) (by omega) hp
      refine ⟨la', mn', ?_, ?_, g, stA_fr.tr f⟩
      · show p_X4_fill_L7 r (nI (a + t)) v _ (nI (a + k)) la = _
        rw [p_X4_fill_L7, if_pos (by rw [ltI (by omega) (by omega)]; omega), if_pos (by rw [ltI (by omega) (by omega)]; omega), inbI (by omega), gdD (by omega), ixI (by omega), addI, ← e]
        exact e1
      · show p_X6_readRuns_L208 (lN t) v kx _ (nI (a + k)) (nI k) mn = _
        rw [p_X6_readRuns_L208, l2iL, if_pos (by rw [ltI (by omega) (by omega)]; omega), inbI (by omega), gdD (by omega), ixI (by omega), addI, addI]
        exact e2
theorem X_fill_any {r a t : Nat} {v : Int64} {la : Nat → Nat → Int64} (h : a + t ≤ 200) : ∃ la', p_X4_fill r (nI a) (nI (a + t)) v la = some la' ∧ FrA r la la' := by
  obtain ⟨la', mn', e1, _, _, f⟩ := X_fill_L (r := r) (v := v) h t fu 0 la (fun i => la r i) (fun _ _ => none) (by omega) (by omega) (by rw [fu_eq]; omega) (fun _ _ => rfl)
  refine ⟨la', ?_, f⟩
  unfold p_X4_fill
  rw [imaxI (by omega) (by omega), Nat.max_eq_left (by omega)]
  exact e1
abbrev RunO (r lim p e : Nat) (la : Nat → Nat → Int64) (x : Option NP) (m : Option RR) : Prop :=
  (∃ la' mn' p' c' by', p ≤ p' ∧ p' ≤ e ∧ FrA r la la' ∧ Lk r lim la' mn' ∧ x = some (la', nI p', nI 0, nI 0) ∧ m = some (nI 1, mn', nI p', nI 0, nI 0, c', by')) ∨
  (∃ la' sx mn' sm d q cm bm, d ≠ nI 0 ∧ FrA r la la' ∧ x = some (la', sx, d, q) ∧ m = some (nI 0, mn', sm, d, q, cm, bm))
theorem RunO.mono {r lim p p1 e : Nat} {la la1 : Nat → Nat → Int64} {x : Option NP} {m : Option RR} (h : RunO r lim p1 e la1 x m) (hp : p ≤ p1) (hf : FrA r la la1) : RunO r lim p e la x m := by
  rcases h with ⟨la', mn', p', c', by', h1, h2, h3, h4, h5, h6⟩ | ⟨la', sx, mn', sm, d, q, cm, bm, h1, h2, h3, h4⟩
  · exact Or.inl ⟨la', mn', p', c', by', by omega, h2, hf.tr h3, h4, h5, h6⟩
  · exact Or.inr ⟨la', sx, mn', sm, d, q, cm, bm, h1, hf.tr h2, h3, h4⟩
theorem d_L6 {r : Nat} {v2 v3 : Int32} {rb : Nat → Nat → Int32} {sen : Int32} {n : Nat} {a b : Int32} {la : Nat → Nat → Int64} {ssp str stp : Int32} (hd : str ≠ nI 0) : itr6 (p_X4_nextRuns_L6 r v2 v3 rb (some 1) sen) (n + 1) a b la ssp str stp = some (la, ssp, str, stp) := by
  show p_X4_nextRuns_L6 r v2 v3 rb (some 1) sen _ a b la ssp str stp = _
  rw [p_X4_nextRuns_L6, if_neg hd, ite_self, ite_self]
theorem L_runs_L {r lim w : Nat} {rb : Nat → Nat → Int32} {mf : Nat → Int32} {e : Nat} (hs : Src rb mf e) (hw : w ≤ 32) (hlim : lim ≤ 200) : ∀ (m n a u p : Nat) (la : Nat → Nat → Int64) (mn : Nat → Int64) (mbl mby : Int32), lim - a ≤ m → a ≤ lim + 8 → u ≤ a → m + 2 < n → p ≤ e → Lk r (min a lim) la mn → RunO r lim p e la (itr6 (p_X4_nextRuns_L6 r (nI lim) (nI w) rb (some 1) (nI e)) n (nI a) (nI u) la (nI p) (nI 0) (nI 0)) (itr7 (p_X6_readRuns_L2 (nI lim) (nI w) mf (nI e)) n (nI (min a lim)) mn (nI p) (nI 0) (nI 0) mbl mby) := by
  have he := hs.1
  have w8 : (w + 7) / 8 ≤ 8 := by omega
  intro m
  induction m with
  | zero =>
    intro n a u p la mn mbl mby h1 h2 hu h3 hp hk
    cases n with
    | zero => omega
    | succ n =>
      have ea : min a lim = lim := by omega
      rw [ea] at hk ⊢
      left
      refine ⟨la, mn, p, mbl, mby, by omega, hp, FrA.rf, hk, ?_, ?_⟩
      · show p_X4_nextRuns_L6 r (nI lim) (nI w) rb (some 1) (nI e) _ (nI a) (nI u) la (nI p) (nI 0) (nI 0) = _
        rw [p_X4_nextRuns_L6, if_neg (show ¬ nI a < nI lim by rw [ltI (by omega) (by omega)]; omega), ite_self]
      · show p_X6_readRuns_L2 (nI lim) (nI w) mf (nI e) _ (nI lim) mn (nI p) (nI 0) (nI 0) mbl mby = _
        rw [p_X6_readRuns_L2, if_neg (by rw [ltI (by omega) (by omega)]; omega)]
  | succ m ih =>
    intro n a u p la mn mbl mby h1 h2 hu h3 hp hk
    by_cases hal : a < lim
    · cases n with
      | zero => omega
      | succ n =>
        have ea : min a lim = a := by omega
        rw [ea] at hk ⊢
        show RunO r lim p e la (p_X4_nextRuns_L6 r (nI lim) (nI w) rb (some 1) (nI e) _ (nI a) (nI u) la (nI p) (nI 0) (nI 0)) (p_X6_readRuns_L2 (nI lim) (nI w) mf (nI e) _ (nI a) mn (nI p) (nI 0) (nI 0) mbl mby)
        rw [p_X4_nextRuns_L6, p_X6_readRuns_L2, if_pos (show nI u < nI lim by rw [ltI (by omega) (by omega)]; omega), if_pos (show nI a < nI lim by rw [ltI (by omega) (by omega)]; omega), if_pos (show nI a < nI lim by rw [ltI (by omega) (by omega)]; omega), if_pos (show nI 0 = nI 0 from rfl)]
        -- a fault that the demand of a run finds
        have n1 : n = (n - 1) + 1 := by omega
        have key : ∀ (s0 p1 t : Nat) (v : Int64), s0 ≤ 1 → p < p1 → p1 ≤ e → t < 2 ^ 63 → lushr v (nI 1) = lN t → RunO r lim p e la (p_X4_nextRuns_J51 r (nI lim) (nI w) (nI a) (nI u) (nI p) v (nI s0) rb la (some 1) (nI p1) (nI e) (nI 0) (nI 0) (fun a1 b1 c1 d1 f1 g1 => itr6 (p_X4_nextRuns_L6 r (nI lim) (nI w) rb (some 1) (nI e)) n a1 b1 c1 d1 f1 g1)) (p_X6_readRuns_J48 (nI lim) (nI w) (nI a) (nI p) (lN t) (nI s0) mf mn (nI p1) (nI e) (nI 0) (nI 0) mbl mby (fun a1 b1 c1 d1 f1 g1 h1 => itr7 (p_X6_readRuns_L2 (nI lim) (nI w) mf (nI e)) n a1 b1 c1 d1 f1 g1 h1)) := by
          intro s0 p1 t v hs0 hp1 hp1e ht htv
          rw [p_X4_nextRuns_J51, p_X6_readRuns_J48, htv, subI (show a ≤ lim by omega), X_wholeGroups (by omega), bdS1, addI, divI (by omega) (by omega) (by omega), i2lI (by omega), i2lI (by omega)]
          -- a length of run that is not allowed
          have bad : ∀ (L2 : Int64), (lN t < lN 1 ∨ L2 < lN t) → ∃ la' sx, p_X4_nextRuns_J80 r (nI lim) (nI w) (nI a) (nI u) (nI p) (nI s0) (lN t) L2 rb la (some 1) (nI p1) (nI e) (nI 0) (nI 0) (fun a1 b1 c1 d1 f1 g1 => itr6 (p_X4_nextRuns_L6 r (nI lim) (nI w) rb (some 1) (nI e)) n a1 b1 c1 d1 f1 g1) = some (la', sx, nI 3, nI p) ∧ FrA r la la' := by
            intro L2 hb
            refine ⟨la, nI p1, ?_, FrA.rf⟩
            rw [p_X4_nextRuns_J80, p_X4_nextRuns_J102, p_X4_nextRuns_J103, demF, bdS2, if_neg (show ¬ nI 3 = nI 0 by decide)]
            rcases hb with hb | hb
            · rw [if_pos hb]
            · rw [if_pos hb, ite_self]
          have good : ∀ (L2 : Nat), L2 ≤ 200 → 1 ≤ t → t ≤ L2 → (s0 = 0 → a + t ≤ lim) → (s0 ≠ 0 → 8 * t ≤ lim - a + 7) → RunO r lim p e la (p_X4_nextRuns_J80 r (nI lim) (nI w) (nI a) (nI u) (nI p) (nI s0) (lN t) (lN L2) rb la (some 1) (nI p1) (nI e) (nI 0) (nI 0) (fun a1 b1 c1 d1 f1 g1 => itr6 (p_X4_nextRuns_L6 r (nI lim) (nI w) rb (some 1) (nI e)) n a1 b1 c1 d1 f1 g1)) (p_X6_readRuns_J82 (nI lim) (nI w) (nI a) (nI p) (lN t) (nI s0) (lN t) (nI L2) mf mn (nI p1) (nI e) (nI 0) (nI 0) mbl mby (fun a1 b1 c1 d1 f1 g1 h1 => itr7 (p_X6_readRuns_L2 (nI lim) (nI w) mf (nI e)) n a1 b1 c1 d1 f1 g1 h1)) := by
            intro L2 hL2 ht1 htL hc0 hc1
            rw [p_X4_nextRuns_J80, p_X4_nextRuns_J103, p_X6_readRuns_J82, i2lI (by omega), if_neg (show ¬ lN t < lN 1 by rw [ltL (by omega) (by omega)]; omega), if_neg (show ¬ lN L2 < lN t by rw [ltL (by omega) (by omega)]; omega), if_neg (show ¬ lN L2 < lN t by rw [ltL (by omega) (by omega)]; omega), demT, bdS2, if_pos (show nI 0 = nI 0 from rfl), addI, divI (by omega) (by omega) (by omega), l2iL, mulI, addI]
            by_cases h0 : s0 = 0
            · subst h0
              have hat := hc0 rfl
              rw [if_pos (show nI 0 = nI 0 from rfl), if_pos (show nI 0 = nI 0 from rfl)]
              rcases L_little (p := p1) (N := (w + 7) / 8) hs hp1e w8 with ⟨val, p2, q1, q2, q3, q4⟩ | ⟨vx, sx, vm, sm, d, q, hd, q3, q4⟩
              · rw [q3, q4, bdS4, bdS4, X_bitsOf, bdS1, if_pos (show nI 0 = nI 0 from rfl)]
                by_cases hbw : w < bl val
                · rw [if_pos (show nI w < nI (bl val) by have := bl_le val; rw [ltI (by omega) (by omega)]; exact hbw), if_neg (fun hh => ((ushr_zero (by omega)).mp hh) hbw), p_X4_nextRuns_J185, demF, bdS2, l2iL, addI]
                  obtain ⟨la1, f1, f2⟩ := X_fill_any (r := r) (v := val) (la := la) (show a + t ≤ 200 by omega)
                  rw [f1, bdS1, n1, d_L6 (by decide)]
                  exact Or.inr ⟨la1, _, mn, _, nI 4, nI p1, _, _, by decide, f2, rfl, rfl⟩
                · have hz := (ushr_zero (v := val) (show w < 64 by omega)).mpr hbw
                  rw [if_neg (show ¬ nI w < nI (bl val) by have := bl_le val; rw [ltI (by omega) (by omega)]; exact hbw), if_pos hz, p_X4_nextRuns_J185, demT, bdS2, l2iL, addI, addI]
                  obtain ⟨la1, mn1, g1, g2, g3, g4⟩ := X_fill_L (r := r) (v := val) (show a + t ≤ 200 by omega) t fu 0 la mn (fun v3_22 mn_23 => itr7 (p_X6_readRuns_L2 (nI lim) (nI w) mf (nI e)) n v3_22 mn_23 (nI p2) (nI 0) (nI 0) mbl mby) (by omega) (by omega) (by rw [fu_eq]; omega) hk
                  have ef : p_X4_fill r (nI a) (nI (a + t)) val la = some la1 := by
                    unfold p_X4_fill
                    rw [imaxI (by omega) (by omega), Nat.max_eq_left (by omega)]
                    exact g1
                  rw [ef, bdS1]
                  have e2 : min (a + t) lim = a + t := by omega
                  have := ih n (a + t) (u + 1) p2 la1 mn1 mbl mby (by omega) (by omega) (by omega) (by omega) q2 (by rw [e2]; exact g3)
                  rw [e2] at this
                  have e3 := g2
                  rw [show nI (a + 0) = nI a from rfl] at e3
                  rw [e3]
                  exact this.mono (by omega) g4
              · rw [q3, q4, bdS4, bdS4, X_bitsOf, bdS1, if_neg hd, p_X4_nextRuns_J185, p_X4_nextRuns_J185, d_demand hd, d_demand hd, bdS2, l2iL, addI]
                obtain ⟨la1, f1, f2⟩ := X_fill_any (r := r) (v := vx) (la := la) (show a + t ≤ 200 by omega)
                rw [f1, bdS1, n1, d_L6 hd, ite_self]
                exact Or.inr ⟨la1, _, mn, _, d, q, _, _, hd, f2, rfl, rfl⟩
            · have hat := hc1 h0
              rw [if_neg (show ¬ nI s0 = nI 0 by rw [eqI (by omega) (by omega)]; exact h0), if_neg (show ¬ nI s0 = nI 0 by rw [eqI (by omega) (by omega)]; exact h0)]
              have hpb : PB 0 (nI 0) mby := ⟨by omega, fun h => absurd rfl h⟩
              have ea2 : min (a + 0) lim = a := by omega
              have e8 : min (a + t * 8) lim = lim ∨ a + t * 8 ≤ lim := by omega
              rcases L_runPack (r := r) (a := a) (lim := lim) (cnt := t * 8) (w := w) (x := lN t) (kx := fun v3_37 mn_38 ma_39 mb_40 mba_41 mbl_42 mby_43 => itr7 (p_X6_readRuns_L2 (nI lim) (nI w) mf (nI e)) n v3_37 mn_38 ma_39 mb_40 mba_41 mbl_42 mby_43) hs (by omega) hlim (by omega) (by omega) (by rw [l2iL, mulI, Nat.mul_comm]) (t * 8) fu 0 p1 0 (nI 0) mby la mn (by omega) (by omega) (by rw [fu_eq]; omega) hp1e hpb (by rw [ea2]; exact hk) with ⟨la1, mn1, p2, c2, by2, q1, q2, q3, q4, q5, q6⟩ | ⟨la1, sx, mn1, sm, d, q, cm, bm, hd, q3, q5, q6⟩
              · rw [ea2] at q6
                have q5' : p_X4_nextPacked r (nI a) (nI lim) (nI (t * 8)) (nI w) rb la (some 1) (nI p1) (nI e) (nI 0) (nI 0) = some (la1, nI p2, nI 0, nI 0) := q5
                have hih := ih n (a + t * 8) (u + 1) p2 la1 mn1 (nI c2) by2 (by omega) (by omega) (by omega) (by omega) q2 q4
                rw [q5', bdS4, addI, q6]
                exact hih.mono (by omega) q3
              · rw [ea2] at q6
                have q5' : p_X4_nextPacked r (nI a) (nI lim) (nI (t * 8)) (nI w) rb la (some 1) (nI p1) (nI e) (nI 0) (nI 0) = some (la1, sx, d, q) := q5
                rw [q5', bdS4, q6, n1, d_L6 hd]
                exact Or.inr ⟨la1, _, mn1, sm, d, q, _, _, hd, q3, rfl, rfl⟩
          by_cases t0 : t = 0
          · rw [if_pos (show lN t = lN 0 by rw [t0])]
            right
            have hlt : lN t < lN 1 := by rw [ltL (by omega) (by omega)]; omega
            by_cases h0 : s0 = 0
            · subst h0
              obtain ⟨la', sx, g1, g2⟩ := bad (lN (lim - a)) (Or.inl hlt)
              rw [if_pos (show nI 0 = nI 0 from rfl)]
              exact ⟨la', sx, mn, nI p1, nI 3, nI p, mbl, mby, by decide, g2, g1, rfl⟩
            · obtain ⟨la', sx, g1, g2⟩ := bad (lN ((lim - a + 7) / 8)) (Or.inl hlt)
              rw [if_neg (show ¬ nI s0 = nI 0 by rw [eqI (by omega) (by omega)]; exact h0)]
              exact ⟨la', sx, mn, nI p1, nI 3, nI p, mbl, mby, by decide, g2, g1, rfl⟩
          · rw [if_neg (show ¬ lN t = lN 0 by rw [eqL (by omega) (by omega)]; exact t0)]
            by_cases h0 : s0 = 0
            · subst h0
              rw [if_pos (show nI 0 = nI 0 from rfl), if_pos (show nI 0 = nI 0 from rfl)]
              by_cases htl : t ≤ lim - a
              · exact good (lim - a) (by omega) (by omega) htl (fun _ => by omega) (fun h => absurd rfl h)
              · have hlt : lN (lim - a) < lN t := by rw [ltL (by omega) (by omega)]; omega
                obtain ⟨la', sx, g1, g2⟩ := bad (lN (lim - a)) (Or.inr hlt)
                rw [g1, p_X6_readRuns_J82, i2lI (by omega), if_pos hlt]
                exact Or.inr ⟨la', sx, mn, nI p1, nI 3, nI p, mbl, mby, by decide, g2, rfl, rfl⟩
            · rw [if_neg (show ¬ nI s0 = nI 0 by rw [eqI (by omega) (by omega)]; exact h0), if_neg (show ¬ nI s0 = nI 0 by rw [eqI (by omega) (by omega)]; exact h0)]
              by_cases htl : t ≤ (lim - a + 7) / 8
              · exact good ((lim - a + 7) / 8) (by omega) (by omega) htl (fun h => absurd h h0) (fun _ => by omega)
              · have hlt : lN ((lim - a + 7) / 8) < lN t := by rw [ltL (by omega) (by omega)]; omega
                obtain ⟨la', sx, g1, g2⟩ := bad (lN ((lim - a + 7) / 8)) (Or.inr hlt)
                rw [g1, p_X6_readRuns_J82, i2lI (by omega), if_pos hlt]
                exact Or.inr ⟨la', sx, mn, nI p1, nI 3, nI p, mbl, mby, by decide, g2, rfl, rfl⟩
        rcases L_var hs hp with ⟨v, p1, q1, q2, q3, q4⟩ | ⟨vx, sx, vm, sm, d, q, hd, q3, q4⟩
        · obtain ⟨t, ht, htv⟩ := ushr1_nat v
          rw [q3, q4, bdS4, bdS4, if_pos (show nI 0 = nI 0 from rfl), htv]
          rcases and1_01 v with e1 | e1
          · rw [if_pos (show v &&& lN 1 = lN 0 from e1), if_neg (show ¬ v &&& lN 1 = lN 1 by rw [e1]; decide)]
            exact key 0 p1 t v (by omega) (by omega) q2 ht htv
          · rw [if_neg (show ¬ v &&& lN 1 = lN 0 by rw [e1]; decide), if_pos (show v &&& lN 1 = lN 1 from e1)]
            exact key 1 p1 t v (by omega) (by omega) q2 ht htv
        · right
          rw [q3, q4, bdS4, bdS4, if_neg hd]
          have hx : ∀ (s0 : Int32), ∃ la', p_X4_nextRuns_J51 r (nI lim) (nI w) (nI a) (nI u) (nI p) vx s0 rb la (some 1) sx (nI e) d q (fun a1 b1 c1 d1 f1 g1 => itr6 (p_X4_nextRuns_L6 r (nI lim) (nI w) rb (some 1) (nI e)) n a1 b1 c1 d1 f1 g1) = some (la', sx, d, q) ∧ FrA r la la' := by
            intro s0
            have e103 : ∀ (x1 : Int32) (x2 : Int64) (x3 : Int32), p_X4_nextRuns_J103 r (nI lim) (nI w) (nI a) (nI u) (nI p) x1 x2 x3 rb la (some 1) sx (nI e) d q (fun a1 b1 c1 d1 f1 g1 => itr6 (p_X4_nextRuns_L6 r (nI lim) (nI w) rb (some 1) (nI e)) n a1 b1 c1 d1 f1 g1) = some (la, sx, d, q) := by
              intro x1 x2 x3
              rw [p_X4_nextRuns_J103, d_demand hd, bdS2, if_neg hd]
            have e80 : ∀ (x1 : Int32) (x2 x3 : Int64), p_X4_nextRuns_J80 r (nI lim) (nI w) (nI a) (nI u) (nI p) x1 x2 x3 rb la (some 1) sx (nI e) d q (fun a1 b1 c1 d1 f1 g1 => itr6 (p_X4_nextRuns_L6 r (nI lim) (nI w) rb (some 1) (nI e)) n a1 b1 c1 d1 f1 g1) = some (la, sx, d, q) := by
              intro x1 x2 x3
              rw [p_X4_nextRuns_J80, p_X4_nextRuns_J102, e103, e103, ite_self, ite_self]
            refine ⟨la, ?_, FrA.rf⟩
            rw [p_X4_nextRuns_J51, subI (show a ≤ lim by omega), X_wholeGroups (by omega), bdS1, e80, e80, ite_self]
          obtain ⟨la0, g0, f0⟩ := hx (nI 0)
          obtain ⟨la1, g1, f1⟩ := hx (nI 1)
          rw [g0, g1]
          split
          · exact ⟨la0, sx, mn, sm, d, q, mbl, mby, hd, f0, rfl, rfl⟩
          · exact ⟨la1, sx, mn, sm, d, q, mbl, mby, hd, f1, rfl, rfl⟩
    · cases n with
      | zero => omega
      | succ n =>
        have ea : min a lim = lim := by omega
        rw [ea] at hk ⊢
        left
        refine ⟨la, mn, p, mbl, mby, by omega, hp, FrA.rf, hk, ?_, ?_⟩
        · show p_X4_nextRuns_L6 r (nI lim) (nI w) rb (some 1) (nI e) _ (nI a) (nI u) la (nI p) (nI 0) (nI 0) = _
          rw [p_X4_nextRuns_L6, if_neg (show ¬ nI a < nI lim by rw [ltI (by omega) (by omega)]; omega), ite_self]
        · show p_X6_readRuns_L2 (nI lim) (nI w) mf (nI e) _ (nI lim) mn (nI p) (nI 0) (nI 0) mbl mby = _
          rw [p_X6_readRuns_L2, if_neg (by rw [ltI (by omega) (by omega)]; omega)]
theorem L_runs {r lim w p e : Nat} {rb : Nat → Nat → Int32} {mf : Nat → Int32} {la : Nat → Nat → Int64} {mn : Nat → Int64} {mbl mby : Int32} (hs : Src rb mf e) (hw : w ≤ 32) (hlim : lim ≤ 200) (hp : p ≤ e) : RunO r lim p e la (p_X4_nextRuns r (nI lim) (nI w) rb la (some 1) (nI p) (nI e) (nI 0) (nI 0)) (p_X6_readRuns (nI lim) (nI w) mf mn (nI p) (nI e) (nI 0) (nI 0) mbl mby) := by
  have := L_runs_L (r := r) hs hw hlim lim fu 0 0 p la mn mbl mby (by omega) (by omega) (by omega) (by rw [fu_eq]; omega) hp (fun t ht => by omega)
  rw [show min 0 lim = 0 by omega] at this
  exact this
