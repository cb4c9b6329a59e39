abbrev DifT (ints r n0 p e : Nat) (la : Nat → Nat → Int64) (x : Option DX) (m : Option DM) : Prop :=
  (∃ la' mn' p' swd' c b mw', p ≤ p' ∧ p' ≤ e ∧ FrA r la la' ∧ LkI ints r n0 la' mn' ∧ x = some (la', nI p', nI 0, nI 0, swd') ∧ m = some (nI 1, mn', nI p', nI 0, nI 0, c, b, mw')) ∨
  (∃ la' sx swd' d q, d ≠ nI 0 ∧ x = some (la', sx, d, q, swd') ∧ DeadM d q m)
theorem DifO.t {ints r n0 p p1 e : Nat} {la la1 : Nat → Nat → Int64} {x : Option DX} {m : Option DM} (h : DifO ints r n0 p1 e la1 x m) (hp : p ≤ p1) (hf : FrA r la la1) : DifT ints r n0 p e la x m := by
  rcases h with ⟨la', mn', p', s', c, b, mw', h1, h2, h3, h4, h5, h6⟩ | ⟨la', sx, s', d, q, h1, h2, h3, h4⟩
  · exact Or.inl ⟨la', mn', p', s', c, b, mw', by omega, h2, hf.tr h3, h4, h5, h6⟩
  · exact Or.inr ⟨la', sx, s', d, q, h1, h3, h4⟩
/-- the reference wants a number: it is there, or it is another, or there is none -/
theorem L_wants {c : Int64} {pos : Int32} {rb : Nat → Nat → Int32} {mf : Nat → Int32} {p e : Nat} (hs : Src rb mf e) (hp : p ≤ e) :
    (∃ p1, p + 1 ≤ p1 ∧ p1 ≤ e ∧ p_X4_nextVar rb (some 1) (nI p) (nI e) (nI 0) (nI 0) = some (c, nI p1, nI 0, nI 0) ∧ p_X6_wants c pos mf (nI p) (nI e) (nI 0) (nI 0) = some (nI 1, nI p1, nI 0, nI 0)) ∨
    (∃ v p1, v ≠ c ∧ p_X4_nextVar rb (some 1) (nI p) (nI e) (nI 0) (nI 0) = some (v, nI p1, nI 0, nI 0) ∧ p_X6_wants c pos mf (nI p) (nI e) (nI 0) (nI 0) = some (nI 0, nI p1, nI 5, pos)) ∨
    (∃ v sx sm d q, d ≠ nI 0 ∧ p_X4_nextVar rb (some 1) (nI p) (nI e) (nI 0) (nI 0) = some (v, sx, d, q) ∧ p_X6_wants c pos mf (nI p) (nI e) (nI 0) (nI 0) = some (nI 0, sm, d, q)) := by
  unfold p_X6_wants
  rcases L_var hs hp with ⟨v, p1, q1, q2, q3, q4⟩ | ⟨vx, sx, vm, sm, d, q, hd, q3, q4⟩
  · rw [q4, bdS4, if_pos (show nI 0 = nI 0 from rfl)]
    by_cases e1 : v = c
    · left
      refine ⟨p1, q1, q2, by rw [q3, e1], by rw [if_pos e1]⟩
    · right; left
      refine ⟨v, p1, e1, q3, ?_⟩
      rw [if_neg e1]
      rfl
  · right; right
    refine ⟨vx, sx, sm, d, q, hd, q3, ?_⟩
    rw [q4, bdS4, if_neg hd]
theorem L_diffs {r n0 ints p e : Nat} {rb : Nat → Nat → Int32} {mf : Nat → Int32} {la : Nat → Nat → Int64} {mn : Nat → Int64} {swd mw : Nat → Int32} {mbl mby : Int32} (hs : Src rb mf e) (hi : ints ≤ 1) (hn : n0 ≤ 200) (hp : p ≤ e) : DifT ints r n0 p e la (p_X4_nextDifferences r (nI n0) (nI ints) rb la (some 1) (nI p) (nI e) (nI 0) (nI 0) swd) (p_X6_readDifferences (nI n0) (nI ints) mf mn (nI p) (nI e) (nI 0) (nI 0) mbl mby mw) := by
  have b23 : ∀ ssp, p_X4_nextDifferences_J23 r (nI n0) (nI ints) (nI p) (nI 0) rb la (some 1) ssp (nI e) (nI 0) (nI 0) swd = p_X4_nextDifferences_J23 r (nI n0) (nI ints) (nI p) (nI 1) rb la (some 1) ssp (nI e) (nI 5) (nI p) swd := by
    intro ssp
    unfold p_X4_nextDifferences_J23
    rw [demF, d_demand (show nI 5 ≠ nI 0 by decide)]
  have b46 : ∀ ssp, p_X4_nextDifferences_J46 r (nI n0) (nI ints) (nI p) (nI 0) rb la (some 1) ssp (nI e) (nI 0) (nI 0) swd = p_X4_nextDifferences_J46 r (nI n0) (nI ints) (nI p) (nI 1) rb la (some 1) ssp (nI e) (nI 5) (nI p) swd := by
    intro ssp
    unfold p_X4_nextDifferences_J46
    rw [demF, d_demand (show nI 5 ≠ nI 0 by decide)]
  have b68 : ∀ ssp, p_X4_nextDifferences_J68 r (nI n0) (nI ints) (nI p) (nI 0) rb la (some 1) ssp (nI e) (nI 0) (nI 0) swd = p_X4_nextDifferences_J68 r (nI n0) (nI ints) (nI p) (nI 1) rb la (some 1) ssp (nI e) (nI 5) (nI p) swd := by
    intro ssp
    unfold p_X4_nextDifferences_J68
    rw [demF, d_demand (show nI 5 ≠ nI 0 by decide)]
  have dm : ∀ (d q sm : Int32), DeadM d q (some (nI 0, mn, sm, d, q, mbl, mby, mw)) := fun d q sm => ⟨_, _, _, _, _, rfl⟩
  have w1 := L_wants (c := lN 128) (pos := nI p) hs hp
  unfold p_X4_nextDifferences p_X6_readDifferences
  rcases w1 with ⟨p1, h1, h2, e1, e2⟩ | ⟨v, p1, hv, e1, e2⟩ | ⟨v, sx, sm, d, q, hd, e1, e2⟩
  · rw [e1, bdS4, e2, bdS4, if_pos (show lN 128 = lN 128 from rfl), if_neg (show ¬ nI 1 = nI 0 by decide), p_X4_nextDifferences_J23, demT, bdS2]
    rcases L_wants (c := lN 4) (pos := nI p) hs h2 with ⟨p2, h3, h4, e3, e4⟩ | ⟨v, p2, hv, e3, e4⟩ | ⟨v, sx, sm, d, q, hd, e3, e4⟩
    · rw [e3, bdS4, e4, bdS4, if_pos (show lN 4 = lN 4 from rfl), if_neg (show ¬ nI 1 = nI 0 by decide), p_X4_nextDifferences_J46, demT, bdS2, i2lI (by omega)]
      rcases L_wants (c := lN n0) (pos := nI p) hs h4 with ⟨p3, h5, h6, e5, e6⟩ | ⟨v, p3, hv, e5, e6⟩ | ⟨v, sx, sm, d, q, hd, e5, e6⟩
      · rw [e5, bdS4, e6, bdS4, if_pos (show lN n0 = lN n0 from rfl), if_neg (show ¬ nI 1 = nI 0 by decide), p_X4_nextDifferences_J68, demT, bdS2]
        rcases L_zig hs h6 with ⟨a, p4, h7, h8, e7, e8⟩ | ⟨vx, sx, vm, sm, d, q, hd, e7, e8⟩
        · rw [e7, bdS4, X_unz, bdS1, e8, bdS4, if_pos (show nI 0 = nI 0 from rfl), gdT (by decide), gdT (by decide), gdT (by decide), gdT (by decide), if_pos (show nI 0 < nI 200 by decide), show ix (nI 0) = 0 from rfl]
          have go : ∀ (x : Int64), (ints ≠ 0 → isI x) → DifT ints r n0 p e la (if nI 0 < nI n0 then itr6 (p_X4_nextDifferences_L111 r (nI n0) (nI ints) rb (some 1) (nI e)) fu (nI 1) (up la r (up (la r) 0 x)) (nI p4) (nI 0) (nI 0) swd else itr6 (p_X4_nextDifferences_L111 r (nI n0) (nI ints) rb (some 1) (nI e)) fu (nI 1) la (nI p4) (nI 0) (nI 0) swd) (itr9 (p_X6_readDifferences_L80 (nI n0) (nI ints) mf (nI e)) fu x (nI 1) (up mn 0 x) (nI p4) (nI 0) (nI 0) mbl mby mw) := by
            intro x hx
            by_cases hn0 : 0 < n0
            · rw [if_pos (show nI 0 < nI n0 by rw [ltI (by omega) (by omega)]; exact hn0)]
              have hk : LkI ints r (min 1 n0) (up la r (up (la r) 0 x)) (up mn 0 x) := by
                refine ⟨fun t ht => ?_, fun h0 t ht => ?_⟩
                · have : t = 0 := by omega
                  subst this
                  rw [up_s, up_s, up_s]
                · have : t = 0 := by omega
                  subst this
                  rw [up_s]
                  exact hx h0
              exact (L_blocks hs hi hn 200 fu 1 p4 (up la r (up (la r) 0 x)) (up mn 0 x) x swd mw mbl mby (by omega) (by omega) (by omega) (by rw [fu_eq]; omega) h8 hk (fun _ => up_s.symm)).t (by omega) (fun q hq => up_n hq)
            · rw [if_neg (show ¬ nI 0 < nI n0 by rw [ltI (by omega) (by omega)]; exact hn0)]
              exact (L_blocks hs hi hn 200 fu 1 p4 la (up mn 0 x) x swd mw mbl mby (by omega) (by omega) (by omega) (by rw [fu_eq]; omega) h8 ⟨fun t ht => by omega, fun _ t ht => by omega⟩ (fun h => by omega)).t (by omega) FrA.rf
          by_cases i0 : ints = 0
          · subst i0
            rw [if_pos (show nI 0 = nI 0 from rfl), if_pos (show nI 0 = nI 0 from rfl)]
            exact go (unz a) (fun h => absurd rfl h)
          · rw [if_neg (show ¬ nI ints = nI 0 by rw [eqI (by omega) (by omega)]; exact i0), if_neg (show ¬ nI ints = nI 0 by rw [eqI (by omega) (by omega)]; exact i0)]
            exact go (i2l (l2i (unz a))) (fun _ => isI_i _)
        · right
          have hj : ∃ la', p_X4_nextDifferences_J68 r (nI n0) (nI ints) (nI p) (nI 1) rb la (some 1) (nI p3) (nI e) (nI 0) (nI 0) swd = some (la', sx, d, q, swd) := by
            rw [p_X4_nextDifferences_J68, demT, bdS2, e7, bdS4, X_unz, bdS1, gdT (by decide), gdT (by decide)]
            simp only [d_diffs_L hd]
            split
            · split
              · split
                · exact ⟨_, rfl⟩
                · exact ⟨_, rfl⟩
              · exact ⟨_, rfl⟩
            · exact ⟨_, rfl⟩
          obtain ⟨la', hj⟩ := hj
          rw [p_X4_nextDifferences_J68, demT, bdS2] at hj
          rw [hj, e8, bdS4, if_neg hd]
          exact ⟨la', sx, swd, d, q, hd, rfl, dm d q sm⟩
      · right
        obtain ⟨la', g⟩ := d_J68 (v1 := r) (v2 := nI n0) (v3 := nI ints) (v4 := nI p) (s1 := nI 1) (rb := rb) (la := la) (srow := some 1) (ssp := nI p3) (sen := nI e) (str := nI 5) (stp := nI p) (swd := swd) (by decide)
        rw [e5, bdS4, e6, bdS4, if_neg hv, if_pos (show nI 0 = nI 0 from rfl), b68, g]
        exact ⟨la', _, swd, nI 5, nI p, by decide, rfl, dm _ _ _⟩
      · right
        obtain ⟨la0, g0⟩ := d_J68 (v1 := r) (v2 := nI n0) (v3 := nI ints) (v4 := nI p) (s1 := nI 0) (rb := rb) (la := la) (srow := some 1) (ssp := sx) (sen := nI e) (str := d) (stp := q) (swd := swd) hd
        obtain ⟨la1, g1⟩ := d_J68 (v1 := r) (v2 := nI n0) (v3 := nI ints) (v4 := nI p) (s1 := nI 1) (rb := rb) (la := la) (srow := some 1) (ssp := sx) (sen := nI e) (str := d) (stp := q) (swd := swd) hd
        rw [e5, bdS4, e6, bdS4, if_pos (show nI 0 = nI 0 from rfl), g0, g1]
        split
        · exact ⟨la1, _, swd, d, q, hd, rfl, dm _ _ _⟩
        · exact ⟨la0, _, swd, d, q, hd, rfl, dm _ _ _⟩
    · right
      obtain ⟨la', g⟩ := d_J46 (v1 := r) (v2 := nI n0) (v3 := nI ints) (v4 := nI p) (s1 := nI 1) (rb := rb) (la := la) (srow := some 1) (ssp := nI p2) (sen := nI e) (str := nI 5) (stp := nI p) (swd := swd) (by decide)
      rw [e3, bdS4, e4, bdS4, if_neg hv, if_pos (show nI 0 = nI 0 from rfl), b46, g]
      exact ⟨la', _, swd, nI 5, nI p, by decide, rfl, dm _ _ _⟩
    · right
      obtain ⟨la0, g0⟩ := d_J46 (v1 := r) (v2 := nI n0) (v3 := nI ints) (v4 := nI p) (s1 := nI 0) (rb := rb) (la := la) (srow := some 1) (ssp := sx) (sen := nI e) (str := d) (stp := q) (swd := swd) hd
      obtain ⟨la1, g1⟩ := d_J46 (v1 := r) (v2 := nI n0) (v3 := nI ints) (v4 := nI p) (s1 := nI 1) (rb := rb) (la := la) (srow := some 1) (ssp := sx) (sen := nI e) (str := d) (stp := q) (swd := swd) hd
      rw [e3, bdS4, e4, bdS4, if_pos (show nI 0 = nI 0 from rfl), g0, g1]
      split
      · exact ⟨la1, _, swd, d, q, hd, rfl, dm _ _ _⟩
      · exact ⟨la0, _, swd, d, q, hd, rfl, dm _ _ _⟩
  · right
    obtain ⟨la', g⟩ := d_J23 (v1 := r) (v2 := nI n0) (v3 := nI ints) (v4 := nI p) (s1 := nI 1) (rb := rb) (la := la) (srow := some 1) (ssp := nI p1) (sen := nI e) (str := nI 5) (stp := nI p) (swd := swd) (by decide)
    rw [e1, bdS4, e2, bdS4, if_neg hv, if_pos (show nI 0 = nI 0 from rfl), b23, g]
    exact ⟨la', _, swd, nI 5, nI p, by decide, rfl, dm _ _ _⟩
  · right
    obtain ⟨la0, g0⟩ := d_J23 (v1 := r) (v2 := nI n0) (v3 := nI ints) (v4 := nI p) (s1 := nI 0) (rb := rb) (la := la) (srow := some 1) (ssp := sx) (sen := nI e) (str := d) (stp := q) (swd := swd) hd
    obtain ⟨la1, g1⟩ := d_J23 (v1 := r) (v2 := nI n0) (v3 := nI ints) (v4 := nI p) (s1 := nI 1) (rb := rb) (la := la) (srow := some 1) (ssp := sx) (sen := nI e) (str := d) (stp := q) (swd := swd) hd
    rw [e1, bdS4, e2, bdS4, if_pos (show nI 0 = nI 0 from rfl), g0, g1]
    split
    · exact ⟨la1, _, swd, d, q, hd, rfl, dm _ _ _⟩
    · exact ⟨la0, _, swd, d, q, hd, rfl, dm _ _ _⟩
