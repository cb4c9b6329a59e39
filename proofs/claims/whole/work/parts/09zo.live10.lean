/-- runs with their length before them -/
theorem L_own {r lim p e : Nat} {rb : Nat → Nat → Int32} {mf : Nat → Int32} {la : Nat → Nat → Int64} {mn : Nat → Int64} {mbl mby : Int32} (hs : Src rb mf e) (hlim : lim ≤ 200) (hp : p ≤ e) :
    (∃ a p1 la' mn' c b, p ≤ p1 ∧ p1 + a ≤ e ∧ FrA r la la' ∧ Lk r lim la' mn' ∧ p_X6_readLength (nI 12000) mf (nI p) (nI e) (nI 0) (nI 0) = some (nI a, nI p1, nI 0, nI 0) ∧ p_X6_readRuns (nI lim) (nI 1) mf mn (nI p1) (nI (p1 + a)) (nI 0) (nI 0) mbl mby = some (nI 1, mn', nI (p1 + a), nI 0, nI 0, c, b) ∧ p_X6_isOver (nI (p1 + a)) (nI (p1 + a)) (nI 0) (nI 0) = some (nI 1, nI 0, nI 0) ∧ p_X1_readOwnRuns r (nI lim) rb la (some 1) (nI p) (nI e) (nI 0) (nI 0) = some (la', nI (p1 + a), nI e, nI 0, nI 0)) ∨
    (∃ x sm d q la' sx sn, x < nI 0 ∧ d ≠ nI 0 ∧ p_X6_readLength (nI 12000) mf (nI p) (nI e) (nI 0) (nI 0) = some (x, sm, d, q) ∧ p_X1_readOwnRuns r (nI lim) rb la (some 1) (nI p) (nI e) (nI 0) (nI 0) = some (la', sx, sn, d, q)) ∨
    (∃ a p1 mn' sm d q cm bm la' sx sn, d ≠ nI 0 ∧ p1 + a ≤ e ∧ p_X6_readLength (nI 12000) mf (nI p) (nI e) (nI 0) (nI 0) = some (nI a, nI p1, nI 0, nI 0) ∧ p_X6_readRuns (nI lim) (nI 1) mf mn (nI p1) (nI (p1 + a)) (nI 0) (nI 0) mbl mby = some (nI 0, mn', sm, d, q, cm, bm) ∧ p_X1_readOwnRuns r (nI lim) rb la (some 1) (nI p) (nI e) (nI 0) (nI 0) = some (la', sx, sn, d, q)) ∨
    (∃ a p1 p2 mn' c b d q la' sx sn, d ≠ nI 0 ∧ p1 + a ≤ e ∧ p_X6_readLength (nI 12000) mf (nI p) (nI e) (nI 0) (nI 0) = some (nI a, nI p1, nI 0, nI 0) ∧ p_X6_readRuns (nI lim) (nI 1) mf mn (nI p1) (nI (p1 + a)) (nI 0) (nI 0) mbl mby = some (nI 1, mn', nI p2, nI 0, nI 0, c, b) ∧ p_X6_isOver (nI (p1 + a)) (nI p2) (nI 0) (nI 0) = some (nI 0, d, q) ∧ p_X1_readOwnRuns r (nI lim) rb la (some 1) (nI p) (nI e) (nI 0) (nI 0) = some (la', sx, sn, d, q)) := by
  have he := hs.1
  have dead45 : ∀ (v ssp str stp : Int32) (s1 : Int32), str ≠ nI 0 → p_X1_readOwnRuns_J45 r (nI lim) (nI p) v s1 rb la (some 1) ssp (nI e) str stp = some (la, ssp, nI e, str, stp) := by
    intro v ssp str stp s1 hd
    rw [p_X1_readOwnRuns_J45, d_demand hd, bdS2, d_sound hd, bdS1, if_pos rfl]
  have bad44 : ∀ (v ssp : Int32), p_X1_readOwnRuns_J44 r (nI lim) (nI p) v rb la (some 1) ssp (nI e) (nI 0) (nI 0) = some (la, ssp, nI e, nI 10, nI p) := by
    intro v ssp
    rw [p_X1_readOwnRuns_J44, p_X1_readOwnRuns_J45, demF, bdS2, d_sound (by decide), bdS1, if_pos rfl]
  unfold p_X1_readOwnRuns p_X6_readLength p_X4_left
  rcases L_little (N := 4) hs hp (by omega) with ⟨v, p1, q1, q2, q3, q4⟩ | ⟨vx, sx, vm, sm, d, q, hd, q3, q4⟩
  · rw [q3, q4, bdS4, bdS4, bdS1, if_pos (show nI 0 = nI 0 from rfl), subI q2]
    have fail : p_X6_fails (nI 10) (nI p) (nI 0) (nI 0) = some (nI 0, nI 10, nI p) := rfl
    rw [fail, bdS3]
    rcases splitI (l2i v) with hneg | ⟨a, ha, hv⟩
    · rw [if_pos hneg, if_pos hneg, bad44]
      exact Or.inr (Or.inl ⟨(-1 : Int32), nI p1, nI 10, nI p, la, nI p1, nI e, by decide, by decide, rfl, rfl⟩)
    · rw [hv, if_neg (show ¬ nI a < nI 0 by rw [ltI (by omega) (by omega)]; omega), if_neg (show ¬ nI a < nI 0 by rw [ltI (by omega) (by omega)]; omega)]
      by_cases hlt : e - p1 < a
      · rw [if_pos (show nI (e - p1) < nI a by rw [ltI (by omega) (by omega)]; exact hlt), if_pos (show nI (e - p1) < nI a by rw [ltI (by omega) (by omega)]; exact hlt), bad44]
        exact Or.inr (Or.inl ⟨(-1 : Int32), nI p1, nI 10, nI p, la, nI p1, nI e, by decide, by decide, rfl, rfl⟩)
      · rw [if_neg (show ¬ nI (e - p1) < nI a by rw [ltI (by omega) (by omega)]; exact hlt), if_neg (show ¬ nI (e - p1) < nI a by rw [ltI (by omega) (by omega)]; exact hlt), if_neg (show ¬ nI 12000 < nI a by rw [ltI (by omega) (by omega)]; omega), p_X1_readOwnRuns_J45, demT, bdS2]
        have es : p_X4_isSound (nI 0) = some (nI 1) := rfl
        have hs2 : Src rb mf (p1 + a) := ⟨by omega, fun k hk => hs.2 k (by omega)⟩
        rw [es, bdS1, if_neg (show ¬ nI 1 = nI 0 by decide), addI]
        rcases L_runs (r := r) (la := la) (mn := mn) (mbl := mbl) (mby := mby) (w := 1) hs2 (by omega) hlim (show p1 ≤ p1 + a by omega) with ⟨la1, mn1, p2, c, b, r1, r2, r3, r4, r5, r6⟩ | ⟨la1, sx, mn1, sm, d, q, cm, bm, hd, r3, r5, r6⟩
        · rw [r5, bdS4]
          unfold p_X4_demandNothingLeft p_X6_isOver
          by_cases hend : p2 = p1 + a
          · left
            subst hend
            refine ⟨a, p1, la1, mn1, c, b, q1, by omega, r3, r4, rfl, r6, by rw [if_pos rfl], ?_⟩
            rw [if_neg (show ¬ nI (p1 + a) < nI (p1 + a) by rw [ltI (by omega) (by omega)]; omega), demT, bdS2, bdS2]
          · right; right; right
            refine ⟨a, p1, p2, mn1, c, b, nI 13, nI p2, la1, nI p2, nI e, by decide, by omega, rfl, r6, ?_, ?_⟩
            · rw [if_neg (show ¬ nI p2 = nI (p1 + a) by rw [eqI (by omega) (by omega)]; exact hend)]
              rfl
            · rw [if_pos (show nI p2 < nI (p1 + a) by rw [ltI (by omega) (by omega)]; omega), demF, bdS2, bdS2]
        · right; right; left
          refine ⟨a, p1, mn1, sm, d, q, cm, bm, la1, sx, nI e, hd, by omega, rfl, r6, ?_⟩
          rw [r5, bdS4, d_nothing hd, bdS2]
  · rw [q3, q4, bdS4, bdS4, bdS1, if_neg hd]
    right; left
    refine ⟨(-1 : Int32), sm, d, q, la, sx, nI e, by decide, hd, rfl, ?_⟩
    rw [p_X1_readOwnRuns_J44, dead45 _ _ _ _ _ hd, dead45 _ _ _ _ _ hd, ite_self, ite_self]
