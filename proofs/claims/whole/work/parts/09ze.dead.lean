/-! the class after a fault: nothing moves, the fault stays -/
theorem d_next {rb : Nat → Nat → Int32} {srow : Option Nat} {ssp sen str stp : Int32} (hd : str ≠ nI 0) : p_X4_next rb srow ssp sen str stp = some (nI 0, ssp, str, stp) := by
  unfold p_X4_next
  rw [if_neg hd]
theorem d_demand {v1 v2 v3 str stp : Int32} (hd : str ≠ nI 0) : p_X4_demand v1 v2 v3 str stp = some (str, stp) := by
  unfold p_X4_demand
  rw [if_neg hd]
theorem d_sound {str : Int32} (hd : str ≠ nI 0) : p_X4_isSound str = some (nI 0) := by
  unfold p_X4_isSound
  rw [if_neg hd]
theorem d_nothing {ssp sen str stp : Int32} (hd : str ≠ nI 0) : p_X4_demandNothingLeft ssp sen str stp = some (str, stp) := by
  unfold p_X4_demandNothingLeft
  rw [d_demand hd, d_demand hd, bdS2, ite_self]
theorem d_nextVar {rb : Nat → Nat → Int32} {srow : Option Nat} {ssp sen str stp : Int32} (hd : str ≠ nI 0) : ∃ v, p_X4_nextVar rb srow ssp sen str stp = some (v, ssp, str, stp) := by
  unfold p_X4_nextVar
  rw [fu_eq]
  show ∃ v, p_X4_nextVar_L4 rb srow sen _ (lN 0) (nI 0) ssp str stp = some (v, ssp, str, stp)
  rw [p_X4_nextVar_L4, if_pos (by decide), d_next hd, bdS4, if_neg (by decide), p_X4_nextVar_J58, if_pos (by decide)]
  exact ⟨_, rfl⟩
theorem d_little_L {rb : Nat → Nat → Int32} {srow : Option Nat} {ssp sen str stp : Int32} {N : Nat} (hd : str ≠ nI 0) (hN : N < 2 ^ 30) : ∀ (m n k : Nat) (v : Int64), N - k = m → k ≤ N → m < n → ∃ v', itr5 (p_X4_nextLittle_L5 (nI N) rb srow sen) n v (nI k) ssp str stp = some (v', ssp, str, stp) := by
  intro m
  induction m with
  | zero =>
    intro n k v h1 h2 h3
    cases n with
    | zero => omega
    | succ n =>
      refine ⟨v, ?_⟩
      show p_X4_nextLittle_L5 (nI N) rb srow sen _ v (nI k) ssp str stp = _
      rw [p_X4_nextLittle_L5, if_neg (by rw [ltI (by omega) (by omega)]; omega)]
  | succ m ih =>
    intro n k v h1 h2 h3
    cases n with
    | zero => omega
    | succ n =>
      obtain ⟨v', e⟩ := ih n (k + 1) (v ||| (lshl (i2l (nI 0)) (nI (8 * k)))) (by omega) (by omega) (by omega)
      refine ⟨v', ?_⟩
      show p_X4_nextLittle_L5 (nI N) rb srow sen _ v (nI k) ssp str stp = _
      rw [p_X4_nextLittle_L5, if_pos (by rw [ltI (by omega) (by omega)]; omega), d_next hd, bdS4, mulI, addI]
      exact e
theorem d_little {rb : Nat → Nat → Int32} {srow : Option Nat} {ssp sen str stp : Int32} {N : Nat} (hd : str ≠ nI 0) (hN : N ≤ 8) : ∃ v', p_X4_nextLittle (nI N) rb srow ssp sen str stp = some (v', ssp, str, stp) :=
  d_little_L hd (by omega) N fu 0 (lN 0) (by omega) (by omega) (by rw [fu_eq]; omega)
theorem d_packed {v1 : Nat} {v2 v3 v4 v5 : Int32} {rb : Nat → Nat → Int32} {la : Nat → Nat → Int64} {srow : Option Nat} {ssp sen str stp : Int32} (hd : str ≠ nI 0) : p_X4_nextPacked v1 v2 v3 v4 v5 rb la srow ssp sen str stp = some (la, ssp, str, stp) := by
  unfold p_X4_nextPacked
  rw [fu_eq]
  show p_X4_nextPacked_L9 v1 v2 v3 v4 v5 rb srow sen _ _ _ v2 la ssp str stp = _
  rw [p_X4_nextPacked_L9, if_neg hd, ite_self]
theorem d_runs {v1 : Nat} {v2 v3 : Int32} {rb : Nat → Nat → Int32} {la : Nat → Nat → Int64} {srow : Option Nat} {ssp sen str stp : Int32} (hd : str ≠ nI 0) : p_X4_nextRuns v1 v2 v3 rb la srow ssp sen str stp = some (la, ssp, str, stp) := by
  unfold p_X4_nextRuns
  rw [fu_eq]
  show p_X4_nextRuns_L6 v1 v2 v3 rb srow sen _ _ _ la ssp str stp = _
  rw [p_X4_nextRuns_L6, if_neg hd, ite_self, ite_self]
theorem d_widths_L {v1 v2 : Int32} {rb : Nat → Nat → Int32} {srow : Option Nat} {ssp sen str stp : Int32} (hd : str ≠ nI 0) : ∀ (m n k : Nat) (swd : Nat → Int32), 4 - k = m → k ≤ 4 → m < n → ∃ swd', itr5 (p_X4_nextWidths_L2 v1 v2 rb srow sen) n (nI k) ssp str stp swd = some (ssp, str, stp, swd') := by
  intro m
  induction m with
  | zero =>
    intro n k swd h1 h2 h3
    cases n with
    | zero => omega
    | succ n =>
      refine ⟨swd, ?_⟩
      show p_X4_nextWidths_L2 v1 v2 rb srow sen _ (nI k) ssp str stp swd = _
      rw [p_X4_nextWidths_L2, if_neg (by rw [ltI (by omega) (by omega)]; omega)]
  | succ m ih =>
    intro n k swd h1 h2 h3
    cases n with
    | zero => omega
    | succ n =>
      obtain ⟨swd', e⟩ := ih n (k + 1) (up swd k (nI 0)) (by omega) (by omega) (by omega)
      refine ⟨swd', ?_⟩
      have e43 : ∀ (a b c : Int32) (kx : Int32 → Int32 → Int32 → Int32 → (Nat → Int32) → Option (Int32 × Int32 × Int32 × (Nat → Int32))), p_X4_nextWidths_J43 (nI k) a b c ssp str stp swd kx = kx (nI (k + 1)) ssp str stp (up swd k (nI 0)) := by
        intro a b c kx
        rw [p_X4_nextWidths_J43, d_demand hd, bdS2, if_neg hd, inbI (by omega), gdD (by omega), ixI (by omega), addI]
      have e35 : ∀ (a b c d : Int32) (kx : Int32 → Int32 → Int32 → Int32 → (Nat → Int32) → Option (Int32 × Int32 × Int32 × (Nat → Int32))), p_X4_nextWidths_J35 (nI k) a b c d ssp str stp swd kx = kx (nI (k + 1)) ssp str stp (up swd k (nI 0)) := by
        intro a b c d kx
        rw [p_X4_nextWidths_J35, e43, e43, ite_self]
      show p_X4_nextWidths_L2 v1 v2 rb srow sen _ (nI k) ssp str stp swd = _
      rw [p_X4_nextWidths_L2, if_pos (by rw [ltI (by omega) (by omega)]; omega), d_next hd, bdS4, e35, e35, ite_self]
      exact e
theorem d_widths {v1 v2 : Int32} {rb : Nat → Nat → Int32} {srow : Option Nat} {ssp sen str stp : Int32} {swd : Nat → Int32} (hd : str ≠ nI 0) : ∃ swd', p_X4_nextWidths v1 v2 rb srow ssp sen str stp swd = some (ssp, str, stp, swd') :=
  d_widths_L hd 4 fu 0 swd (by omega) (by omega) (by rw [fu_eq]; omega)
theorem d_diffs_L {v1 : Nat} {v2 v3 : Int32} {rb : Nat → Nat → Int32} {la : Nat → Nat → Int64} {srow : Option Nat} {ssp sen str stp : Int32} {swd : Nat → Int32} (hd : str ≠ nI 0) (k : Int32) : itr6 (p_X4_nextDifferences_L111 v1 v2 v3 rb srow sen) fu k la ssp str stp swd = some (la, ssp, str, stp, swd) := by
  rw [fu_eq]
  show p_X4_nextDifferences_L111 v1 v2 v3 rb srow sen _ k la ssp str stp swd = _
  rw [p_X4_nextDifferences_L111, if_neg hd, ite_self]
theorem d_J68 {v1 : Nat} {v2 v3 v4 s1 : Int32} {rb : Nat → Nat → Int32} {la : Nat → Nat → Int64} {srow : Option Nat} {ssp sen str stp : Int32} {swd : Nat → Int32} (hd : str ≠ nI 0) : ∃ la', p_X4_nextDifferences_J68 v1 v2 v3 v4 s1 rb la srow ssp sen str stp swd = some (la', ssp, str, stp, swd) := by
  obtain ⟨v, e⟩ := d_nextVar (rb := rb) (srow := srow) (ssp := ssp) (sen := sen) (stp := stp) hd
  rw [p_X4_nextDifferences_J68, d_demand hd, bdS2, e, bdS4]
  unfold p_X5_unzigged
  rw [bdS1, gdT (by decide), gdT (by decide)]
  simp only [d_diffs_L hd]
  split
  · split
    · split
      · exact ⟨_, rfl⟩
      · exact ⟨_, rfl⟩
    · exact ⟨_, rfl⟩
  · exact ⟨_, rfl⟩
theorem d_J46 {v1 : Nat} {v2 v3 v4 s1 : Int32} {rb : Nat → Nat → Int32} {la : Nat → Nat → Int64} {srow : Option Nat} {ssp sen str stp : Int32} {swd : Nat → Int32} (hd : str ≠ nI 0) : ∃ la', p_X4_nextDifferences_J46 v1 v2 v3 v4 s1 rb la srow ssp sen str stp swd = some (la', ssp, str, stp, swd) := by
  obtain ⟨v, e⟩ := d_nextVar (rb := rb) (srow := srow) (ssp := ssp) (sen := sen) (stp := stp) hd
  rw [p_X4_nextDifferences_J46, d_demand hd, bdS2, e, bdS4]
  split
  · exact d_J68 hd
  · exact d_J68 hd
theorem d_J23 {v1 : Nat} {v2 v3 v4 s1 : Int32} {rb : Nat → Nat → Int32} {la : Nat → Nat → Int64} {srow : Option Nat} {ssp sen str stp : Int32} {swd : Nat → Int32} (hd : str ≠ nI 0) : ∃ la', p_X4_nextDifferences_J23 v1 v2 v3 v4 s1 rb la srow ssp sen str stp swd = some (la', ssp, str, stp, swd) := by
  obtain ⟨v, e⟩ := d_nextVar (rb := rb) (srow := srow) (ssp := ssp) (sen := sen) (stp := stp) hd
  rw [p_X4_nextDifferences_J23, d_demand hd, bdS2, e, bdS4]
  split
  · exact d_J46 hd
  · exact d_J46 hd
theorem d_diffs {v1 : Nat} {v2 v3 : Int32} {rb : Nat → Nat → Int32} {la : Nat → Nat → Int64} {srow : Option Nat} {ssp sen str stp : Int32} {swd : Nat → Int32} (hd : str ≠ nI 0) : ∃ la', p_X4_nextDifferences v1 v2 v3 rb la srow ssp sen str stp swd = some (la', ssp, str, stp, swd) := by
  obtain ⟨v, e⟩ := d_nextVar (rb := rb) (srow := srow) (ssp := ssp) (sen := sen) (stp := stp) hd
  unfold p_X4_nextDifferences
  rw [e, bdS4]
  split
  · exact d_J23 hd
  · exact d_J23 hd
theorem d_text {v1 : Nat} {v2 : Int32} {xc : Nat → Int32} {xt : Nat → Nat → Int32} {xn : Nat → Nat → Int64} {xl : Nat → Nat → Int32} {rc : Nat → Int32} {rb : Nat → Nat → Int32} {srow : Option Nat} {ssp sen str : Int32} (hd : str ≠ nI 0) : p_X4_nextText v1 v2 xc xt xn xl rc rb srow ssp sen str = some (xc, xt, xn, xl, ssp) := by
  unfold p_X4_nextText
  rw [if_neg hd]
theorem d_expect {v1 : Int32} {rb : Nat → Nat → Int32} {srow : Option Nat} {ssp sen str stp : Int32} (hd : str ≠ nI 0) : p_X4_expect v1 rb srow ssp sen str stp = some (ssp, str, stp) := by
  unfold p_X4_expect
  rw [d_next hd, bdS4, d_demand hd, d_demand hd, bdS2, ite_self]
theorem d_zig {rb : Nat → Nat → Int32} {srow : Option Nat} {ssp sen str stp rzp : Int32} (hd : str ≠ nI 0) : ∃ a, p_X1_nextZigField rb srow ssp sen str stp rzp = some (a, ssp, str, stp, ssp) := by
  obtain ⟨v, e⟩ := d_nextVar (rb := rb) (srow := srow) (ssp := ssp) (sen := sen) (stp := stp) hd
  unfold p_X1_nextZigField p_X5_unzigged
  rw [d_expect hd, bdS3, e, bdS4, bdS1]
  exact ⟨_, rfl⟩
theorem d_ones {n0 : Nat} {la : Nat → Nat → Int64} {str : Int32} (hd : str ≠ nI 0) (hn : n0 ≤ 200) : p_X1_countOnes (nI n0) la str = some (nI 0) := by
  have key : ∀ (m n k : Nat), n0 - k = m → k ≤ n0 → m < n → itr2 (p_X1_countOnes_L4 (nI n0) la str) n (nI 0) (nI k) = some (nI 0) := by
    intro m
    induction m with
    | zero =>
      intro n k h1 h2 h3
      cases n with
      | zero => omega
      | succ n =>
        show p_X1_countOnes_L4 (nI n0) la str _ (nI 0) (nI k) = _
        rw [p_X1_countOnes_L4, if_neg (by rw [ltI (by omega) (by omega)]; omega)]
    | succ m ih =>
      intro n k h1 h2 h3
      cases n with
      | zero => omega
      | succ n =>
        show p_X1_countOnes_L4 (nI n0) la str _ (nI 0) (nI k) = _
        rw [p_X1_countOnes_L4, if_pos (by rw [ltI (by omega) (by omega)]; omega), if_pos (by rw [ltI (by omega) (by omega)]; omega), d_sound hd, bdS1, if_pos rfl, addI, addI]
        exact ih n (k + 1) (by omega) (by omega) (by omega)
  exact key n0 fu 0 (by omega) (by omega) (by rw [fu_eq]; omega)
theorem d_push {v1 : Int32} {xk xc : Nat → Int32} {xt : Nat → Nat → Int32} {xn : Nat → Nat → Int64} {la : Nat → Nat → Int64} {str : Int32} (hd : str ≠ nI 0) : p_X1_pushNumbers v1 xk xc xt xn la str = some (xc, xt, xn) := by
  unfold p_X1_pushNumbers
  rw [fu_eq]
  show p_X1_pushNumbers_L2 v1 xk la str _ _ xc xt xn = _
  rw [p_X1_pushNumbers_L2, d_sound hd, bdS1, if_pos rfl, ite_self, ite_self]
theorem d_plain {v1 : Nat} {v2 : Int32} {xk xc : Nat → Int32} {xt : Nat → Nat → Int32} {xn : Nat → Nat → Int64} {xl : Nat → Nat → Int32} {rc : Nat → Int32} {rb : Nat → Nat → Int32} {la : Nat → Nat → Int64} {srow : Option Nat} {ssp sen str stp : Int32} (hd : str ≠ nI 0) : p_X1_readPlain v1 v2 xk xc xt xn xl rc rb la srow ssp sen str stp = some (xc, xt, xn, xl, la, ssp, str, stp) := by
  unfold p_X1_readPlain p_X5_wholeGroups
  rw [bdS1, d_packed hd, bdS4, d_push hd, bdS3, fu_eq]
  have e : itr8 (p_X1_readPlain_L37 v1 v2 xk rc rb la srow sen) 1048576 (nI 0) xc xt xn xl ssp str stp = some (xc, xt, xn, xl, la, ssp, str, stp) := by
    show p_X1_readPlain_L37 v1 v2 xk rc rb la srow sen _ _ xc xt xn xl ssp str stp = _
    rw [p_X1_readPlain_L37, d_sound hd, bdS1, if_pos rfl, ite_self]
  rw [e, ite_self]
theorem d_places {n0 : Nat} {xk xc : Nat → Int32} {xt : Nat → Nat → Int32} {xn : Nat → Nat → Int64} {xl : Nat → Nat → Int32} {rb : Nat → Nat → Int32} {la : Nat → Nat → Int64} {srow : Option Nat} {ssp sen str stp : Int32} (hd : str ≠ nI 0) (hn : n0 ≤ 200) : p_X1_readPlaces (nI n0) xk xc xt xn xl rb la srow ssp sen str stp = some (xc, xt, xn, xl, la, ssp, str, stp) := by
  have key : ∀ (kx : Int32 → Int32 → Option ((Nat → Int32) × (Nat → Nat → Int32) × (Nat → Nat → Int64) × (Nat → Nat → Int32) × (Nat → Nat → Int64) × Int32 × Int32 × Int32)) (m n k : Nat), n0 - k = m → k ≤ n0 → m < n → itr3 (p_X1_readPlaces_L62 (nI n0) ssp xc la kx) n (nI k) str stp = kx str stp := by
    intro kx m
    induction m with
    | zero =>
      intro n k h1 h2 h3
      cases n with
      | zero => omega
      | succ n =>
        show p_X1_readPlaces_L62 (nI n0) ssp xc la kx _ (nI k) str stp = _
        rw [p_X1_readPlaces_L62, if_neg (by rw [ltI (by omega) (by omega)]; omega)]
    | succ m ih =>
      intro n k h1 h2 h3
      cases n with
      | zero => omega
      | succ n =>
        show p_X1_readPlaces_L62 (nI n0) ssp xc la kx _ (nI k) str stp = _
        rw [p_X1_readPlaces_L62, if_pos (by rw [ltI (by omega) (by omega)]; omega), if_pos (by rw [ltI (by omega) (by omega)]; omega), inbI (by omega), gdD (by omega), d_demand hd, d_demand hd, bdS2, ite_self, addI]
        exact ih n (k + 1) (by omega) (by omega) (by omega)
  have e31 : ∀ a b, p_X1_readPlaces_J31 (nI n0) ssp a b xk xc xt xn xl rb la srow ssp sen str stp = some (xc, xt, xn, xl, la, ssp, str, stp) := by
    intro a b
    rw [p_X1_readPlaces_J31, d_demand hd, bdS2, d_runs hd, bdS4]
    refine (key _ n0 fu 0 (by omega) (by omega) (by rw [fu_eq]; omega)).trans ?_
    rw [fu_eq]
    show p_X1_readPlaces_L122 (nI n0) xk la ssp str stp _ _ xc xt xn xl = _
    rw [p_X1_readPlaces_L122, d_sound hd, bdS1, if_pos rfl, ite_self, ite_self]
  unfold p_X1_readPlaces
  rw [d_next hd, bdS4, e31, e31, ite_self]
theorem d_own {v1 : Nat} {v2 : Int32} {rb : Nat → Nat → Int32} {la : Nat → Nat → Int64} {srow : Option Nat} {ssp sen str stp : Int32} (hd : str ≠ nI 0) : p_X1_readOwnRuns v1 v2 rb la srow ssp sen str stp = some (la, ssp, sen, str, stp) := by
  have e45 : ∀ a b c, p_X1_readOwnRuns_J45 v1 v2 a b c rb la srow ssp sen str stp = some (la, ssp, sen, str, stp) := by
    intro a b c
    rw [p_X1_readOwnRuns_J45, d_demand hd, bdS2, d_sound hd, bdS1, if_pos rfl]
  obtain ⟨v, e⟩ := d_little (rb := rb) (srow := srow) (ssp := ssp) (sen := sen) (stp := stp) (N := 4) hd (by omega)
  unfold p_X1_readOwnRuns p_X4_left
  rw [e, bdS4, bdS1]
  simp only [p_X1_readOwnRuns_J44, e45, ite_self]
theorem d_lengths {n0 : Nat} {xc : Nat → Int32} {xt : Nat → Nat → Int32} {xn : Nat → Nat → Int64} {xl : Nat → Nat → Int32} {rc : Nat → Int32} {rb : Nat → Nat → Int32} {la : Nat → Nat → Int64} {srow : Option Nat} {ssp sen str stp : Int32} {swd : Nat → Int32} (hd : str ≠ nI 0) (hn : n0 ≤ 200) : ∃ la', p_X1_readLengths (nI n0) xc xt xn xl rc rb la srow ssp sen str stp swd = some (xc, xt, xn, xl, la', ssp, str, stp, swd) := by
  obtain ⟨la1, e1⟩ := d_diffs (v1 := 2) (v2 := nI n0) (v3 := nI 1) (rb := rb) (la := la) (srow := srow) (ssp := ssp) (sen := sen) (stp := stp) (swd := swd) hd
  have e133 : itr6 (p_X1_readLengths_L133 (nI n0) rc rb la1 srow sen str stp swd) fu (nI 0) xc xt xn xl ssp = some (xc, xt, xn, xl, la1, ssp, str, stp, swd) := by
    rw [fu_eq]
    show p_X1_readLengths_L133 (nI n0) rc rb la1 srow sen str stp swd _ _ xc xt xn xl ssp = _
    rw [p_X1_readLengths_L133, d_sound hd, bdS1, if_pos rfl, ite_self, ite_self]
  have e91 : ∀ a b, p_X1_readLengths_J91 (nI n0) a b xc xt xn xl rc rb la1 srow ssp sen str stp swd = some (xc, xt, xn, xl, la1, ssp, str, stp, swd) := by
    intro a b
    rw [p_X1_readLengths_J91]
    unfold p_X4_left
    rw [d_demand hd, d_demand hd, bdS2, bdS1, e133, ite_self, ite_self]
  have key : ∀ (m n k : Nat) (a : Int64) (b : Int32), n0 - k = m → k ≤ n0 → m < n → itr3 (p_X1_readLengths_L21 (nI n0) la1 (fun v2_10 v4_11 => p_X1_readLengths_J91 (nI n0) v2_10 v4_11 xc xt xn xl rc rb la1 srow ssp sen str stp swd)) n a b (nI k) = some (xc, xt, xn, xl, la1, ssp, str, stp, swd) := by
    intro m
    induction m with
    | zero =>
      intro n k a b h1 h2 h3
      cases n with
      | zero => omega
      | succ n =>
        show p_X1_readLengths_L21 (nI n0) la1 (fun v2_10 v4_11 => p_X1_readLengths_J91 (nI n0) v2_10 v4_11 xc xt xn xl rc rb la1 srow ssp sen str stp swd) _ a b (nI k) = _
        rw [p_X1_readLengths_L21, if_neg (by rw [ltI (by omega) (by omega)]; omega)]
        exact e91 a b
    | succ m ih =>
      intro n k a b h1 h2 h3
      cases n with
      | zero => omega
      | succ n =>
        show p_X1_readLengths_L21 (nI n0) la1 (fun v2_10 v4_11 => p_X1_readLengths_J91 (nI n0) v2_10 v4_11 xc xt xn xl rc rb la1 srow ssp sen str stp swd) _ a b (nI k) = _
        have hi := fun a b => ih n (k + 1) a b (by omega) (by omega) (by omega)
        rw [p_X1_readLengths_L21, if_pos (by rw [ltI (by omega) (by omega)]; omega), if_pos (by rw [ltI (by omega) (by omega)]; omega), p_X1_readLengths_J72, p_X1_readLengths_J73, p_X1_readLengths_J73, inbI (by omega), gdD (by omega), gdD (by omega), gdD (by omega), gdD (by omega), addI]
        split
        · exact hi _ _
        · split
          · exact hi _ _
          · split
            · exact hi _ _
            · exact hi _ _
  unfold p_X1_readLengths
  rw [show (2 : Nat) = 2 from rfl, e1, bdS5]
  exact ⟨la1, key n0 fu 0 _ _ (by omega) (by omega) (by rw [fu_eq]; omega)⟩
