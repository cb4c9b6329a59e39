/-! the file's bytes: put and cut -/
theorem sim_cut {rc rv : Nat → Int32} {rb : Nat → Nat → Int32} {mf : Nat → Int32} {ms : Int32} (h : Filed rc rv rb mf ms) (v : Int32) : ∃ r rc' ms', p_X5_cut v rc = some (r, rc') ∧ p_X6_cut v ms = some (r, ms') ∧ Filed rc' rv rb mf ms' ∧ ∀ q, q ≠ 1 → rc' q = rc q := by
  obtain ⟨⟨l, hx, hm⟩, hv⟩ := h
  have hl : l.length ≤ 12000 := hm.2.1
  have h' : Filed rc rv rb mf ms := ⟨⟨l, hx, hm⟩, hv⟩
  unfold p_X5_cut p_X6_cut
  rw [hm.1, hx.1]
  rcases splitI v with hn | ⟨j, hj, rfl⟩
  · rw [M_in_neg hn 0 _ (by omega), bdS1, if_pos rfl, if_pos hn]
    exact ⟨_, _, _, rfl, rfl, by rw [← hm.1]; exact h', fun _ _ => rfl⟩
  · rw [i2lI (n := l.length) (by omega), M_in_nat (by omega) (by omega) (by omega), bdS1, if_neg (show ¬ nI j < nI 0 by rw [ltI (by omega) (by omega)]; omega)]
    by_cases hlt : l.length < j
    · rw [if_pos (by rw [ltI (by omega) (by omega)]; exact hlt), if_neg (show ¬ (0 ≤ j ∧ j ≤ l.length) by omega), if_pos rfl]
      exact ⟨_, _, _, rfl, rfl, by rw [← hm.1]; exact h', fun _ _ => rfl⟩
    · rw [if_neg (by rw [ltI (by omega) (by omega)]; exact hlt), if_pos (show 0 ≤ j ∧ j ≤ l.length by omega), if_neg (show ¬ nI 1 = nI 0 by decide)]
      have es : p_X3_shorten 1 (nI j) rc = some (up rc 1 (nI j)) := by
        unfold p_X3_shorten
        rw [hx.1, iminI (by omega) (by omega), imaxI (by omega) (by omega)]
        congr 2
        rw [show max 0 (min j l.length) = j by omega]
      rw [es, bdS1]
      have hlen : (l.take j).length = j := by rw [List.length_take]; omega
      refine ⟨_, _, _, rfl, rfl, ⟨⟨l.take j, ⟨by rw [up_s, hlen], by rw [hlen]; show j ≤ 12000; omega, fun x hx' => hx.2.2.1 x (List.mem_of_mem_take hx'), fun k hk => ?_⟩, ⟨by rw [hlen], by rw [hlen]; omega, fun k hk => ?_⟩⟩, hv⟩, fun q hq => up_n hq⟩
      · rw [List.getElem_take]; exact hx.2.2.2 k _
      · rw [List.getElem_take]; exact hm.2.2 k _
theorem M_put_L {v : Int64} {N : Nat} {l : List Int32} (hN : N ≤ 8) (hl : l.length + N ≤ 12000) : ∀ (m n k : Nat) (mf : Nat → Int32), N - k = m → k ≤ N → m < n → Seg mf (l ++ litB v k) → ∃ mf', itr3 (p_X6_put_L32 v (nI N)) n (nI k) mf (nI (l.length + k)) = some (nI (l.length + N), mf', nI (l.length + N)) ∧ Seg mf' (l ++ litB v N) := by
  intro m
  induction m with
  | zero =>
    intro n k mf h1 h2 h3 h
    have : k = N := by omega
    subst this
    cases n with
    | zero => omega
    | succ n =>
      refine ⟨mf, ?_, h⟩
      show p_X6_put_L32 v (nI k) _ (nI k) mf (nI (l.length + k)) = _
      rw [p_X6_put_L32, if_neg (by rw [ltI (by omega) (by omega)]; omega)]
  | succ m ih =>
    intro n k mf h1 h2 h3 h
    cases n with
    | zero => omega
    | succ n =>
      have hs := h.snoc (b8 (l2i (lshr v (nI (8 * k)))))
      rw [List.append_assoc, ← litB_succ, List.length_append, litB_len] at hs
      obtain ⟨mf', e, g⟩ := ih n (k + 1) _ (by omega) (by omega) (by omega) hs
      refine ⟨mf', ?_, g⟩
      show p_X6_put_L32 v (nI N) _ (nI k) mf (nI (l.length + k)) = _
      rw [p_X6_put_L32, if_pos (by rw [ltI (by omega) (by omega)]; omega), inbI (by omega), gdD (by omega), ixI (by omega), mulI, addI, addI]
      exact e
theorem sim_put {rc rv : Nat → Int32} {rb : Nat → Nat → Int32} {mf : Nat → Int32} {ms : Int32} (h : Filed rc rv rb mf ms) (v1 : Int64) (v3 : Int32) : ∃ r rc' rv' rb' mf' ms', p_X5_put v1 v3 rc rv rb = some (r, rc', rv', rb') ∧ p_X6_put v1 v3 mf ms = some (r, mf', ms') ∧ Filed rc' rv' rb' mf' ms' ∧ FrR 1 rc rv rb rc' rv' rb' := by
  obtain ⟨⟨l, hx, hm⟩, hv⟩ := h
  have hl : l.length ≤ 12000 := hm.2.1
  have h' : Filed rc rv rb mf ms := ⟨⟨l, hx, hm⟩, hv⟩
  have hmt := hm.1
  subst hmt
  unfold p_X5_put p_X6_put
  rcases splitI v3 with hn | ⟨N, hN, rfl⟩
  · rw [M_in_neg hn 1 _ (by omega), bdS1, if_pos rfl]
    rw [if_pos (Int32.lt_trans hn (by decide))]
    exact ⟨_, _, _, _, _, _, rfl, rfl, h', FrR.rf⟩
  · rw [M_in_nat (by omega) (by omega) (by omega), bdS1, hx.1, addI]
    by_cases h1 : N < 1
    · rw [if_pos (by rw [ltI (by omega) (by omega)]; exact h1), if_neg (show ¬ (1 ≤ N ∧ N ≤ 8) by omega), if_pos rfl]
      exact ⟨_, _, _, _, _, _, rfl, rfl, h', FrR.rf⟩
    · rw [if_neg (show ¬ nI N < nI 1 by rw [ltI (by omega) (by omega)]; exact h1)]
      by_cases h8 : 8 < N
      · rw [if_pos (by rw [ltI (by omega) (by omega)]; exact h8), if_neg (show ¬ (1 ≤ N ∧ N ≤ 8) by omega), if_pos rfl]
        exact ⟨_, _, _, _, _, _, rfl, rfl, h', FrR.rf⟩
      · rw [if_neg (show ¬ nI 8 < nI N by rw [ltI (by omega) (by omega)]; exact h8), if_pos (show 1 ≤ N ∧ N ≤ 8 by omega), if_neg (show ¬ nI 1 = nI 0 by decide)]
        by_cases h40 : 12000 < l.length + N
        · rw [if_pos (by rw [ltI (by omega) (by omega)]; exact h40), if_pos (by rw [ltI (by omega) (by omega)]; exact h40)]
          exact ⟨_, _, _, _, _, _, rfl, rfl, h', FrR.rf⟩
        · rw [if_neg (by rw [ltI (by omega) (by omega)]; exact h40), if_neg (by rw [ltI (by omega) (by omega)]; exact h40)]
          obtain ⟨rc1, rv1, rb1, e1, g1, f1⟩ := X_lit (r := 1) (N := N) (w := v1) (by omega) (hx.out hv)
          obtain ⟨mf1, e2, g2⟩ := M_put_L (v := v1) (N := N) (l := l) (by omega) (by omega) N fu 0 mf (by omega) (by omega) (by rw [fu_eq]; omega) (by simpa [litB] using (show Seg mf l from hm.2.2))
          have hlen : (l ++ litB v1 N).length = l.length + N := by rw [List.length_append, litB_len]
          obtain ⟨r1, q1⟩ := g1.row (by rw [hlen]; show _ ≤ 12000; omega) (b8L.app hx.2.2.1 (b8L_lit _ _))
          rw [e1, bdS3, r1.1, hlen]
          exact ⟨_, _, _, _, _, _, rfl, e2, ⟨⟨_, r1, by rw [hlen], by rw [hlen]; omega, g2⟩, q1⟩, f1⟩
theorem sim_fault {xc : Nat → Int32} {str stp rwp : Int32} {mr mb mba mpg mdi : Int32} (h : FltR xc str stp rwp mr mb mba mpg mdi) (v : Int32) : ∃ r, p_X5_fault v xc str stp rwp = some r ∧ p_X6_fault v mb mba mpg mdi mr = some r := by
  unfold p_X5_fault p_X6_fault
  rcases splitI v with hn | ⟨j, hj, rfl⟩
  · have hne : ∀ k, k < 2 ^ 31 → v ≠ nI k := fun k hk e => by
      rw [e, ltI (by omega) (by omega)] at hn
      omega
    rw [M_in_neg hn 0 _ (by omega), bdS1, if_pos rfl, if_neg (hne 0 (by omega)), if_neg (hne 1 (by omega)), if_neg (hne 2 (by omega)), if_neg (hne 3 (by omega))]
    exact ⟨_, rfl, rfl⟩
  · rw [M_in_nat (by omega) (by omega) (by omega), bdS1]
    by_cases h3 : j ≤ 3
    · rw [if_pos (show 0 ≤ j ∧ j ≤ 3 by omega), if_neg (show ¬ nI 1 = nI 0 by decide)]
      have hj4 : j = 0 ∨ j = 1 ∨ j = 2 ∨ j = 3 := by omega
      rcases h with ⟨h1, h2, h4, h5, h6⟩ | ⟨h1, h2, h4, h5, h6⟩
      · rw [if_pos h1, h2, h4, h5, h6]
        rcases hj4 with rfl | rfl | rfl | rfl <;> exact ⟨_, rfl, rfl⟩
      · rw [if_neg (show ¬ mr = nI 0 by rw [h1]; decide), h2, h4, h5, h6]
        rcases hj4 with rfl | rfl | rfl | rfl
        · exact ⟨_, rfl, rfl⟩
        · exact ⟨_, rfl, rfl⟩
        · exact ⟨_, rfl, rfl⟩
        · rw [if_neg (show ¬ nI 3 = nI 0 by decide), if_neg (show ¬ nI 3 = nI 1 by decide), if_neg (show ¬ nI 3 = nI 2 by decide), if_pos rfl, if_neg (show ¬ nI 3 = nI 0 by decide), if_neg (show ¬ nI 3 = nI 1 by decide), if_neg (show ¬ nI 3 = nI 2 by decide)]
          refine ⟨_, rfl, ?_⟩
          split <;> rfl
    · rw [if_neg (show ¬ (0 ≤ j ∧ j ≤ 3) by omega), if_pos rfl, if_neg (by rw [eqI (by omega) (by omega)]; omega), if_neg (by rw [eqI (by omega) (by omega)]; omega), if_neg (by rw [eqI (by omega) (by omega)]; omega), if_neg (by rw [eqI (by omega) (by omega)]; omega)]
      exact ⟨_, rfl, rfl⟩
theorem M_isValue {c n : Nat} {mm : Nat → Int32} (v2 : Int32) (hc : c < 4) (hn : mm c = nI n) (h : n ≤ 200) : (∃ i, i < n ∧ v2 = nI i ∧ p_X6_isValue (nI c) v2 mm = some (nI 1)) ∨ ((v2 < nI 0 ∨ ∃ i, i < 2 ^ 31 ∧ v2 = nI i ∧ n ≤ i) ∧ p_X6_isValue (nI c) v2 mm = some (nI 0)) := by
  unfold p_X6_isValue
  rcases colAt (nI c) with ⟨d, hd, e, e1, e2⟩ | ⟨e1, _⟩
  · rw [e2, bdS1, if_neg (show ¬ nI 1 = nI 0 by decide), inbI (by omega), gdD (by omega), ixI (by omega), hn]
    rcases splitI v2 with hneg | ⟨j, hj, rfl⟩
    · right
      refine ⟨Or.inl hneg, ?_⟩
      rw [M_in_neg hneg 0 _ (by omega), bdS1, if_pos rfl]
    · rw [M_in_lt hj (by omega), bdS1]
      by_cases hlt : j < n
      · left
        exact ⟨j, hlt, rfl, by rw [if_pos hlt, if_neg (show ¬ nI 1 = nI 0 by decide)]⟩
      · right
        exact ⟨Or.inr ⟨j, hj, rfl, by omega⟩, by rw [if_neg hlt, if_pos rfl]⟩
  · exfalso
    unfold p_X5_columnAt at e1
    rw [if_neg (by rw [ltI (by omega) (by omega)]; omega), if_pos (by rw [ltI (by omega) (by omega)]; exact hc), inbI (by omega), gdD hc] at e1
    cases e1
theorem X_holds_no {c n : Nat} {xc : Nat → Int32} {v2 : Int32} (hn : xc c = nI n) (h : n ≤ 200) (hv : v2 < nI 0 ∨ ∃ i, i < 2 ^ 31 ∧ v2 = nI i ∧ n ≤ i) : p_X0_holds c v2 xc = some (nI 0) := by
  rcases hv with hneg | ⟨i, hi, rfl, hle⟩
  · unfold p_X0_holds
    rw [if_pos hneg]
  · rw [X_holds hn h hi, if_neg (by omega)]
theorem isV_no {v1 : Int32} {v2 : Int32} {mm : Nat → Int32} (h : p_X6_isColumn v1 = some (nI 0)) : p_X6_isValue v1 v2 mm = some (nI 0) := by
  unfold p_X6_isValue
  rw [h, bdS1, if_pos rfl]
theorem sim_has {xk xo xc : Nat → Int32} {xt : Nat → Nat → Int32} {xn : Nat → Nat → Int64} {xl : Nat → Nat → Int32} {mk mo mm mt : Nat → Int32} {mv : Nat → Int64} {mx : Nat → Int32} (h : Cols xk xo xc xt xn xl mk mo mm mt mv mx) (v1 v2 : Int32) : ∃ r, p_X5_has v1 v2 xc xt = some r ∧ p_X6_has v1 v2 mm mt = some r := by
  unfold p_X5_has p_X6_has
  rcases colAt v1 with ⟨c, hc, rfl, e1, e2⟩ | ⟨e1, e2⟩
  · obtain ⟨K, O, vals, w, x, m⟩ := h c hc
    have hn := w.n
    rw [e1, bdS1, moS, gdD (by omega)]
    rcases M_isValue v2 hc m.n hn with ⟨i, hi, rfl, e3⟩ | ⟨hv, e3⟩
    · rw [e3, bdS1, X_holds x.n hn (by omega), bdS1, if_pos hi, if_neg (show ¬ nI 1 = nI 0 by decide), if_neg (show ¬ nI 1 = nI 0 by decide), X_isThere (x.v i hi).1 (th_le _) (by omega), bdS1, mulI, addI, inbI (by omega), gdD (by omega), ixI (by omega), (m.v i hi).1]
      by_cases h0 : nI (th vals[i]) = nI 0
      · rw [if_pos h0]; exact ⟨_, rfl, rfl⟩
      · rw [if_neg h0]; exact ⟨_, rfl, rfl⟩
    · rw [e3, bdS1, X_holds_no x.n hn hv, bdS1, if_pos rfl, if_pos rfl]
      exact ⟨_, rfl, rfl⟩
  · rw [e1, bdS1, moN, isV_no e2, bdS1, if_pos rfl]
    exact ⟨_, rfl, rfl⟩
theorem nu_no {a : AV} (h : nI (th a) = nI 0) : nu a = lN 0 := by
  cases a with
  | none => rfl
  | some q => exact absurd h (th1 q)
theorem sim_value {xk xo xc : Nat → Int32} {xt : Nat → Nat → Int32} {xn : Nat → Nat → Int64} {xl : Nat → Nat → Int32} {mk mo mm mt : Nat → Int32} {mv : Nat → Int64} {mx : Nat → Int32} (h : Cols xk xo xc xt xn xl mk mo mm mt mv mx) (v1 v2 : Int32) : ∃ r, p_X5_value v1 v2 xc xn = some r ∧ p_X6_value v1 v2 mm mt mv = some r := by
  unfold p_X5_value p_X6_value
  rcases colAt v1 with ⟨c, hc, rfl, e1, e2⟩ | ⟨e1, e2⟩
  · obtain ⟨K, O, vals, w, x, m⟩ := h c hc
    have hn := w.n
    rw [e1, bdS1, moS, gdD (by omega)]
    rcases M_isValue v2 hc m.n hn with ⟨i, hi, rfl, e3⟩ | ⟨hv, e3⟩
    · rw [e3, bdS1, X_holds x.n hn (by omega), bdS1, if_pos hi, if_neg (show ¬ nI 1 = nI 0 by decide), if_neg (show ¬ nI 1 = nI 0 by decide), X_numberAt (by omega), bdS1, mulI, addI, inbI (by omega), gdD (by omega), gdD (by omega), ixI (by omega), (m.v i hi).1, (m.v i hi).2.1, (x.v i hi).2.1]
      refine ⟨_, rfl, ?_⟩
      by_cases h0 : nI (th vals[i]) = nI 0
      · rw [if_pos h0, nu_no h0]
      · rw [if_neg h0]
    · rw [e3, bdS1, X_holds_no x.n hn hv, bdS1, if_pos rfl, if_pos rfl]
      exact ⟨_, rfl, rfl⟩
  · rw [e1, bdS1, moN, isV_no e2, bdS1, if_pos rfl]
    exact ⟨_, rfl, rfl⟩
