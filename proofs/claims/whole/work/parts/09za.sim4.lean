theorem M_in_ltL {j n : Nat} (hj : j < 2 ^ 31) (hn : n ≤ 40) : p_X6_in (i2l (nI j)) (lN 0) (lN n - lN 1) = some (nI (if j < n then 1 else 0)) := by
  cases n with
  | zero =>
    rw [M_in, i2l_toInt, nI_toInt (by omega)]
    have e : (lN 0 - lN 1).toInt = -1 := by decide
    rw [e, if_neg (by omega), if_neg (by omega)]
  | succ n =>
    rw [subL (by omega), Nat.add_sub_cancel, M_in_nat (by omega) (by omega) (by omega)]
    congr 3
    exact propext ⟨fun h => by omega, fun h => by omega⟩
theorem sim_letter {xk xo xc : Nat → Int32} {xt : Nat → Nat → Int32} {xn : Nat → Nat → Int64} {xl : Nat → Nat → Int32} {mk mo mm mt : Nat → Int32} {mv : Nat → Int64} {mx : Nat → Int32} (h : Cols xk xo xc xt xn xl mk mo mm mt mv mx) (v1 v2 v3 : Int32) : ∃ r, p_X5_letter v1 v2 v3 xk xc xt xn xl = some r ∧ p_X6_letter v1 v2 v3 mk mm mt mv mx = some r := by
  have hno : p_X6_letter_J61 v1 v2 v3 mx = some (-1 : Int32) := by
    rw [p_X6_letter_J61, p_X6_letter_J62, if_pos rfl]
  unfold p_X5_letter p_X6_letter
  rw [hno]
  rcases colAt v1 with ⟨c, hc, rfl, e1, e2⟩ | ⟨e1, e2⟩
  · obtain ⟨K, O, vals, w, x, m⟩ := h c hc
    have hn := w.n
    have hK := w.k
    rw [e1, bdS1, moS, gdD (by omega), x.k]
    by_cases k2 : K = 2
    · subst k2
      rw [if_pos rfl]
      rcases M_isValue v2 hc m.n hn with ⟨i, hi, rfl, e3⟩ | ⟨hv, e3⟩
      · rw [e3, bdS1, X_holds x.n hn (by omega), bdS1, if_pos hi, if_neg (show ¬ nI 1 = nI 0 by decide), if_neg (show ¬ nI 1 = nI 0 by decide), X_isThere (x.v i hi).1 (th_le _) (by omega), bdS1, inbI (by omega), gdD (by omega), ixI (by omega), m.k, if_pos rfl, mulI, addI, inbI (by omega), gdD (by omega), gdD (by omega), ixI (by omega), (m.v i hi).1, (m.v i hi).2.1, X_numberAt (by omega), bdS1, (x.v i hi).2.1]
        by_cases h0 : nI (th vals[i]) = nI 0
        · rw [if_pos h0, if_pos h0]; exact ⟨_, rfl, rfl⟩
        · have hwf := w.w _ (List.getElem_mem hi)
          have hlen := hwf.1
          rw [if_neg h0, if_neg h0, wfv_num hwf]
          rcases splitI v3 with hneg | ⟨k, hk, rfl⟩
          · rw [if_pos hneg, M_in_neg hneg 0 _ (by omega), bdS1, if_pos rfl]
            exact ⟨_, rfl, rfl⟩
          · rw [if_neg (by rw [ltI (by omega) (by omega)]; omega), i2lI hk]
            have := M_in_ltL (j := k) (n := (le vals[i]).length) hk hlen
            rw [i2lI hk] at this
            rw [this, bdS1]
            by_cases hkl : k < (le vals[i]).length
            · rw [if_pos (by rw [ltL (by omega) (by omega)]; exact hkl), if_pos hkl, if_neg (show ¬ nI 1 = nI 0 by decide), X_letterAt (by omega) (by omega), bdS1, p_X6_letter_J62, if_neg (show ¬ nI 1 = nI 0 by decide), mulI, addI, mulI, addI, inbI (by omega), gdD (by omega), ixI (by omega), (x.v i hi).2.2 k hkl, (m.v i hi).2.2 k (by omega), List.getElem?_eq_getElem hkl]
              exact ⟨_, rfl, rfl⟩
            · rw [if_neg (by rw [ltL (by omega) (by omega)]; exact hkl), if_neg hkl, if_pos rfl]
              exact ⟨_, rfl, rfl⟩
      · rw [e3, bdS1, X_holds_no x.n hn hv, bdS1, if_pos rfl, if_pos rfl]
        exact ⟨_, rfl, rfl⟩
    · rw [if_neg (by rw [eqI (by omega) (by omega)]; exact k2)]
      rcases M_isValue v2 hc m.n hn with ⟨i, hi, rfl, e3⟩ | ⟨hv, e3⟩
      · rw [e3, bdS1, if_neg (show ¬ nI 1 = nI 0 by decide), inbI (by omega), gdD (by omega), ixI (by omega), m.k, if_neg (by rw [eqI (by omega) (by omega)]; exact k2)]
        exact ⟨_, rfl, rfl⟩
      · rw [e3, bdS1, if_pos rfl]
        exact ⟨_, rfl, rfl⟩
  · rw [e1, bdS1, moN, isV_no e2, bdS1, if_pos rfl]
    exact ⟨_, rfl, rfl⟩
/-! alike -/
theorem X_like_L {c d K n0 : Nat} {xk xc : Nat → Int32} {xt : Nat → Nat → Int32} {xn : Nat → Nat → Int64} {xl : Nat → Nat → Int32} {va vb : List AV} (hn : va.length = n0) (hn2 : vb.length = n0) (h200 : n0 ≤ 200) (hK : xk c = nI K) (hK3 : K ≤ 3) (hc : xc c = nI n0) (ha : ∀ (j : Nat) (h : j < va.length), XV xt xn xl c j va[j]) (hb : ∀ (j : Nat) (h : j < vb.length), XV xt xn xl d j vb[j]) (wa : ∀ a ∈ va, wfv K a) (wb : ∀ a ∈ vb, wfv K a) : ∀ (m n k : Nat), n0 - k = m → k ≤ n0 → m < n → (∀ (t : Nat) (h : t < va.length) (h2 : t < vb.length), t < k → va[t] = vb[t]) → itr1 (p_X0_isLike_L26 c d xk xc xt xn xl) n (nI k) = some (nI (if va = vb then 1 else 0)) := by
  intro m
  induction m with
  | zero =>
    intro n k h1 h2 h3 h4
    cases n with
    | zero => omega
    | succ n =>
      show p_X0_isLike_L26 c d xk xc xt xn xl _ (nI k) = _
      have e : va = vb := List.ext_getElem (by omega) (fun t p q => h4 t p q (by omega))
      rw [p_X0_isLike_L26, hc, if_neg (by rw [ltI (by omega) (by omega)]; omega), if_pos e]
  | succ m ih =>
    intro n k h1 h2 h3 h4
    cases n with
    | zero => omega
    | succ n =>
      show p_X0_isLike_L26 c d xk xc xt xn xl _ (nI k) = _
      have ka : k < va.length := by omega
      have kb : k < vb.length := by omega
      rw [p_X0_isLike_L26, hc, if_pos (by rw [ltI (by omega) (by omega)]; omega), X_isSame (by omega) (by omega) hK hK3 (ha k ka) (hb k kb) (wa _ (List.getElem_mem ka)) (wb _ (List.getElem_mem kb)), bdS1]
      by_cases e : va[k] = vb[k]
      · rw [if_pos e, if_neg (show ¬ nI 1 = nI 0 by decide), addI]
        refine ih n (k + 1) (by omega) (by omega) (by omega) (fun t p q ht => ?_)
        by_cases htk : t = k
        · subst htk; exact e
        · exact h4 t p q (by omega)
      · rw [if_neg e, if_pos rfl, if_neg (fun hh => e (by simp only [hh]))]
theorem M_like_L {c d K n0 : Nat} {mm mt : Nat → Int32} {mv : Nat → Int64} {mx : Nat → Int32} {va vb : List AV} {kx : Int32 → Option Int32} (hc4 : c < 4) (hd4 : d < 4) (hn : va.length = n0) (hn2 : vb.length = n0) (h200 : n0 ≤ 200) (hc : mm c = nI n0) (ha : MCol mt mv mx c va) (hb : MCol mt mv mx d vb) (wa : ∀ a ∈ va, wfv K a) (wb : ∀ a ∈ vb, wfv K a) : ∀ (m n k : Nat), n0 - k = m → k ≤ n0 → m + 1 < n → (∀ (t : Nat) (h : t < va.length) (h2 : t < vb.length), t < k → va[t] = vb[t]) → itr2 (p_X6_alike_L55 (nI c) (nI d) mm mt mv mx kx) n (nI 1) (nI k) = kx (nI (if va = vb then 1 else 0)) := by
  intro m
  induction m with
  | zero =>
    intro n k h1 h2 h3 h4
    cases n with
    | zero => omega
    | succ n =>
      show p_X6_alike_L55 (nI c) (nI d) mm mt mv mx kx _ (nI 1) (nI k) = _
      have e : va = vb := List.ext_getElem (by omega) (fun t p q => h4 t p q (by omega))
      rw [p_X6_alike_L55, inbI (by omega), gdD (by omega), ixI (by omega), hc, if_neg (by rw [ltI (by omega) (by omega)]; omega), if_pos e]
  | succ m ih =>
    intro n k h1 h2 h3 h4
    cases n with
    | zero => omega
    | succ n =>
      show p_X6_alike_L55 (nI c) (nI d) mm mt mv mx kx _ (nI 1) (nI k) = _
      have ka : k < va.length := by omega
      have kb : k < vb.length := by omega
      rw [p_X6_alike_L55, inbI (by omega), gdD (by omega), ixI (by omega), hc, if_pos (by rw [ltI (by omega) (by omega)]; omega), if_neg (show ¬ nI 1 = nI 0 by decide), mulI, addI, mulI, addI, M_areLike (by omega) (by omega) (wa _ (List.getElem_mem ka)) (wb _ (List.getElem_mem kb)) (ha k ka) (hb k kb), bdS1, addI]
      by_cases e : va[k] = vb[k]
      · rw [if_pos e]
        refine ih n (k + 1) (by omega) (by omega) (by omega) (fun t p q ht => ?_)
        by_cases htk : t = k
        · subst htk; exact e
        · exact h4 t p q (by omega)
      · rw [if_neg e, if_neg (fun hh => e (by simp only [hh]))]
        cases n with
        | zero => omega
        | succ n =>
          show p_X6_alike_L55 (nI c) (nI d) mm mt mv mx kx _ (nI 0) (nI (k + 1)) = _
          rw [p_X6_alike_L55, inbI (by omega), gdD (by omega), ixI (by omega), hc]
          by_cases h7 : k + 1 < n0
          · rw [if_pos (by rw [ltI (by omega) (by omega)]; exact h7), if_pos rfl]
          · rw [if_neg (by rw [ltI (by omega) (by omega)]; exact h7)]
theorem M_like_0 {c d n0 : Nat} {mm mt : Nat → Int32} {mv : Nat → Int64} {mx : Nat → Int32} {kx : Int32 → Option Int32} (hc4 : c < 4) (h200 : n0 ≤ 200) (hc : mm c = nI n0) : itr2 (p_X6_alike_L55 (nI c) (nI d) mm mt mv mx kx) fu (nI 0) (nI 0) = kx (nI 0) := by
  rw [fu_eq]
  show p_X6_alike_L55 (nI c) (nI d) mm mt mv mx kx _ (nI 0) (nI 0) = _
  rw [p_X6_alike_L55, inbI (by omega), gdD (by omega), ixI (by omega), hc]
  by_cases h7 : 0 < n0
  · rw [if_pos (by rw [ltI (by omega) (by omega)]; exact h7), if_pos rfl]
  · rw [if_neg (by rw [ltI (by omega) (by omega)]; exact h7)]
theorem sim_alike {xk xo xc : Nat → Int32} {xt : Nat → Nat → Int32} {xn : Nat → Nat → Int64} {xl : Nat → Nat → Int32} {mk mo mm mt : Nat → Int32} {mv : Nat → Int64} {mx : Nat → Int32} (h : Cols xk xo xc xt xn xl mk mo mm mt mv mx) (v1 v2 : Int32) : ∃ r, p_X5_alike v1 v2 xk xc xt xn xl = some r ∧ p_X6_alike v1 v2 mk mm mt mv mx = some r := by
  unfold p_X5_alike p_X6_alike
  rcases colAt v1 with ⟨c, hc, rfl, e1, e2⟩ | ⟨e1, e2⟩
  · rw [e1, e2, bdS1, bdS1, moS, gdD (by omega), if_neg (show ¬ nI 1 = nI 0 by decide)]
    rcases colAt v2 with ⟨d, hd, rfl, e3, e4⟩ | ⟨e3, e4⟩
    · obtain ⟨K, O, va, w, x, m⟩ := h c hc
      obtain ⟨K2, O2, vb, w2, x2, m2⟩ := h d hd
      have hn := w.n
      have hK := w.k
      have hn2 := w2.n
      have hK2 := w2.k
      rw [e3, e4, bdS1, bdS1, moS, gdD (by omega), if_neg (show ¬ nI 1 = nI 0 by decide), inbI (by omega), gdD (by omega), inbI (by omega), gdD (by omega), gdD (by omega), gdD (by omega), ixI (by omega), ixI (by omega), m.k, m2.k, m.n, m2.n]
      unfold p_X0_isLike
      rw [x.k, x2.k, x.n, x2.n]
      by_cases ek : K = K2
      · subst ek
        rw [if_pos rfl, if_pos rfl]
        by_cases en : va.length = vb.length
        · have eX := X_like_L (c := c) (d := d) (xk := xk) (xc := xc) (n0 := va.length) rfl en.symm hn x.k hK x.n x.v x2.v w.w w2.w va.length fu 0 (by omega) (by omega) (by rw [fu_eq]; omega) (fun t _ _ ht => by omega)
          have eM := M_like_L (c := c) (d := d) (n0 := va.length) (kx := fun v3_12 => p_X6_alike_J97 v3_12) hc hd rfl en.symm hn m.n m.v m2.v w.w w2.w va.length fu 0 (by omega) (by omega) (by rw [fu_eq]; omega) (fun t _ _ ht => by omega)
          rw [if_pos (by rw [en]), if_pos (by rw [en]), eX, eM, bdS1]
          by_cases e : va = vb
          · rw [if_pos e, if_neg (show ¬ nI 1 = nI 0 by decide)]
            exact ⟨_, rfl, by rw [p_X6_alike_J97, if_neg (show ¬ nI 1 = nI 0 by decide)]⟩
          · rw [if_neg e, if_pos rfl]
            exact ⟨_, rfl, by rw [p_X6_alike_J97, if_pos rfl]⟩
        · rw [if_neg (by rw [eqI (by omega) (by omega)]; exact en), if_neg (by rw [eqI (by omega) (by omega)]; exact en), bdS1, if_pos rfl, M_like_0 hc hn m.n]
          exact ⟨_, rfl, by rw [p_X6_alike_J97, if_pos rfl]⟩
      · rw [if_neg (by rw [eqI (by omega) (by omega)]; exact ek), if_neg (by rw [eqI (by omega) (by omega)]; exact ek), bdS1, if_pos rfl, M_like_0 hc hn m.n]
        exact ⟨_, rfl, by rw [p_X6_alike_J97, if_pos rfl]⟩
    · rw [e3, e4, bdS1, bdS1, moN, if_pos rfl]
      exact ⟨_, rfl, rfl⟩
  · rw [e1, e2, bdS1, bdS1, moN, if_pos rfl]
    rcases colAt v2 with ⟨d, hd, rfl, e3, e4⟩ | ⟨e3, e4⟩
    · rw [e3, bdS1, moS, gdD (by omega)]
      exact ⟨_, rfl, rfl⟩
    · rw [e3, bdS1, moN]
      exact ⟨_, rfl, rfl⟩
