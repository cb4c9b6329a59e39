/-! repeat -/
def FrC (c : Nat) (xt : Nat → Nat → Int32) (xn : Nat → Nat → Int64) (xl : Nat → Nat → Int32) (xt' : Nat → Nat → Int32) (xn' : Nat → Nat → Int64) (xl' : Nat → Nat → Int32) : Prop := ∀ d, d ≠ c → xt' d = xt d ∧ xn' d = xn d ∧ xl' d = xl d
theorem FrC.rf {c : Nat} {xt : Nat → Nat → Int32} {xn : Nat → Nat → Int64} {xl : Nat → Nat → Int32} : FrC c xt xn xl xt xn xl := fun _ _ => ⟨rfl, rfl, rfl⟩
theorem FrC.tr {c : Nat} {xt xt1 xt2 : Nat → Nat → Int32} {xn xn1 xn2 : Nat → Nat → Int64} {xl xl1 xl2 : Nat → Nat → Int32} (h1 : FrC c xt xn xl xt1 xn1 xl1) (h2 : FrC c xt1 xn1 xl1 xt2 xn2 xl2) : FrC c xt xn xl xt2 xn2 xl2 := fun d hd => ⟨(h2 d hd).1.trans (h1 d hd).1, (h2 d hd).2.1.trans (h1 d hd).2.1, (h2 d hd).2.2.trans (h1 d hd).2.2⟩
theorem XV_set {xt : Nat → Nat → Int32} {xn : Nat → Nat → Int64} {xl : Nat → Nat → Int32} {c i : Nat} (a : AV) : XV (up xt c (up (xt c) i (nI (th a)))) (up xn c (up (xn c) i (nu a))) (up xl c (wr (xl c) (i * 40) (le a))) c i a := by
  refine ⟨by rw [up_s, up_s], by rw [up_s, up_s], fun k hk => ?_⟩
  rw [up_s, wr_in (by omega) (by omega)]
  congr 1
  omega
theorem XV_set_n {xt : Nat → Nat → Int32} {xn : Nat → Nat → Int64} {xl : Nat → Nat → Int32} {c i j : Nat} {a b : AV} (hj : j ≠ i) (ha : (le a).length ≤ 40) (hb : (le b).length ≤ 40) (h : XV xt xn xl c j b) : XV (up xt c (up (xt c) i (nI (th a)))) (up xn c (up (xn c) i (nu a))) (up xl c (wr (xl c) (i * 40) (le a))) c j b := by
  refine ⟨by rw [up_s, up_n hj]; exact h.1, by rw [up_s, up_n hj]; exact h.2.1, fun k hk => ?_⟩
  rw [up_s, wr_out (by omega)]
  exact h.2.2 k hk
def RX (vals : List AV) (Q N c p : Nat) (xt : Nat → Nat → Int32) (xn : Nat → Nat → Int64) (xl : Nat → Nat → Int32) : Prop := ∀ j, j < 200 → (p ≤ j → j < N → XV xt xn xl c j (vat vals (j / Q))) ∧ (j < p → j < vals.length → XV xt xn xl c j (vat vals j))
theorem X_rep_step {vals : List AV} {Q N c p K : Nat} {xk : Nat → Int32} {xt : Nat → Nat → Int32} {xn : Nat → Nat → Int64} {xl : Nat → Nat → Int32} (hK : xk c = nI K) (hK3 : K ≤ 3) (hw : ∀ i, wfv K (vat vals i)) (hN : N ≤ 200) (hp : p < N) (hQ : p / Q < vals.length) (h : RX vals Q N c (p + 1) xt xn xl) : ∃ xt' xn' xl', p_X0_setCopy c (nI p) c (nI (p / Q)) xk xt xn xl = some (xt', xn', xl') ∧ RX vals Q N c p xt' xn' xl' ∧ FrC c xt xn xl xt' xn' xl' := by
  have hle := Nat.div_le_self p Q
  refine ⟨_, _, _, X_setCopy (by omega) (by omega) hK hK3 (hw (p / Q)) ((h (p / Q) (by omega)).2 (by omega) hQ), ?_, fun d hd => ⟨up_n hd, up_n hd, up_n hd⟩⟩
  intro j hj
  refine ⟨fun h1 h2 => ?_, fun h1 h2 => ?_⟩
  · by_cases e : j = p
    · subst e
      exact XV_set _
    · exact XV_set_n e (hw _).1 (hw _).1 ((h j hj).1 (by omega) h2)
  · exact XV_set_n (by omega) (hw _).1 (hw _).1 ((h j hj).2 (by omega) h2)
theorem X_rep_in {vals : List AV} {Q N c i K : Nat} {xk : Nat → Int32} {kx : (Nat → Nat → Int32) → (Nat → Nat → Int64) → (Nat → Nat → Int32) → Option ((Nat → Int32) × (Nat → Nat → Int32) × (Nat → Nat → Int64) × (Nat → Nat → Int32))} (hK : xk c = nI K) (hK3 : K ≤ 3) (hw : ∀ i, wfv K (vat vals i)) (hN : N ≤ 200) (hi : i < vals.length) (hiN : i * Q + Q ≤ N) : ∀ (k n : Nat) (xt : Nat → Nat → Int32) (xn : Nat → Nat → Int64) (xl : Nat → Nat → Int32), k ≤ Q → k < n → RX vals Q N c (i * Q + k) xt xn xl → ∃ xt' xn' xl', itr4 (p_X0_multiply_L13 c (nI Q) (nI i) xk kx) n (dn k) xt xn xl = kx xt' xn' xl' ∧ RX vals Q N c (i * Q) xt' xn' xl' ∧ FrC c xt xn xl xt' xn' xl' := by
  intro k
  induction k with
  | zero =>
    intro n xt xn xl h1 h2 h
    cases n with
    | zero => omega
    | succ n =>
      refine ⟨xt, xn, xl, ?_, h, FrC.rf⟩
      show p_X0_multiply_L13 c (nI Q) (nI i) xk kx _ (dn 0) xt xn xl = _
      rw [p_X0_multiply_L13, if_pos dn_0]
  | succ k ih =>
    intro n xt xn xl h1 h2 h
    cases n with
    | zero => omega
    | succ n =>
      have hd : (i * Q + k) / Q = i := by rw [Nat.mul_comm, Nat.mul_add_div (by omega), Nat.div_eq_of_lt (by omega), Nat.add_zero]
      obtain ⟨xt1, xn1, xl1, e1, g1, f1⟩ := X_rep_step (p := i * Q + k) hK hK3 hw hN (by omega) (by rw [hd]; exact hi) h
      obtain ⟨xt2, xn2, xl2, e2, g2, f2⟩ := ih n xt1 xn1 xl1 (by omega) (by omega) g1
      rw [hd] at e1
      refine ⟨xt2, xn2, xl2, ?_, g2, f1.tr f2⟩
      show p_X0_multiply_L13 c (nI Q) (nI i) xk kx _ (dn (k + 1)) xt xn xl = _
      rw [p_X0_multiply_L13, dn_s, if_neg (by rw [ltI (by omega) (by omega)]; omega), mulI, addI, e1, bdS3, dn_d]
      exact e2
theorem X_rep_out {vals : List AV} {P Q N c K : Nat} {xk xc : Nat → Int32} (hK : xk c = nI K) (hK3 : K ≤ 3) (hw : ∀ i, wfv K (vat vals i)) (hN : N ≤ 200) (hP : P ≤ vals.length) (hl : vals.length ≤ 200) (hQ : Q ≤ 200) (hPQ : P * Q = N) : ∀ (i n : Nat) (xt : Nat → Nat → Int32) (xn : Nat → Nat → Int64) (xl : Nat → Nat → Int32), i ≤ P → i < n → RX vals Q N c (i * Q) xt xn xl → ∃ xt' xn' xl', itr4 (p_X0_multiply_L4 c (nI P) (nI Q) xk xc) n (dn i) xt xn xl = some (up xc c (nI N), xt', xn', xl') ∧ RX vals Q N c 0 xt' xn' xl' ∧ FrC c xt xn xl xt' xn' xl' := by
  intro i
  induction i with
  | zero =>
    intro n xt xn xl h1 h2 h
    cases n with
    | zero => omega
    | succ n =>
      rw [Nat.zero_mul] at h
      refine ⟨xt, xn, xl, ?_, h, FrC.rf⟩
      show p_X0_multiply_L4 c (nI P) (nI Q) xk xc _ (dn 0) xt xn xl = _
      rw [p_X0_multiply_L4, if_pos dn_0, mulI, hPQ]
  | succ i ih =>
    intro n xt xn xl h1 h2 h
    cases n with
    | zero => omega
    | succ n =>
      have hm : (i + 1) * Q ≤ P * Q := Nat.mul_le_mul_right _ h1
      rw [Nat.succ_mul] at hm h
      obtain ⟨xt1, xn1, xl1, e1, g1, f1⟩ := X_rep_in (kx := fun xt_5 xn_6 xl_7 => itr4 (p_X0_multiply_L4 c (nI P) (nI Q) xk xc) n (nI i + (-1 : Int32)) xt_5 xn_6 xl_7) hK hK3 hw hN (show i < vals.length by omega) (by omega) Q fu xt xn xl (by omega) (by rw [fu_eq]; omega) h
      obtain ⟨xt2, xn2, xl2, e2, g2, f2⟩ := ih n xt1 xn1 xl1 (by omega) (by omega) g1
      refine ⟨xt2, xn2, xl2, ?_, g2, f1.tr f2⟩
      show p_X0_multiply_L4 c (nI P) (nI Q) xk xc _ (dn (i + 1)) xt xn xl = _
      rw [p_X0_multiply_L4, dn_s, if_neg (by rw [ltI (by omega) (by omega)]; omega)]
      refine Eq.trans e1 ?_
      rw [dn_d]
      exact e2
def RM (vals : List AV) (Q N c p : Nat) (mt : Nat → Int32) (mv : Nat → Int64) (mx : Nat → Int32) : Prop := ∀ j, j < 200 → (p ≤ j → j < N → MV mt mv mx (200 * c + j) (vat vals (j / Q))) ∧ (j < p → j < vals.length → MV mt mv mx (200 * c + j) (vat vals j))
def FrM (c : Nat) (mt : Nat → Int32) (mv : Nat → Int64) (mx : Nat → Int32) (mt' : Nat → Int32) (mv' : Nat → Int64) (mx' : Nat → Int32) : Prop := ∀ s a, (s < 200 * c ∨ 200 * c + 200 ≤ s) → MV mt mv mx s a → MV mt' mv' mx' s a
theorem M_rep {vals : List AV} {Q N c K : Nat} {mm : Nat → Int32} (hc : c < 4) (hw : ∀ i, wfv K (vat vals i)) (hN : N ≤ 200) (hQ0 : 0 < Q) (hQ : Q < 2 ^ 31) (hl : ∀ p, p < N → p / Q < vals.length) : ∀ (p n : Nat) (mt : Nat → Int32) (mv : Nat → Int64) (mx : Nat → Int32), p ≤ N → p < n → RM vals Q N c p mt mv mx → ∃ mt' mv' mx', itr4 (p_X6_repeat_L65 (nI c) (nI Q) mm) n (dn p) mt mv mx = some (mm c, mm, mt', mv', mx') ∧ RM vals Q N c 0 mt' mv' mx' ∧ FrM c mt mv mx mt' mv' mx' := by
  intro p
  induction p with
  | zero =>
    intro n mt mv mx h1 h2 h
    cases n with
    | zero => omega
    | succ n =>
      refine ⟨mt, mv, mx, ?_, h, fun _ _ _ h => h⟩
      show p_X6_repeat_L65 (nI c) (nI Q) mm _ (dn 0) mt mv mx = _
      rw [p_X6_repeat_L65, if_pos dn_0, inbI (by omega), gdD (by omega), ixI (by omega)]
  | succ p ih =>
    intro n mt mv mx h1 h2 h
    cases n with
    | zero => omega
    | succ n =>
      have hle := Nat.div_le_self p Q
      have hpl := hl p (by omega)
      have e1 := M_copies (s1 := 200 * c + p) (s2 := 200 * c + p / Q) (by omega) (by omega) (hw (p / Q)).2.1 ((h (p / Q) (by omega)).2 (by omega) hpl)
      have hr : RM vals Q N c p (up mt (200 * c + p) (nI (th (vat vals (p / Q))))) (up mv (200 * c + p) (nu (vat vals (p / Q)))) (wr mx (40 * (200 * c + p)) (l40 (le (vat vals (p / Q))))) := by
        intro j hj
        refine ⟨fun h3 h4 => ?_, fun h3 h4 => ?_⟩
        · by_cases e : j = p
          · subst e
            exact MV_wr _
          · exact MV_wr_n (by omega) ((h j hj).1 (by omega) h4)
        · exact MV_wr_n (by omega) ((h j hj).2 (by omega) h4)
      obtain ⟨mt2, mv2, mx2, e2, g2, f2⟩ := ih n _ _ _ (by omega) (by omega) hr
      refine ⟨mt2, mv2, mx2, ?_, g2, fun s a hs hv => f2 s a hs (MV_wr_n (by omega) hv)⟩
      have hnz : nz (nI Q) = true := by
        unfold nz
        refine decide_eq_true ?_
        show nI Q ≠ nI 0
        intro e
        rw [eqI (by omega) (by omega)] at e
        omega
      show p_X6_repeat_L65 (nI c) (nI Q) mm _ (dn (p + 1)) mt mv mx = _
      rw [p_X6_repeat_L65, dn_s, if_neg (by rw [ltI (by omega) (by omega)]; omega), gdT hnz, mulI, divI (by omega) hQ0 hQ, addI, addI, e1, bdS3, dn_d]
      exact e2
theorem sim_repeat {xk xo xc : Nat → Int32} {xt : Nat → Nat → Int32} {xn : Nat → Nat → Int64} {xl : Nat → Nat → Int32} {mk mo mm mt : Nat → Int32} {mv : Nat → Int64} {mx : Nat → Int32} (h : Cols xk xo xc xt xn xl mk mo mm mt mv mx) (v1 v2 v3 : Int32) : ∃ r xc' xt' xn' xl' mm' mt' mv' mx', p_X5_repeat v1 v2 v3 xk xc xt xn xl = some (r, xc', xt', xn', xl') ∧ p_X6_repeat v1 v2 v3 mm mt mv mx = some (r, mm', mt', mv', mx') ∧ Cols xk xo xc' xt' xn' xl' mk mo mm' mt' mv' mx' ∧ xc' 5 = xc 5 := by
  unfold p_X5_repeat p_X6_repeat
  rcases colAt v1 with ⟨c, hc, rfl, e1, e2⟩ | ⟨e1, e2⟩
  · obtain ⟨K, O, vals, w, x, m⟩ := h c hc
    have hK3 := w.k
    have hn := w.n
    rw [e1, e2, bdS1, bdS1, moS, gdD (by omega), if_neg (show ¬ nI 1 = nI 0 by decide), inbI (by omega), gdD (by omega), gdD (by omega), ixI (by omega), x.n, m.n, i2lI (n := vals.length) (by omega)]
    rcases splitI v2 with hneg | ⟨P, hP, rfl⟩
    · rw [if_pos hneg, M_in_neg hneg 0 _ (by omega), bdS1, if_pos rfl]
      exact ⟨_, _, _, _, _, _, _, _, _, rfl, rfl, h, rfl⟩
    · rw [if_neg (show ¬ nI P < nI 0 by rw [ltI (by omega) (by omega)]; omega), M_in_nat (by omega) (by omega) (by omega), bdS1]
      by_cases hPl : P ≤ vals.length
      · rw [if_neg (show ¬ nI vals.length < nI P by rw [ltI (by omega) (by omega)]; omega), if_pos (show 0 ≤ P ∧ P ≤ vals.length by omega), if_neg (show ¬ nI 1 = nI 0 by decide)]
        rcases splitI v3 with hneg | ⟨Q, hQ, rfl⟩
        · rw [M_in_neg hneg 1 _ (by omega), bdS1, if_pos rfl, if_pos (Int32.lt_trans hneg (by decide))]
          exact ⟨_, _, _, _, _, _, _, _, _, rfl, rfl, h, rfl⟩
        · rw [M_in_nat (by omega) (by omega) (by omega), bdS1]
          by_cases hQ1 : 1 ≤ Q ∧ Q ≤ 200
          · have hmul : P * Q ≤ 200 * 200 := Nat.mul_le_mul (by omega) hQ1.2
            rw [if_neg (show ¬ nI Q < nI 1 by rw [ltI (by omega) (by omega)]; omega), if_neg (show ¬ nI 200 < nI Q by rw [ltI (by omega) (by omega)]; omega), if_pos hQ1, if_neg (show ¬ nI 1 = nI 0 by decide), mulI]
            by_cases hN : 200 < P * Q
            · rw [if_pos (by rw [ltI (by omega) (by omega)]; exact hN), if_pos (by rw [ltI (by omega) (by omega)]; exact hN)]
              exact ⟨_, _, _, _, _, _, _, _, _, rfl, rfl, h, rfl⟩
            · rw [if_neg (by rw [ltI (by omega) (by omega)]; exact hN), if_neg (by rw [ltI (by omega) (by omega)]; exact hN)]
              have hwv : ∀ i, wfv K (vat vals i) := by
                intro i
                by_cases hi : i < vals.length
                · rw [vat_at hi]; exact w.w _ (List.getElem_mem hi)
                · unfold vat
                  rw [List.getElem?_eq_none (by omega)]
                  exact wfv_none
              have hdiv : ∀ p, p < P * Q → p / Q < vals.length := fun p hp => by
                have : p / Q < P := Nat.div_lt_of_lt_mul (by rw [Nat.mul_comm]; exact hp)
                omega
              obtain ⟨xt1, xn1, xl1, q1, g1, f1⟩ := X_rep_out (xc := xc) (P := P) (Q := Q) (N := P * Q) (c := c) x.k hK3 hwv (by omega) hPl hn hQ1.2 rfl P fu xt xn xl (by omega) (by rw [fu_eq]; omega) (fun j hj => ⟨fun h1 h2 => by omega, fun h1 h2 => by rw [vat_at h2]; exact x.v j h2⟩)
              obtain ⟨mt1, mv1, mx1, q2, g2, f2⟩ := M_rep (mm := up mm c (nI (P * Q))) (Q := Q) (N := P * Q) hc hwv (by omega) (by omega) (by omega) hdiv (P * Q) fu mt mv mx (by omega) (by rw [fu_eq]; omega) (fun j hj => ⟨fun h1 h2 => by omega, fun h1 h2 => by rw [vat_at h2]; exact m.v j h2⟩)
              have em : p_X0_multiply c (nI P) (nI Q) xk xc xt xn xl = some (up xc c (nI (P * Q)), xt1, xn1, xl1) := q1
              rw [em, bdS4]
              refine ⟨_, _, _, _, _, up mm c (nI (P * Q)), mt1, mv1, mx1, rfl, ?_, ?_, up_n (by omega)⟩
              · have : dn (P * Q) = nI (P * Q) - nI 1 := rfl
                rw [this, up_s] at q2
                rw [up_s]
                exact q2
              · have hlen : ((List.range (P * Q)).map (fun j => vat vals (j / Q))).length = P * Q := by simp
                refine h.put (c := c) ⟨K, O, (List.range (P * Q)).map (fun j => vat vals (j / Q)), ⟨hK3, w.o, by rw [hlen]; omega, fun a ha => ?_⟩, ⟨x.k, x.o, by rw [up_s, hlen], fun j hj => ?_⟩, ⟨m.k, m.o, by rw [up_s, hlen], fun j hj => ?_⟩⟩ (fun d hd => ⟨rfl, rfl, up_n hd, (f1 d hd).1, (f1 d hd).2.1, (f1 d hd).2.2⟩) (fun d hd => ⟨rfl, rfl, up_n hd⟩) (fun d j a hd hd4 hj hv => f2 _ a (by omega) hv)
                · obtain ⟨j, _, rfl⟩ := List.mem_map.mp ha
                  exact hwv _
                · rw [hlen] at hj
                  rw [List.getElem_map, List.getElem_range]
                  exact (g1 j (by omega)).1 (by omega) hj
                · rw [hlen] at hj
                  rw [List.getElem_map, List.getElem_range]
                  exact (g2 j (by omega)).1 (by omega) hj
          · rw [if_neg hQ1, if_pos (show nI 0 = nI 0 from rfl)]
            by_cases q1 : Q < 1
            · rw [if_pos (by rw [ltI (by omega) (by omega)]; exact q1)]
              exact ⟨_, _, _, _, _, _, _, _, _, rfl, rfl, h, rfl⟩
            · rw [if_neg (by rw [ltI (by omega) (by omega)]; exact q1), if_pos (by rw [ltI (by omega) (by omega)]; omega)]
              exact ⟨_, _, _, _, _, _, _, _, _, rfl, rfl, h, rfl⟩
      · rw [if_pos (show nI vals.length < nI P by rw [ltI (by omega) (by omega)]; omega), if_neg (show ¬ (0 ≤ P ∧ P ≤ vals.length) by omega), if_pos rfl]
        exact ⟨_, _, _, _, _, _, _, _, _, rfl, rfl, h, rfl⟩
  · rw [e1, e2, bdS1, bdS1, moN, if_pos rfl]
    exact ⟨_, _, _, _, _, _, _, _, _, rfl, rfl, h, rfl⟩
