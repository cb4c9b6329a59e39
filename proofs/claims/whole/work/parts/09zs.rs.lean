/-! values read one after the other: the class into column cx from B on, the reference into column cm -/
def RS (pre : Nat → AV) (cx B cm K : Nat) (ts : List TV) (xc : Nat → Int32) (xt : Nat → Nat → Int32) (xn : Nat → Nat → Int64) (xl : Nat → Nat → Int32) (mm mt : Nat → Int32) (mv : Nat → Int64) (mx : Nat → Int32) : Prop :=
  xc cx = nI (B + ts.length) ∧ mm cm = nI ts.length ∧ (∀ (j : Nat) (h : j < ts.length), XV xt xn xl cx (B + j) (some ts[j])) ∧ (∀ (j : Nat) (h : j < ts.length), MV mt mv mx (200 * cm + j) (some ts[j])) ∧ (∀ t ∈ ts, TVok K t) ∧ (∀ j, (le (pre j)).length ≤ 40) ∧ ∀ j, j < B → XV xt xn xl cx j (pre j)
theorem ts_get {ts : List TV} {t : TV} {j : Nat} (h : j < (ts ++ [t]).length) : (∃ h2 : j < ts.length, (ts ++ [t])[j] = ts[j]) ∨ (j = ts.length ∧ (ts ++ [t])[j] = t) := by
  by_cases hj : j < ts.length
  · exact Or.inl ⟨hj, List.getElem_append_left hj⟩
  · rw [List.length_append, List.length_cons, List.length_nil] at h
    have : j = ts.length := by omega
    subst this
    exact Or.inr ⟨rfl, by simp⟩
theorem RS.put {pre : Nat → AV} {cx B cm K : Nat} {ts : List TV} {xc : Nat → Int32} {xt : Nat → Nat → Int32} {xn : Nat → Nat → Int64} {xl : Nat → Nat → Int32} {mm mt : Nat → Int32} {mv : Nat → Int64} {mx : Nat → Int32} {t : TV} (h : RS pre cx B cm K ts xc xt xn xl mm mt mv mx) (ht : TVok K t) : RS pre cx B cm K (ts ++ [t]) (up xc cx (nI (B + ts.length + 1))) (up xt cx (up (xt cx) (B + ts.length) (nI 1))) (up xn cx (up (xn cx) (B + ts.length) t.1)) (up xl cx (wr (xl cx) ((B + ts.length) * 40) t.2)) (up mm cm (nI (ts.length + 1))) (up mt (200 * cm + ts.length) (nI 1)) (up mv (200 * cm + ts.length) t.1) (wr mx (40 * (200 * cm + ts.length)) (l40 t.2)) := by
  obtain ⟨h1, h2, h3, h4, h5, h6, h7⟩ := h
  have hl : (ts ++ [t]).length = ts.length + 1 := by simp
  refine ⟨by rw [up_s, hl, Nat.add_assoc], by rw [up_s, hl], fun j hj => ?_, fun j hj => ?_, fun x hx => ?_, h6, fun j hj => ?_⟩
  · rcases ts_get hj with ⟨g1, g2⟩ | ⟨g1, g2⟩
    · rw [g2]
      exact XV_set_n (a := some t) (by omega) ht.1 (h5 _ (List.getElem_mem g1)).1 (h3 j g1)
    · subst g1
      rw [g2]
      exact XV_set (some t)
  · rcases ts_get hj with ⟨g1, g2⟩ | ⟨g1, g2⟩
    · rw [g2]
      exact MV_wr_n (a := some t) (by omega) (h4 j g1)
    · subst g1
      rw [g2]
      exact MV_wr (some t)
  · rcases List.mem_append.mp hx with e | e
    · exact h5 x e
    · rw [List.mem_singleton.mp e]; exact ht
  · exact XV_set_n (a := some t) (by omega) ht.1 (h6 j) (h7 j hj)
abbrev K88 : Type := (Nat → Int32) → (Nat → Int32) → (Nat → Int64) → (Nat → Int32) → Int32 → Int32 → Int32 → Option (Int32 × (Nat → Int32) × (Nat → Int32) × (Nat → Int64) × (Nat → Int32) × (Nat → Int64) × Int32 × Int32 × Int32 × Int32 × Int32 × Int32 × Int32 × Int32 × (Nat → Int32) × Int32 × Int32 × Int32 × Int32 × Int32 × (Nat → Int32))
/-- the dictionary's values -/
theorem L_dict_L {pre : Nat → AV} {K N e S : Nat} {xk rc : Nat → Int32} {rb : Nat → Nat → Int32} {la : Nat → Nat → Int64} {mf : Nat → Int32} {mn : Nat → Int64} {mpg mdi mbl mby : Int32} {mw : Nat → Int32} {mz mso mbo mcd : Int32} {ml : Nat → Int32} {kx : K88} (hs : Src rb mf e) (hS : rc 1 = nI S) (heS : e ≤ S) (hS2 : S ≤ 12000) (hK : xk 5 = nI K) (hK3 : K < 3) (hN : N ≤ 200) : ∀ (m n p : Nat) (ts : List TV) (xc : Nat → Int32) (xt : Nat → Nat → Int32) (xn : Nat → Nat → Int64) (xl : Nat → Nat → Int32) (mm mt : Nat → Int32) (mv : Nat → Int64) (mx : Nat → Int32), N - ts.length = m → ts.length ≤ N → m + 1 < n → p ≤ e → RS pre 5 0 5 K ts xc xt xn xl mm mt mv mx →
    (∃ ts' p' xc' xt' xn' xl' mm' mt' mv' mx', ts'.length = N ∧ p ≤ p' ∧ p' ≤ e ∧ RS pre 5 0 5 K ts' xc' xt' xn' xl' mm' mt' mv' mx' ∧ FrX 5 xc xt xn xl xc' xt' xn' xl' ∧ FrN 5 mm mt mv mx mm' mt' mv' mx' ∧ itr8 (p_X1_readPlain_L37 5 (nI N) xk rc rb la (some 1) (nI e)) n (nI ts.length) xc xt xn xl (nI p) (nI 0) (nI 0) = some (xc', xt', xn', xl', la, nI p', nI 0, nI 0) ∧ itr8 (p_X6_readPage_L62 (nI K) mf mn (nI e) mpg mdi mbl mby mw mz mso mbo (nI N) mcd ml kx) n (nI ts.length) mm mt mv mx (nI p) (nI 0) (nI 0) = kx mm' mt' mv' mx' (nI p') (nI 0) (nI 0)) ∨
    (∃ xc' xt' xn' xl' sx mm' mt' mv' mx' sm d q, d ≠ nI 0 ∧ FrX 5 xc xt xn xl xc' xt' xn' xl' ∧ FrN 5 mm mt mv mx mm' mt' mv' mx' ∧ itr8 (p_X1_readPlain_L37 5 (nI N) xk rc rb la (some 1) (nI e)) n (nI ts.length) xc xt xn xl (nI p) (nI 0) (nI 0) = some (xc', xt', xn', xl', la, sx, d, q) ∧ itr8 (p_X6_readPage_L62 (nI K) mf mn (nI e) mpg mdi mbl mby mw mz mso mbo (nI N) mcd ml kx) n (nI ts.length) mm mt mv mx (nI p) (nI 0) (nI 0) = some (nI 0, mm', mt', mv', mx', mn, sm, nI e, d, q, mpg, mdi, mbl, mby, mw, mz, mso, mbo, nI N, mcd, ml)) := by
  intro m
  induction m with
  | zero =>
    intro n p ts xc xt xn xl mm mt mv mx h1 h2 h3 hp hr
    cases n with
    | zero => omega
    | succ n =>
      left
      refine ⟨ts, p, xc, xt, xn, xl, mm, mt, mv, mx, by omega, by omega, hp, hr, FrX.rf, FrN.rf, ?_, ?_⟩
      · show p_X1_readPlain_L37 5 (nI N) xk rc rb la (some 1) (nI e) _ (nI ts.length) xc xt xn xl (nI p) (nI 0) (nI 0) = _
        rw [p_X1_readPlain_L37, if_neg (by rw [ltI (by omega) (by omega)]; omega)]
      · show p_X6_readPage_L62 (nI K) mf mn (nI e) mpg mdi mbl mby mw mz mso mbo (nI N) mcd ml kx _ (nI ts.length) mm mt mv mx (nI p) (nI 0) (nI 0) = _
        rw [p_X6_readPage_L62, if_neg (by rw [ltI (by omega) (by omega)]; omega)]
  | succ m ih =>
    intro n p ts xc xt xn xl mm mt mv mx h1 h2 h3 hp hr
    cases n with
    | zero => omega
    | succ n =>
      cases n with
      | zero => omega
      | succ n =>
        have hM : itr8 (p_X6_readPage_L62 (nI K) mf mn (nI e) mpg mdi mbl mby mw mz mso mbo (nI N) mcd ml kx) (n + 1 + 1) (nI ts.length) mm mt mv mx (nI p) (nI 0) (nI 0) = p_X6_readPage_L62 (nI K) mf mn (nI e) mpg mdi mbl mby mw mz mso mbo (nI N) mcd ml kx (fun a b c d f g h i => itr8 (p_X6_readPage_L62 (nI K) mf mn (nI e) mpg mdi mbl mby mw mz mso mbo (nI N) mcd ml kx) (n + 1) a b c d f g h i) (nI ts.length) mm mt mv mx (nI p) (nI 0) (nI 0) := rfl
        rw [hM, p_X6_readPage_L62, if_pos (show nI ts.length < nI N by rw [ltI (by omega) (by omega)]; omega), addI]
        rcases L_plain1 (cx := 5) (cm := 5) (K := K) (N := N) (j := ts.length) (n := n) (la := la) hs hS heS hS2 hp hK hK3 (B := 0 + ts.length) (Bm := ts.length) hr.1 (by omega) (by omega) hr.2.1 (by omega) (by omega) hN with ⟨t, p1, q1, q2, q3, q4, q5⟩ | ⟨xc1, xt1, xn1, xl1, sx, sm, d, q, hd, q3, q4, q5⟩
        · have hr2 := hr.put q3
          have hlen : (ts ++ [t]).length = ts.length + 1 := by simp
          have hgo := ih (n + 1) p1 (ts ++ [t]) _ _ _ _ _ _ _ _ (by omega) (by omega) (by omega) q2 hr2
          rw [hlen] at hgo
          have f1 : FrX 5 xc xt xn xl (up xc 5 (nI (0 + ts.length + 1))) (up xt 5 (up (xt 5) (0 + ts.length) (nI 1))) (up xn 5 (up (xn 5) (0 + ts.length) t.1)) (up xl 5 (wr (xl 5) ((0 + ts.length) * 40) t.2)) := fun d hd => ⟨up_n hd, up_n hd, up_n hd, up_n hd⟩
          have f2 : FrN 5 mm mt mv mx (up mm 5 (nI (ts.length + 1))) (up mt (200 * 5 + ts.length) (nI 1)) (up mv (200 * 5 + ts.length) t.1) (wr mx (40 * (200 * 5 + ts.length)) (l40 t.2)) := FrN.put (some t) (by omega)
          rw [q5, bdS8, if_neg (show ¬ nI 1 = nI 0 by decide)]
          rcases hgo with ⟨ts2, p2, xc2, xt2, xn2, xl2, mm2, mt2, mv2, mx2, r1, r2, r3, r4, r5, r6, r7, r8⟩ | ⟨xc2, xt2, xn2, xl2, sx, mm2, mt2, mv2, mx2, sm, d, q, hd, r5, r6, r7, r8⟩
          · exact Or.inl ⟨ts2, p2, xc2, xt2, xn2, xl2, mm2, mt2, mv2, mx2, r1, by omega, r3, r4, f1.tr r5, f2.tr r6, q4.trans r7, r8⟩
          · exact Or.inr ⟨xc2, xt2, xn2, xl2, sx, mm2, mt2, mv2, mx2, sm, d, q, hd, f1.tr r5, f2.tr r6, q4.trans r7, r8⟩
        · rw [q5, bdS8, if_pos (show nI 0 = nI 0 from rfl)]
          exact Or.inr ⟨xc1, xt1, xn1, xl1, sx, mm, mt, mv, mx, sm, d, q, hd, q3, FrN.rf, q4, rfl⟩
