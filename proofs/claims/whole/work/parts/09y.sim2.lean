theorem wr_l40 {f : Nat → Int32} {a : Nat} {l : List Int32} (h : l.length ≤ 40) : wr (wr f a (l40 [])) a l = wr f a (l40 l) := by
  funext j
  by_cases h1 : a ≤ j
  · by_cases h2 : j - a < l.length
    · rw [wr_in h1 h2, wr_in h1 (by rw [l40_len]; omega), l40_at, List.getElem?_eq_getElem h2]
      rfl
    · rw [wr_out (by omega)]
      by_cases h3 : j - a < 40
      · rw [wr_in h1 (by rw [l40_len]; omega), wr_in h1 (by rw [l40_len]; omega), l40_at, l40_at, List.getElem?_eq_none (show l.length ≤ j - a by omega)]
        rfl
      · rw [wr_out (by rw [l40_len]; omega), wr_out (by rw [l40_len]; omega)]
  · rw [wr_out (by omega), wr_out (by omega), wr_out (by omega)]
theorem X_pushText_L {c n0 : Nat} {xc rc : Nat → Int32} {xl : Nat → Nat → Int32} {rb : Nat → Nat → Int32} {l : List Int32} {kx : (Nat → Nat → Int32) → Option ((Nat → Int32) × (Nat → Nat → Int32) × (Nat → Nat → Int64) × (Nat → Nat → Int32))} (hn : xc c = nI n0) (h : n0 < 200) (hr : XRow rc rb 0 l) : ∀ (m n k : Nat), l.length - k = m → k ≤ l.length → m < n → itr2 (p_X0_pushText_L31 c 0 (nI 0) (nI l.length) xc rc rb kx) n (nI k) (up xl c (wr (xl c) (n0 * 40) (l.take k))) = kx (up xl c (wr (xl c) (n0 * 40) l)) := by
  have hl : l.length ≤ 40 := hr.2.1
  intro m
  induction m with
  | zero =>
    intro n k h1 h2 h3
    have : k = l.length := by omega
    subst this
    cases n with
    | zero => omega
    | succ n =>
      rw [List.take_length]
      show p_X0_pushText_L31 c 0 (nI 0) (nI l.length) xc rc rb kx _ (nI l.length) _ = _
      rw [p_X0_pushText_L31, if_neg (by rw [ltI (by omega) (by omega)]; omega)]
  | succ m ih =>
    intro n k h1 h2 h3
    cases n with
    | zero => omega
    | succ n =>
      have hk : k < l.length := by omega
      show p_X0_pushText_L31 c 0 (nI 0) (nI l.length) xc rc rb kx _ (nI k) _ = _
      rw [p_X0_pushText_L31, if_pos (by rw [ltI (by omega) (by omega)]; omega), addI, Nat.zero_add, X_get hr hk, bdS1, hn, mulI, addI, inbI (by omega), gdD (by omega), ixI (by omega), b8_and, hr.2.2.1 _ (List.getElem_mem hk), up_up, up_s, addI]
      have e2 : n0 * 40 + k = n0 * 40 + (l.take k).length := by rw [List.length_take]; omega
      rw [e2, wr_snoc, take_snoc hk]
      exact ih n (k + 1) (by omega) (by omega) (by omega)
theorem X_pushText {c n0 : Nat} {xc rc : Nat → Int32} {xt : Nat → Nat → Int32} {xn : Nat → Nat → Int64} {xl : Nat → Nat → Int32} {rb : Nat → Nat → Int32} {l : List Int32} (hn : xc c = nI n0) (h : n0 < 200) (hr : XRow rc rb 0 l) : p_X0_pushText c 0 (nI 0) (rc 0) xc xt xn xl rc rb = some (up xc c (nI (n0 + 1)), up xt c (up (xt c) n0 (nI 1)), up xn c (up (xn c) n0 (lN l.length)), up xl c (wr (xl c) (n0 * 40) l)) := by
  have hl : l.length ≤ 40 := hr.2.1
  have e := X_pushText_L (xl := xl) (kx := fun xl_4 => some (up xc c (nI (n0 + 1)), up xt c (up (xt c) n0 (nI 1)), up xn c (up (xn c) n0 (lN l.length)), xl_4)) hn h hr l.length fu 0 (by omega) (by omega) (by rw [fu_eq]; omega)
  rw [List.take_zero, wr_nil, up_id] at e
  unfold p_X0_pushText
  rw [hr.1]
  simp only [hn]
  simp (disch := omega) only [ltI, eqI, addI, subI, mulI, divI, ixI, inbI, i2lI, l2iL, ltL, eqL, addL, mulL, subL, gdD, if_pos, if_neg, if_true, if_false, bdS1, bdS2, bdS3, bdS4, bdS5, bdS6, bdS7, bdS8, bdS9, bdS10, bdS11, bdS12, bdS13, moN, moS, h]
  exact e
theorem M_addText_L {c n0 : Nat} {mm mt : Nat → Int32} {mv : Nat → Int64} {mx mp : Nat → Int32} {l : List Int32} (hc : c < 5) (hn : n0 < 200) (hl : l.length ≤ 40) (hb : b8L l) (hp : Seg mp l) : ∀ (m n k : Nat), l.length - k = m → k ≤ l.length → m < n → itr2 (p_X6_addText_L51 (nI c) (nI n0) mm mt mv mp (nI l.length)) n (nI k) (wr mx (40 * (200 * c + n0)) (l.take k)) = some (nI n0, mm, mt, mv, wr mx (40 * (200 * c + n0)) l, nI 0) := by
  intro m
  induction m with
  | zero =>
    intro n k h1 h2 h3
    have : k = l.length := by omega
    subst this
    cases n with
    | zero => omega
    | succ n =>
      rw [List.take_length]
      show p_X6_addText_L51 (nI c) (nI n0) mm mt mv mp (nI l.length) _ (nI l.length) _ = _
      rw [p_X6_addText_L51, if_neg (by rw [ltI (by omega) (by omega)]; omega)]
  | succ m ih =>
    intro n k h1 h2 h3
    cases n with
    | zero => omega
    | succ n =>
      have hk : k < l.length := by omega
      show p_X6_addText_L51 (nI c) (nI n0) mm mt mv mp (nI l.length) _ (nI k) _ = _
      rw [p_X6_addText_L51, if_pos (by rw [ltI (by omega) (by omega)]; omega), inbI (by omega), gdD (by omega), mulI, addI, mulI, addI, inbI (by omega), gdD (by omega), ixI (by omega), ixI (by omega), hp k hk, hb _ (List.getElem_mem hk), addI]
      have e2 : 40 * (200 * c + n0) + k = 40 * (200 * c + n0) + (l.take k).length := by rw [List.length_take]; omega
      rw [e2, wr_snoc, take_snoc hk]
      exact ih n (k + 1) (by omega) (by omega) (by omega)
theorem sim_addText {xk xo xc : Nat → Int32} {xt : Nat → Nat → Int32} {xn : Nat → Nat → Int64} {xl : Nat → Nat → Int32} {rc rv : Nat → Int32} {rb : Nat → Nat → Int32} {mk mo mm mt : Nat → Int32} {mv : Nat → Int64} {mx mp : Nat → Int32} {mtd : Int32} (h : Cols xk xo xc xt xn xl mk mo mm mt mv mx) (ht : Tape rc rv rb mp mtd) (v1 : Int32) : ∃ r xc' xt' xn' xl' rc' rv' mm' mt' mv' mx' mtd', p_X5_addText v1 xk xc xt xn xl rc rv rb = some (r, xc', xt', xn', xl', rc', rv') ∧ p_X6_addText v1 mk mm mt mv mx mp mtd = some (r, mm', mt', mv', mx', mtd') ∧ Cols xk xo xc' xt' xn' xl' mk mo mm' mt' mv' mx' ∧ Tape rc' rv' rb mp mtd' ∧ FrR 0 rc rv rb rc' rv' rb ∧ xc' 5 = xc 5 := by
  obtain ⟨⟨l, hx, hm⟩, hv⟩ := ht
  have hl : l.length ≤ 40 := hm.2.1
  unfold p_X5_addText p_X6_addText
  rcases colAt v1 with ⟨c, hc, rfl, e1, e2⟩ | ⟨e1, e2⟩
  · obtain ⟨K, O, vals, w, x, m⟩ := h c hc
    have hK3 := w.k
    have hn := w.n
    rw [e1, e2, bdS1, bdS1, moS, gdD (by omega), if_neg (show ¬ nI 1 = nI 0 by decide), inbI (by omega), gdD (by omega), gdD (by omega), ixI (by omega), x.k, m.k, x.n, m.n]
    by_cases k2 : K = 2
    · subst k2
      rw [if_pos (show nI 2 = nI 2 from rfl), if_pos (show nI 2 = nI 2 from rfl)]
      by_cases hlt : vals.length < 200
      · have hwf : wfv 2 (some (lN l.length, l)) := ⟨hl, hx.2.2.1, fun _ => by rw [if_pos rfl]; rfl⟩
        have hput := h.put1 (some (lN l.length, l)) hlt w x m hwf (f := wr (xl c) (vals.length * 40) l) (fun j hj => wr_out (by omega)) (fun k hk => by
          have hk' : k < l.length := hk
          rw [wr_in (by omega) (by omega)]
          show l[vals.length * 40 + k - vals.length * 40] = l[k]
          congr 1
          omega)
        obtain ⟨rc', rv', ec, gc, fc⟩ := X_clear (r := 0) (rc := rc) (rv := rv) (rb := rb)
        have eM := M_addText_L (mm := up mm c (nI (vals.length + 1))) (mt := up mt (200 * c + vals.length) (nI 1)) (mv := up mv (200 * c + vals.length) (lN l.length)) (mx := wr mx (40 * (200 * c + vals.length)) (l40 [])) (mp := mp) (show c < 5 by omega) hlt hl hx.2.2.1 hm.2.2 l.length fu 0 (by omega) (by omega) (by rw [fu_eq]; omega)
        rw [List.take_zero, wr_nil, wr_l40 hl] at eM
        rw [if_pos (by rw [ltI (by omega) (by omega)]; exact hlt), if_neg (by rw [eqI (by omega) (by omega)]; omega), X_pushText x.n hlt hx, bdS4, ec, bdS2, up_s, subI (by omega), Nat.add_sub_cancel, hm.1, i2lI (by omega), M_adds (by omega) hlt m.n (by omega), bdS5, eM]
        refine ⟨_, _, _, _, _, _, _, _, _, _, _, _, rfl, rfl, hput, ⟨⟨[], ?_, rfl, by simp, fun k hk => by simp at hk⟩, ?_⟩, fc, up_n (by omega)⟩
        · rcases gc with ⟨_, g2, _, _⟩ | ⟨g1, _⟩
          · exact ⟨g2, by simp, by simp, fun k hk => by simp at hk⟩
          · simp at g1
        · rcases gc with ⟨_, _, g3, _⟩ | ⟨g1, _⟩
          · exact g3
          · simp at g1
      · rw [if_neg (by rw [ltI (by omega) (by omega)]; exact hlt), if_pos (by rw [eqI (by omega) (by omega)]; omega)]
        exact ⟨_, _, _, _, _, _, _, _, _, _, _, _, rfl, rfl, h, ⟨⟨l, hx, hm⟩, hv⟩, FrR.rf, rfl⟩
    · rw [if_neg (show ¬ nI K = nI 2 by rw [eqI (by omega) (by omega)]; exact k2), if_neg (show ¬ nI K = nI 2 by rw [eqI (by omega) (by omega)]; exact k2)]
      exact ⟨_, _, _, _, _, _, _, _, _, _, _, _, rfl, rfl, h, ⟨⟨l, hx, hm⟩, hv⟩, FrR.rf, rfl⟩
  · rw [e1, e2, bdS1, bdS1, moN, if_pos rfl]
    exact ⟨_, _, _, _, _, _, _, _, _, _, _, _, rfl, rfl, h, ⟨⟨l, hx, hm⟩, hv⟩, FrR.rf, rfl⟩
/-- a loop that counts down: k - 1 stands at k still to do -/
def dn (k : Nat) : Int32 := nI k - nI 1
theorem dn_s (k : Nat) : dn (k + 1) = nI k := by
  unfold dn
  rw [subI (by omega), Nat.add_sub_cancel]
theorem dn_0 : dn 0 < nI 0 := by decide
theorem dn_d (k : Nat) : nI k + (-1 : Int32) = dn k := by
  unfold dn
  rw [Int32.sub_eq_add_neg]
  rfl
theorem XRow.out {rc rv : Nat → Int32} {rb : Nat → Nat → Int32} {r : Nat} {l : List Int32} (h : XRow rc rb r l) (hv : rv r = nI 0) : XOut rc rv rb r l := Or.inl ⟨h.2.1, h.1, hv, h.2.2.2⟩
theorem XOut.row {rc rv : Nat → Int32} {rb : Nat → Nat → Int32} {r : Nat} {l : List Int32} (h : XOut rc rv rb r l) (hl : l.length ≤ rlen r) (hb : b8L l) : XRow rc rb r l ∧ rv r = nI 0 := by
  rcases h with ⟨h1, h2, h3, h4⟩ | ⟨h1, _⟩
  · exact ⟨⟨h2, h1, hb, h4⟩, h3⟩
  · omega
theorem X_type_L {v : Int64} : ∀ (k n : Nat) (l : List Int32) (rc rv : Nat → Int32) (rb : Nat → Nat → Int32) (mp : Nat → Int32), k ≤ 8 → k < n → l.length + k ≤ 40 → Tape rc rv rb mp (nI l.length) → XRow rc rb 0 l → MRow mp (nI l.length) 40 l → ∃ r rc' rv' rb' mp' mtd', itr4 (p_X5_type_L35 v) n (dn k) rc rv rb = some (r, rc', rv', rb') ∧ itr3 (p_X6_type_L33 v) n (dn k) mp (nI l.length) = some (r, mp', mtd') ∧ Tape rc' rv' rb' mp' mtd' ∧ FrR 0 rc rv rb rc' rv' rb' := by
  intro k
  induction k with
  | zero =>
    intro n l rc rv rb mp h1 h2 h3 ht hx hm
    cases n with
    | zero => omega
    | succ n =>
      refine ⟨nI l.length, rc, rv, rb, mp, nI l.length, ?_, ?_, ht, FrR.rf⟩
      · show p_X5_type_L35 v _ (dn 0) rc rv rb = _
        rw [p_X5_type_L35, if_pos dn_0, hx.1]
      · show p_X6_type_L33 v _ (dn 0) mp (nI l.length) = _
        rw [p_X6_type_L33, if_pos dn_0]
  | succ k ih =>
    intro n l rc rv rb mp h1 h2 h3 ht hx hm
    cases n with
    | zero => omega
    | succ n =>
      obtain ⟨rc1, rv1, rb1, e1, g1, f1⟩ := XOut_push (l2i (lushr v (nI (8 * k)))) (hx.out ht.2)
      have hlen : (l ++ [b8 (l2i (lushr v (nI (8 * k))))]).length = l.length + 1 := by simp
      obtain ⟨r1, q1⟩ := g1.row (by rw [hlen]; show _ ≤ 40; omega) (b8L.app hx.2.2.1 (b8L.one _))
      have hm1 : MRow (up mp l.length (b8 (l2i (lushr v (nI (8 * k)))))) (nI (l.length + 1)) 40 (l ++ [b8 (l2i (lushr v (nI (8 * k))))]) := ⟨by rw [hlen], by rw [hlen]; omega, Seg.snoc hm.2.2 _⟩
      have := ih n (l ++ [b8 (l2i (lushr v (nI (8 * k))))]) rc1 rv1 rb1 (up mp l.length (b8 (l2i (lushr v (nI (8 * k)))))) (by omega) (by omega) (by omega) ⟨⟨_, r1, by rw [hlen]; exact hm1⟩, q1⟩ r1 (by rw [hlen]; exact hm1)
      obtain ⟨r, rc2, rv2, rb2, mp2, mtd2, e2, e3, t2, f2⟩ := this
      refine ⟨r, rc2, rv2, rb2, mp2, mtd2, ?_, ?_, t2, f1.tr f2⟩
      · show p_X5_type_L35 v _ (dn (k + 1)) rc rv rb = _
        rw [p_X5_type_L35, dn_s, if_neg (by rw [ltI (by omega) (by omega)]; omega), mulI, e1, bdS3, dn_d]
        exact e2
      · show p_X6_type_L33 v _ (dn (k + 1)) mp (nI l.length) = _
        rw [p_X6_type_L33, dn_s, if_neg (by rw [ltI (by omega) (by omega)]; omega), mulI, inbI (by omega), gdD (by omega), ixI (by omega), ← b8_sh v (by omega), addI, dn_d]
        rw [hlen] at e3
        exact e3
theorem sim_type {rc rv : Nat → Int32} {rb : Nat → Nat → Int32} {mp : Nat → Int32} {mtd : Int32} (h : Tape rc rv rb mp mtd) (v1 : Int64) (v3 : Int32) : ∃ r rc' rv' rb' mp' mtd', p_X5_type v1 v3 rc rv rb = some (r, rc', rv', rb') ∧ p_X6_type v1 v3 mp mtd = some (r, mp', mtd') ∧ Tape rc' rv' rb' mp' mtd' ∧ FrR 0 rc rv rb rc' rv' rb' := by
  obtain ⟨⟨l, hx, hm⟩, hv⟩ := h
  have hl : l.length ≤ 40 := hm.2.1
  have h' : Tape rc rv rb mp mtd := ⟨⟨l, hx, hm⟩, hv⟩
  have hmt := hm.1
  subst hmt
  unfold p_X5_type p_X6_type
  rcases splitI v3 with hn | ⟨N, hN, rfl⟩
  · rw [M_in_neg hn 1 _ (by omega), bdS1, if_pos rfl]
    rw [if_pos (Int32.lt_trans hn (by decide))]
    exact ⟨_, _, _, _, _, _, rfl, rfl, h', FrR.rf⟩
  · rw [M_in_nat (by omega) (by omega) (by omega), bdS1, hx.1, addI]
    by_cases h1 : N < 1
    · rw [if_pos (by rw [ltI (by omega) (by omega)]; exact h1), if_neg (show ¬ (1 ≤ N ∧ N ≤ 8) by omega), if_pos rfl]
      exact ⟨_, _, _, _, _, _, rfl, rfl, h', FrR.rf⟩
    · rw [if_neg (show ¬ nI N < nI 1 by rw [ltI (by omega) (by omega)]; exact h1)]
      by_cases h8 : 8 < N
      · rw [if_pos (by rw [ltI (by omega) (by omega)]; exact h8), if_neg (show ¬ (1 ≤ N ∧ N ≤ 8) by omega), if_pos rfl]
        exact ⟨_, _, _, _, _, _, rfl, rfl, h', FrR.rf⟩
      · rw [if_neg (show ¬ nI 8 < nI N by rw [ltI (by omega) (by omega)]; exact h8), if_pos (show 1 ≤ N ∧ N ≤ 8 by omega), if_neg (show ¬ nI 1 = nI 0 by decide)]
        by_cases h40 : 40 < l.length + N
        · rw [if_pos (by rw [ltI (by omega) (by omega)]; exact h40), if_pos (by rw [ltI (by omega) (by omega)]; exact h40)]
          exact ⟨_, _, _, _, _, _, rfl, rfl, h', FrR.rf⟩
        · rw [if_neg (by rw [ltI (by omega) (by omega)]; exact h40), if_neg (by rw [ltI (by omega) (by omega)]; exact h40)]
          exact X_type_L N fu l rc rv rb mp (by omega) (by rw [fu_eq]; omega) (by omega) h' hx hm
