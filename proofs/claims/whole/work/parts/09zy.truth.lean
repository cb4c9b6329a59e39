/-! numbers gathered, then put into the column; truths packed -/
def XSt (pre : Nat → AV) (B : Nat) (f : Nat → Int64) (j : Nat) (xc : Nat → Int32) (xt : Nat → Nat → Int32) (xn : Nat → Nat → Int64) (xl : Nat → Nat → Int32) : Prop := xc 4 = nI (B + j) ∧ (∀ t, t < j → XV xt xn xl 4 (B + t) (some (f t, []))) ∧ ∀ t, t < B → XV xt xn xl 4 t (pre t)
def MSt (f : Nat → Int64) (j : Nat) (mm mt : Nat → Int32) (mv : Nat → Int64) (mx : Nat → Int32) : Prop := mm 6 = nI j ∧ ∀ t, t < j → MV mt mv mx (200 * 6 + t) (some (f t, []))
theorem XSt.put {pre : Nat → AV} {B : Nat} {f : Nat → Int64} {j : Nat} {xc : Nat → Int32} {xt : Nat → Nat → Int32} {xn : Nat → Nat → Int64} {xl : Nat → Nat → Int32} (h : XSt pre B f j xc xt xn xl) (hpre : ∀ j, (le (pre j)).length ≤ 40) : XSt pre B f (j + 1) (up xc 4 (nI (B + j + 1))) (up xt 4 (up (xt 4) (B + j) (nI 1))) (up xn 4 (up (xn 4) (B + j) (f j))) xl := by
  obtain ⟨h1, h2, h3⟩ := h
  have ex : up xl 4 (wr (xl 4) ((B + j) * 40) []) = xl := by rw [wr_nil, up_id]
  have hs := XV_set (xt := xt) (xn := xn) (xl := xl) (c := 4) (i := B + j) (some (f j, []))
  have hn : ∀ (i : Nat) (b : AV), i ≠ B + j → (le b).length ≤ 40 → XV xt xn xl 4 i b → XV (up xt 4 (up (xt 4) (B + j) (nI 1))) (up xn 4 (up (xn 4) (B + j) (f j))) xl 4 i b := by
    intro i b hi hb hv
    have := XV_set_n (a := some (f j, [])) hi (by simp [le]) hb hv
    rw [show le (some (f j, ([] : List Int32))) = [] from rfl, ex] at this
    exact this
  rw [show le (some (f j, ([] : List Int32))) = [] from rfl, ex] at hs
  refine ⟨up_s, fun t ht => ?_, fun t ht => hn t _ (by omega) (hpre t) (h3 t ht)⟩
  by_cases e : t = j
  · rw [e]; exact hs
  · exact hn _ _ (by omega) (by simp [le]) (h2 t (by omega))
theorem X_push_L {pre : Nat → AV} {B K N : Nat} {xk : Nat → Int32} {la : Nat → Nat → Int64} {f : Nat → Int64} {xl : Nat → Nat → Int32} (hK : xk 4 = nI K) (hK3 : K ≤ 3) (hN : B + N ≤ 200) (hk : ∀ t, t < N → nvB K (la 2 t) = f t) (hpre : ∀ j, (le (pre j)).length ≤ 40) : ∀ (m n j : Nat) (xc : Nat → Int32) (xt : Nat → Nat → Int32) (xn : Nat → Nat → Int64), N - j = m → j ≤ N → m < n → XSt pre B f j xc xt xn xl → ∃ xc' xt' xn', XSt pre B f N xc' xt' xn' xl ∧ FrX 4 xc xt xn xl xc' xt' xn' xl ∧ itr4 (p_X1_pushNumbers_L2 (nI N) xk la (nI 0)) n (nI j) xc xt xn = some (xc', xt', xn') := by
  have es : p_X4_isSound (nI 0) = some (nI 1) := rfl
  intro m
  induction m with
  | zero =>
    intro n j xc xt xn h1 h2 h3 hr
    have : j = N := by omega
    subst this
    cases n with
    | zero => omega
    | succ n =>
      refine ⟨xc, xt, xn, hr, FrX.rf, ?_⟩
      show p_X1_pushNumbers_L2 (nI j) xk la (nI 0) _ (nI j) xc xt xn = _
      rw [p_X1_pushNumbers_L2, if_neg (by rw [ltI (by omega) (by omega)]; omega)]
  | succ m ih =>
    intro n j xc xt xn h1 h2 h3 hr
    cases n with
    | zero => omega
    | succ n =>
      obtain ⟨xc2, xt2, xn2, r1, r2, r3⟩ := ih n (j + 1) _ _ _ (by omega) (by omega) (by omega) (hr.put hpre)
      refine ⟨xc2, xt2, xn2, r1, FrX.tr (fun d hd => ⟨up_n hd, up_n hd, up_n hd, rfl⟩) r2, ?_⟩
      show p_X1_pushNumbers_L2 (nI N) xk la (nI 0) _ (nI j) xc xt xn = _
      rw [p_X1_pushNumbers_L2, if_pos (by rw [ltI (by omega) (by omega)]; omega), if_pos (by rw [ltI (by omega) (by omega)]; omega), es, bdS1, if_neg (show ¬ nI 1 = nI 0 by decide), inbI (by omega), gdD (by omega), ixI (by omega), X_pushNumber hK hK3 hr.1 (by omega), bdS3, addI, hk j (by omega)]
      exact r3
theorem MSt.put {f : Nat → Int64} {j : Nat} {mm mt : Nat → Int32} {mv : Nat → Int64} {mx : Nat → Int32} (h : MSt f j mm mt mv mx) : MSt f (j + 1) (up mm 6 (nI (j + 1))) (up mt (200 * 6 + j) (nI 1)) (up mv (200 * 6 + j) (f j)) (wr mx (40 * (200 * 6 + j)) (l40 [])) := by
  refine ⟨up_s, fun t ht => ?_⟩
  by_cases e : t = j
  · rw [e]; exact MV_wr (some (f j, []))
  · exact MV_wr_n (a := some (f j, [])) (by omega) (h.2 t (by omega))
theorem MSt.cg {f g : Nat → Int64} {j : Nat} {mm mt : Nat → Int32} {mv : Nat → Int64} {mx : Nat → Int32} (h : MSt f j mm mt mv mx) (e : ∀ t, t < j → g t = f t) : MSt g j mm mt mv mx := ⟨h.1, fun t ht => by rw [e t ht]; exact h.2 t ht⟩
theorem M_push_L {N : Nat} {mn f : Nat → Int64} {ma me mbl mby : Int32} {mw : Nat → Int32} (hN : N ≤ 200) (hk : ∀ t, t < N → mn t = f t) : ∀ (m n j : Nat) (mm mt : Nat → Int32) (mv : Nat → Int64) (mx : Nat → Int32), N - j = m → j ≤ N → m < n → MSt f j mm mt mv mx → ∃ mm' mt' mv' mx', MSt f N mm' mt' mv' mx' ∧ FrN 6 mm mt mv mx mm' mt' mv' mx' ∧ itr5 (p_X6_readValues_L143 (nI N) mn ma me (nI 0) (nI 0) mbl mby mw) n (nI j) mm mt mv mx = some (nI 1, mm', mt', mv', mx', mn, ma, me, nI 0, nI 0, mbl, mby, mw) := by
  intro m
  induction m with
  | zero =>
    intro n j mm mt mv mx h1 h2 h3 hr
    have : j = N := by omega
    subst this
    cases n with
    | zero => omega
    | succ n =>
      refine ⟨mm, mt, mv, mx, hr, FrN.rf, ?_⟩
      show p_X6_readValues_L143 (nI j) mn ma me (nI 0) (nI 0) mbl mby mw _ (nI j) mm mt mv mx = _
      rw [p_X6_readValues_L143, if_neg (by rw [ltI (by omega) (by omega)]; omega)]
  | succ m ih =>
    intro n j mm mt mv mx h1 h2 h3 hr
    cases n with
    | zero => omega
    | succ n =>
      obtain ⟨mm2, mt2, mv2, mx2, r1, r2, r3⟩ := ih n (j + 1) _ _ _ _ (by omega) (by omega) (by omega) hr.put
      refine ⟨mm2, mt2, mv2, mx2, r1, FrN.tr (FrN.put (some (f j, [])) (by omega)) r2, ?_⟩
      show p_X6_readValues_L143 (nI N) mn ma me (nI 0) (nI 0) mbl mby mw _ (nI j) mm mt mv mx = _
      rw [p_X6_readValues_L143, if_pos (by rw [ltI (by omega) (by omega)]; omega), inbI (by omega), gdD (by omega), ixI (by omega), hk j (by omega)]
      unfold p_X6_reads
      rw [M_adds (by omega) (by omega) hr.1 (by omega), bdS5, bdS4, addI]
      exact r3
theorem L258_eq : @p_X6_readValues_L258 = @p_X6_readValues_L143 := rfl
def tvs (f : Nat → Int64) (N : Nat) : List TV := (List.range N).map (fun t => (f t, []))
theorem tvs_len {f : Nat → Int64} {N : Nat} : (tvs f N).length = N := by simp [tvs]
theorem tvs_at {f : Nat → Int64} {N j : Nat} (h : j < (tvs f N).length) : (tvs f N)[j] = (f j, []) := by simp [tvs]
theorem RS_of {pre : Nat → AV} {B K N : Nat} {f : Nat → Int64} {xc : Nat → Int32} {xt : Nat → Nat → Int32} {xn : Nat → Nat → Int64} {xl : Nat → Nat → Int32} {mm mt : Nat → Int32} {mv : Nat → Int64} {mx : Nat → Int32} (hx : XSt pre B f N xc xt xn xl) (hm : MSt f N mm mt mv mx) (hK : K ≠ 2) (hpre : ∀ j, (le (pre j)).length ≤ 40) : RS pre 4 B 6 K (tvs f N) xc xt xn xl mm mt mv mx := by
  refine ⟨by rw [tvs_len]; exact hx.1, by rw [tvs_len]; exact hm.1, fun j hj => ?_, fun j hj => ?_, fun t ht => ?_, hpre, hx.2.2⟩
  · rw [tvs_at]; rw [tvs_len] at hj; exact hx.2.1 j hj
  · rw [tvs_at]; rw [tvs_len] at hj; exact hm.2 j hj
  · obtain ⟨i, _, rfl⟩ := List.mem_map.mp ht
    exact ⟨by simp, b8L_nil, by rw [if_neg hK]⟩
theorem M_bit_in {mf : Nat → Int32} {p e c : Nat} {mby : Int32} (hc : c ≠ 0) (hc8 : c ≤ 8) : ∃ v, p_X6_readPacked (nI 1) mf (nI p) (nI e) (nI 0) (nI 0) (nI c) mby = some (v, nI p, nI 0, nI 0, nI (c - 1), mby) := by
  unfold p_X6_readPacked
  rw [fu_eq]
  refine ⟨lN 0 ||| lshl (i2l (ishr mby (nI 8 - nI c) &&& nI 1)) (nI 0), ?_⟩
  show p_X6_readPacked_L5 (nI 1) mf (nI e) _ (lN 0) (nI 0) (nI p) (nI 0) (nI 0) (nI c) mby = _
  rw [p_X6_readPacked_L5, if_pos (by decide), if_pos rfl, if_neg (show ¬ nI c = nI 0 by rw [eqI (by omega) (by omega)]; exact hc), p_X6_readPacked_J39, addI, subI (show 1 ≤ c by omega)]
  show p_X6_readPacked_L5 (nI 1) mf (nI e) _ _ (nI (0 + 1)) (nI p) (nI 0) (nI 0) (nI (c - 1)) mby = _
  rw [p_X6_readPacked_L5, if_neg (by decide)]
theorem M_bit_0 {rb : Nat → Nat → Int32} {mf : Nat → Int32} {p e : Nat} {mby : Int32} (hs : Src rb mf e) (hp : p ≤ e) : (∃ v y, p < e ∧ p_X6_readPacked (nI 1) mf (nI p) (nI e) (nI 0) (nI 0) (nI 0) mby = some (v, nI (p + 1), nI 0, nI 0, nI 7, y)) ∨ (∃ v x y z, p_X6_readPacked (nI 1) mf (nI p) (nI e) (nI 0) (nI 0) (nI 0) mby = some (v, x, nI 1, nI p, y, z)) := by
  unfold p_X6_readPacked
  rw [fu_eq]
  show (∃ v y, p < e ∧ p_X6_readPacked_L5 (nI 1) mf (nI e) _ (lN 0) (nI 0) (nI p) (nI 0) (nI 0) (nI 0) mby = some (v, nI (p + 1), nI 0, nI 0, nI 7, y)) ∨ (∃ v x y z, p_X6_readPacked_L5 (nI 1) mf (nI e) _ (lN 0) (nI 0) (nI p) (nI 0) (nI 0) (nI 0) mby = some (v, x, nI 1, nI p, y, z))
  rw [p_X6_readPacked_L5, if_pos (by decide), if_pos rfl, if_pos rfl]
  rcases L_next hs hp with ⟨b, hb, hlt, e1, e2⟩ | ⟨rfl, e1, e2⟩
  · left
    rw [e2, bdS4, p_X6_readPacked_J39, addI, show nI 8 - nI 1 = nI 7 by decide]
    refine ⟨lN 0 ||| lshl (i2l (ishr (nI b) (nI 8 - nI 8) &&& nI 1)) (nI 0), nI b, hlt, ?_⟩
    show p_X6_readPacked_L5 (nI 1) mf (nI e) _ _ (nI (0 + 1)) (nI (p + 1)) (nI 0) (nI 0) (nI 7) (nI b) = _
    rw [p_X6_readPacked_L5, if_neg (by decide)]
  · right
    rw [e2, bdS4, p_X6_readPacked_J39, addI]
    refine ⟨lN 0 ||| lshl (i2l (ishr (nI 0) (nI 8 - nI 8) &&& nI 1)) (nI 0), nI p, nI 8 - nI 1, nI 0, ?_⟩
    show p_X6_readPacked_L5 (nI 1) mf (nI p) _ _ (nI (0 + 1)) (nI p) (nI 1) (nI p) _ _ = _
    rw [p_X6_readPacked_L5, if_neg (by decide)]
theorem M_bit_c {rb : Nat → Nat → Int32} {mf : Nat → Int32} {p e c p' c' : Nat} {mby y : Int32} {v : Int64} (hs : Src rb mf e) (hp : p ≤ e) (hc : c < 8) (hc' : c' ≤ 8) (hp' : p' ≤ e) (h : p_X6_readPacked (nI 1) mf (nI p) (nI e) (nI 0) (nI 0) (nI c) mby = some (v, nI p', nI 0, nI 0, nI c', y)) : (c ≠ 0 → p' = p ∧ c' = c - 1) ∧ (c = 0 → c' = 7) := by
  have he := hs.1
  refine ⟨fun h0 => ?_, fun h0 => ?_⟩
  · obtain ⟨v2, e2⟩ := M_bit_in (mf := mf) (p := p) (e := e) (mby := mby) h0 (by omega)
    rw [e2] at h
    obtain ⟨_, h2, _, _, h5, _⟩ := inj6 h
    rw [eqI (by omega) (by omega)] at h2 h5
    exact ⟨h2.symm, h5.symm⟩
  · subst h0
    rcases M_bit_0 (mby := mby) hs hp with ⟨v2, y2, _, e2⟩ | ⟨v2, x2, y2, z2, e2⟩
    · rw [e2] at h
      obtain ⟨_, _, _, _, h5, _⟩ := inj6 h
      rw [eqI (by omega) (by omega)] at h5
      exact h5.symm
    · rw [e2] at h
      obtain ⟨_, _, h3, _, _, _⟩ := inj6 h
      exact absurd h3 (by decide)
/-- the bits that are left of the last byte -/
theorem X_tail {N G p e : Nat} {rb : Nat → Nat → Int32} {mf : Nat → Int32} (hs : Src rb mf e) (hp : p ≤ e) (hN : N ≤ 200) (hG : G < 2 ^ 30) : ∀ (c n j : Nat) (v6 mby : Int32) (la : Nat → Nat → Int64), j + c = G → N ≤ j → c < 8 → c + 1 < n → PB c v6 mby → itr7 (p_X4_nextPacked_L9 2 (nI 0) (nI N) (nI G) (nI 1) rb (some 1) (nI e)) n v6 (nI c) (nI (0 + j)) la (nI p) (nI 0) (nI 0) = some (la, nI p, nI 0, nI 0) := by
  have he := hs.1
  intro c
  induction c with
  | zero =>
    intro n j v6 mby la h1 h2 h3 h4 hc
    cases n with
    | zero => omega
    | succ n =>
      have : j = G := by omega
      subst this
      exact X_L9_end (by omega)
  | succ c ih =>
    intro n j v6 mby la h1 h2 h3 h4 hc
    cases n with
    | zero => omega
    | succ n =>
      cases n with
      | zero => omega
      | succ n =>
        obtain ⟨v2, e2⟩ := M_bit_in (mf := mf) (p := p) (e := e) (c := c + 1) (mby := mby) (by omega) (by omega)
        rcases X_L9 (r := 2) (a := 0) (lim := N) (cnt := G) (w := 1) (j := j) (n := n) (la := la) hs (by omega) hN (by omega) (by omega) hp hc with ⟨v', c', p', v6', mby', q1, q2, q3, q4, q5⟩ | ⟨la', sx, vm, sm, d, q, cm, bm, hd, q3, q4, q5⟩
        · have hcc := (M_bit_c hs hp (by omega) q3.1 q2 q4).1 (by omega)
          rw [q5, hcc.1, hcc.2, Nat.add_sub_cancel]
          have es : stA la 2 (0 + j) N v' = la := by unfold stA; rw [if_neg (by omega)]
          rw [es]
          rw [hcc.2, Nat.add_sub_cancel] at q3
          exact ih (n + 1) (j + 1) v6' mby' la (by omega) (by omega) (by omega) (by omega) q3
        · rw [e2] at q4
          exact absurd (inj6 q4).2.2.1.symm hd
abbrev VM : Type := Int32 × (Nat → Int32) × (Nat → Int32) × (Nat → Int64) × (Nat → Int32) × (Nat → Int64) × Int32 × Int32 × Int32 × Int32 × Int32 × Int32 × (Nat → Int32)
theorem L_truth_L {N e : Nat} {rb : Nat → Nat → Int32} {mf : Nat → Int32} {mn : Nat → Int64} {mw : Nat → Int32} (hs : Src rb mf e) (hN : N ≤ 200) : ∀ (m n j p c : Nat) (v6 mby : Int32) (la : Nat → Nat → Int64) (mm mt : Nat → Int32) (mv : Nat → Int64) (mx : Nat → Int32), N - j = m → j ≤ N → m + 10 < n → p ≤ e → PB c v6 mby → c < 8 → (c + j) % 8 = 0 → MSt (la 2) j mm mt mv mx → (∀ t, t < j → hiB 1 (la 2 t)) →
    (∃ la' p' c' mby' mm' mt' mv' mx', p ≤ p' ∧ p' ≤ e ∧ FrA 2 la la' ∧ MSt (la' 2) N mm' mt' mv' mx' ∧ (∀ t, t < N → hiB 1 (la' 2 t)) ∧ FrN 6 mm mt mv mx mm' mt' mv' mx' ∧ itr7 (p_X4_nextPacked_L9 2 (nI 0) (nI N) (nI ((N + 7) / 8 * 8)) (nI 1) rb (some 1) (nI e)) n v6 (nI c) (nI (0 + j)) la (nI p) (nI 0) (nI 0) = some (la', nI p', nI 0, nI 0) ∧ itr10 (p_X6_readValues_L33 (nI N) mf mn (nI e) mw) n (nI j) mm mt mv mx (nI p) (nI 0) (nI 0) (nI c) mby = some (nI 1, mm', mt', mv', mx', mn, nI p', nI e, nI 0, nI 0, nI c', mby', mw)) ∨
    (∃ la' sx mm' mt' mv' mx' sm d q cm bm, d ≠ nI 0 ∧ FrA 2 la la' ∧ FrN 6 mm mt mv mx mm' mt' mv' mx' ∧ itr7 (p_X4_nextPacked_L9 2 (nI 0) (nI N) (nI ((N + 7) / 8 * 8)) (nI 1) rb (some 1) (nI e)) n v6 (nI c) (nI (0 + j)) la (nI p) (nI 0) (nI 0) = some (la', sx, d, q) ∧ itr10 (p_X6_readValues_L33 (nI N) mf mn (nI e) mw) n (nI j) mm mt mv mx (nI p) (nI 0) (nI 0) (nI c) mby = some (nI 0, mm', mt', mv', mx', mn, sm, nI e, d, q, cm, bm, mw)) := by
  have he := hs.1
  intro m
  induction m with
  | zero =>
    intro n j p c v6 mby la mm mt mv mx h1 h2 h3 hp hc hc8 hcj hm hh
    have : j = N := by omega
    subst this
    cases n with
    | zero => omega
    | succ n =>
      left
      refine ⟨la, p, c, mby, mm, mt, mv, mx, by omega, hp, FrA.rf, hm, hh, FrN.rf, ?_, ?_⟩
      · exact X_tail hs hp hN (by omega) c (n + 1) j v6 mby la (by omega) (by omega) hc8 (by omega) hc
      · show p_X6_readValues_L33 (nI j) mf mn (nI e) mw _ (nI j) mm mt mv mx (nI p) (nI 0) (nI 0) (nI c) mby = _
        rw [p_X6_readValues_L33, if_neg (by rw [ltI (by omega) (by omega)]; omega)]
  | succ m ih =>
    intro n j p c v6 mby la mm mt mv mx h1 h2 h3 hp hc hc8 hcj hm hh
    cases n with
    | zero => omega
    | succ n =>
      cases n with
      | zero => omega
      | succ n =>
        have hM : itr10 (p_X6_readValues_L33 (nI N) mf mn (nI e) mw) (n + 1 + 1) (nI j) mm mt mv mx (nI p) (nI 0) (nI 0) (nI c) mby = p_X6_readValues_L33 (nI N) mf mn (nI e) mw (fun a b c d f g h i j k => itr10 (p_X6_readValues_L33 (nI N) mf mn (nI e) mw) (n + 1) a b c d f g h i j k) (nI j) mm mt mv mx (nI p) (nI 0) (nI 0) (nI c) mby := rfl
        rw [hM, p_X6_readValues_L33, if_pos (show nI j < nI N by rw [ltI (by omega) (by omega)]; omega)]
        rcases X_L9 (r := 2) (a := 0) (lim := N) (cnt := (N + 7) / 8 * 8) (w := 1) (j := j) (n := n) (la := la) hs (by omega) hN (by omega) (by omega) hp hc with ⟨v', c', p', v6', mby', q1, q2, q3, q4, q5⟩ | ⟨la', sx, vm, sm, d, q, cm, bm, hd, q3, q4, q5⟩
        · have hcc := M_bit_c hs hp hc8 q3.1 q2 q4
          have hhv := R_packed (by omega) q4
          rw [q4, bdS6, if_pos (show nI 0 = nI 0 from rfl)]
          unfold p_X6_reads
          rw [M_adds (by omega) (by omega) hm.1 (by omega), bdS5, bdS4, addI]
          have e0 : 0 + j = j := Nat.zero_add j
          have est : ∀ t, stA la 2 (0 + j) N v' 2 t = if t = j then v' else la 2 t := by
            intro t
            unfold stA
            rw [if_pos (by omega), up_s, e0]
            rfl
          have hm2 : MSt (stA la 2 (0 + j) N v' 2) (j + 1) (up mm 6 (nI (j + 1))) (up mt (200 * 6 + j) (nI 1)) (up mv (200 * 6 + j) v') (wr mx (40 * (200 * 6 + j)) (l40 [])) := by
            have := (hm.cg (g := fun t => stA la 2 (0 + j) N v' 2 t) (fun t ht => by rw [est, if_neg (by omega)])).put
            rw [show stA la 2 (0 + j) N v' 2 j = v' by rw [est, if_pos rfl]] at this
            exact this
          have hcn : c' < 8 ∧ (c' + (j + 1)) % 8 = 0 := by
            by_cases h0 : c = 0
            · have := hcc.2 h0; omega
            · have := (hcc.1 h0).2; omega
          rcases ih (n + 1) (j + 1) p' c' v6' mby' _ _ _ _ _ (by omega) (by omega) (by omega) q2 q3 hcn.1 hcn.2 hm2 (fun t ht => by
            rw [est]
            by_cases e : t = j
            · rw [if_pos e]; exact hhv
            · rw [if_neg e]; exact hh t (by omega)) with ⟨la2, p2, c2, by2, mm2, mt2, mv2, mx2, r1, r2, r3, r4, r5, r6, r7, r8⟩ | ⟨la2, sx, mm2, mt2, mv2, mx2, sm, d, q, cm, bm, hd, r3, r6, r7, r8⟩
          · exact Or.inl ⟨la2, p2, c2, by2, mm2, mt2, mv2, mx2, by omega, r2, stA_fr.tr r3, r4, r5, FrN.tr (FrN.put (some (v', [])) (by omega)) r6, q5.trans r7, r8⟩
          · exact Or.inr ⟨la2, sx, mm2, mt2, mv2, mx2, sm, d, q, cm, bm, hd, stA_fr.tr r3, FrN.tr (FrN.put (some (v', [])) (by omega)) r6, q5.trans r7, r8⟩
        · rw [q4, bdS6, if_neg hd]
          exact Or.inr ⟨la', sx, mm, mt, mv, mx, sm, d, q, cm, bm, hd, q3, FrN.rf, q5, rfl⟩
