/-! a page of the reference -/
theorem pst_zero {s : PS} (h : s.1 < 8) : pst (nI 0) s = if s.1 + 1 = 8 then (0, nI 0, s.2.2 ++ [b8 s.2.1]) else (s.1 + 1, s.2.1, s.2.2) := by
  have e : ishl (nI 0) (nI s.1) = nI 0 := by
    have : ∀ k, k < 8 → ishl (nI 0) (nI k) = nI 0 := by decide
    exact this _ h
  have e2 : s.2.1 ||| nI 0 = s.2.1 := Int32.or_zero
  unfold pst
  rw [e, e2]
theorem pb1 {b : Nat} {v : Int32} {o : List Int32} (h : b < 8) : pbits (lN 0) 1 (b, v, o) = if b + 1 = 8 then (0, nI 0, o ++ [b8 v]) else (b + 1, v, o) := by
  show pst (bitOf (lN 0) 0) (b, v, o) = _
  rw [bitOf_0 (by omega), pst_zero h]
theorem pz {g : Nat → Int64} {p : Nat} (h0 : ∀ j, p ≤ j → g j = lN 0) : ∀ z, (pnums g 1 p (0, nI 0, [])).1 + z < 8 → pnums g 1 (p + z) (0, nI 0, []) = ((pnums g 1 p (0, nI 0, [])).1 + z, (pnums g 1 p (0, nI 0, [])).2.1, (pnums g 1 p (0, nI 0, [])).2.2) := by
  intro z
  induction z with
  | zero => intro _; rfl
  | succ z ih =>
    intro h
    rw [show p + (z + 1) = (p + z) + 1 by omega, pnums, ih (by omega), h0 _ (by omega)]
    rw [pb1 (by omega), if_neg (by omega)]
    rfl
theorem M_packT {p : Nat} {mn g : Nat → Int64} {L : List Int32} {md : Nat → Int32} {mdd : Int32} (hp : p ≤ 200) (hg : ∀ j, j < p → g j = mn j) (h0 : ∀ j, p ≤ j → g j = lN 0) (hL : L.length + (p + 7) / 8 ≤ 60000) (h : MOut md mdd L) : ∃ md' mdd', p_X6_pack (nI 0) (nI p) (nI p) (nI 1) md mdd mn = some (md', mdd') ∧ MOut md' mdd' (L ++ packB g 1 ((p + 7) / 8 * 8)) := by
  have ht := pnums_tot g 1 p (0, nI 0, [])
  have hlt := pnums_lt g 1 p (0, nI 0, []) (by simp)
  unfold ptot at ht
  simp only [List.length_nil] at ht
  obtain ⟨md1, mdd1, e1, g1⟩ := M_pack_out (lim := p) (w := 1) (i0 := 0) (cnt := p) (mn := mn) (g := g) (L := L) (B := (p + 7) / 8) (kx := fun v5_9 v6_10 md_11 mdd_12 =>
      if (nI 0) < v5_9 then
        bd2 (p_X6_byteTo v6_10 md_11 mdd_12) <| fun md_13 mdd_14 =>
        some (md_13, mdd_14)
      else
        some (md_11, mdd_12)) (by omega) (by omega) (by omega) (fun j hj => by rw [Nat.zero_add, if_pos hj, hg j hj]) (by omega) hL p fu 0 md mdd (by omega) (by omega) (by rw [fu_eq]; omega) (by simpa [pnums] using h)
  by_cases hb : (pnums g 1 p (0, nI 0, [])).1 = 0
  · have eG : (p + 7) / 8 * 8 = p := by omega
    refine ⟨md1, mdd1, ?_, by rw [eG]; exact g1⟩
    unfold p_X6_pack
    refine Eq.trans e1 ?_
    rw [hb]
    simp (disch := omega) only [ltI, eqI, addI, subI, mulI, divI, ixI, inbI, i2lI, l2iL, ltL, eqL, addL, mulL, subL, gdD, if_pos, if_neg, if_true, if_false, bdS1, bdS2, bdS3, bdS4, bdS5, bdS6, bdS7, bdS8, bdS9, bdS10, bdS11, bdS12, bdS13, moN, moS, Nat.lt_irrefl]
  · have eG : (p + 7) / 8 * 8 = (p + (7 - (pnums g 1 p (0, nI 0, [])).1)) + 1 := by omega
    have eP : packB g 1 ((p + 7) / 8 * 8) = (pnums g 1 p (0, nI 0, [])).2.2 ++ [b8 (pnums g 1 p (0, nI 0, [])).2.1] := by
      unfold packB
      rw [eG, pnums, pz h0 _ (by omega), h0 _ (by omega)]
      rw [pb1 (by omega), if_pos (by omega)]
    obtain ⟨md2, mdd2, e2, g2⟩ := MOut_byte (pnums g 1 p (0, nI 0, [])).2.1 g1 (by rw [List.length_append]; omega)
    refine ⟨md2, mdd2, ?_, by rw [eP, ← List.append_assoc]; exact g2⟩
    unfold p_X6_pack
    refine Eq.trans e1 ?_
    show (if nI 0 < nI (pnums g 1 p (0, nI 0, [])).1 then _ else _) = _
    rw [if_pos (by rw [ltI (by omega) (by omega)]; omega), e2, bdS2]
theorem M_levels_L {c f0 : Nat} {mt : Nat → Int32} {mv : Nat → Int64} {mx : Nat → Int32} {pv : List AV} {β : Type} {kx : (Nat → Int64) → Option ((Nat → Int32) × Int32 × (Nat → Int64) × (Nat → Int64) × (Nat → Int32))} (hc : c < 5) (hl : f0 + pv.length ≤ 200) (hv : ∀ (j : Nat) (h : j < pv.length), MV mt mv mx (200 * c + (f0 + j)) pv[j]) : ∀ (m n j : Nat) (mn : Nat → Int64), pv.length - j = m → j ≤ pv.length → m < n → (∀ (i : Nat) (h : i < pv.length), i < j → mn i = lN (th pv[i])) → ∃ mn', itr2 (p_X6_page_L18 (nI c) (nI f0) (nI (f0 + pv.length)) mt kx) n (nI (f0 + j)) mn = kx mn' ∧ ∀ i, i < pv.length → mn' i = fn (pv.map (fun a => lN (th a))) i := by
  intro m
  induction m with
  | zero =>
    intro n j mn h1 h2 h3 h
    cases n with
    | zero => omega
    | succ n =>
      refine ⟨mn, ?_, fun i hi => ?_⟩
      · show p_X6_page_L18 (nI c) (nI f0) (nI (f0 + pv.length)) mt kx _ (nI (f0 + j)) mn = _
        rw [p_X6_page_L18, if_neg (by rw [ltI (by omega) (by omega)]; omega)]
      · rw [h i hi (by omega), fn_at (by simpa using hi)]
        simp
  | succ m ih =>
    intro n j mn h1 h2 h3 h
    cases n with
    | zero => omega
    | succ n =>
      have hj : j < pv.length := by omega
      obtain ⟨v1, v2, v3⟩ := hv j hj
      obtain ⟨mn', e1, g1⟩ := ih n (j + 1) (up mn j (lN (th pv[j]))) (by omega) (by omega) (by omega) (fun i hi hij => by
        unfold up
        by_cases e : i = j
        · subst e; rw [if_pos rfl]
        · rw [if_neg e, h i hi (by omega)])
      refine ⟨mn', ?_, g1⟩
      show p_X6_page_L18 (nI c) (nI f0) (nI (f0 + pv.length)) mt kx _ (nI (f0 + j)) mn = _
      rw [p_X6_page_L18, if_pos (by rw [ltI (by omega) (by omega)]; omega), mulI, addI, inbI (by omega), gdD (by omega), ixI (by omega), v1, subI (by omega), Nat.add_sub_cancel_left, inbI (by omega), gdD (by omega), gdD (by omega), ixI (by omega), addI]
      cases ha : pv[j] with
      | none => rw [ha] at e1; rw [if_pos th0]; exact e1
      | some q => rw [ha] at e1; rw [if_neg (th1 q)]; exact e1
theorem M_gather_L {c f0 code : Nat} {mt mpl : Nat → Int32} {mv : Nat → Int64} {mx : Nat → Int32} {pv : List AV} {X : List Int64} {kx : Int32 → (Nat → Int64) → Option ((Nat → Int32) × Int32 × (Nat → Int64) × (Nat → Int64) × (Nat → Int32))} (hc : c < 5) (hcode : code ≤ 8) (hl : f0 + pv.length ≤ 200) (hv : ∀ (j : Nat) (h : j < pv.length), MV mt mv mx (200 * c + (f0 + j)) pv[j]) (hX : ∀ (j : Nat) (h : j < pv.length) (q : TV), pv[j] = some q → fn X (tq (pv.take j)).length = if code = 8 then i2l (mpl (f0 + j)) else q.1) : ∀ (m n j : Nat) (mn : Nat → Int64), pv.length - j = m → j ≤ pv.length → m < n → (∀ (i : Nat), i < (tq (pv.take j)).length → mn i = fn X i) → ∃ mn', itr3 (p_X6_page_L132 (nI c) (nI (f0 + pv.length)) (nI code) mt mv mpl kx) n (nI (tq (pv.take j)).length) (nI (f0 + j)) mn = kx (nI (tq pv).length) mn' ∧ ∀ i, i < (tq pv).length → mn' i = fn X i := by
  intro m
  induction m with
  | zero =>
    intro n j mn h1 h2 h3 h
    have : j = pv.length := by omega
    subst this
    cases n with
    | zero => omega
    | succ n =>
      rw [List.take_length] at h ⊢
      refine ⟨mn, ?_, h⟩
      show p_X6_page_L132 (nI c) (nI (f0 + pv.length)) (nI code) mt mv mpl kx _ _ (nI (f0 + pv.length)) mn = _
      rw [p_X6_page_L132, if_neg (by rw [ltI (by omega) (by omega)]; omega)]
  | succ m ih =>
    intro n j mn h1 h2 h3 h
    cases n with
    | zero => omega
    | succ n =>
      have hj : j < pv.length := by omega
      obtain ⟨v1, v2, v3⟩ := hv j hj
      have hle := tq_le (pv.take j)
      rw [List.length_take] at hle
      have htk := take_snoc hj
      show ∃ mn', p_X6_page_L132 (nI c) (nI (f0 + pv.length)) (nI code) mt mv mpl kx _ _ (nI (f0 + j)) mn = _ ∧ _
      rw [p_X6_page_L132, if_pos (by rw [ltI (by omega) (by omega)]; omega), mulI, addI, inbI (by omega), gdD (by omega), ixI (by omega), v1]
      cases ha : pv[j] with
      | none =>
        have e : tq (pv.take (j + 1)) = tq (pv.take j) := by rw [← htk, ha, tq_snoc_none]
        rw [if_pos th0, addI]
        obtain ⟨mn', e1, g1⟩ := ih n (j + 1) mn (by omega) (by omega) (by omega) (by rw [e]; exact h)
        rw [e] at e1
        exact ⟨mn', e1, g1⟩
      | some q =>
        have e : tq (pv.take (j + 1)) = tq (pv.take j) ++ [q] := by rw [← htk, ha, tq_snoc_some]
        have hX' := hX j hj q ha
        rw [ha] at v2
        obtain ⟨mn', e1, g1⟩ := ih n (j + 1) (up mn (tq (pv.take j)).length (if code = 8 then i2l (mpl (f0 + j)) else q.1)) (by omega) (by omega) (by omega) (fun i hi => by
          rw [e, List.length_append, List.length_cons, List.length_nil] at hi
          unfold up
          by_cases ei : i = (tq (pv.take j)).length
          · subst ei; rw [if_pos rfl, hX']
          · rw [if_neg ei, h i (by omega)])
        rw [e, List.length_append] at e1
        refine ⟨mn', ?_, g1⟩
        rw [if_neg (th1 q), addI, addI]
        by_cases h8 : code = 8
        · rw [if_pos h8] at e1
          rw [if_pos (by rw [h8]), inbI (by omega), gdD (by omega), inbI (by omega), gdD (by omega), ixI (by omega), ixI (by omega)]
          exact e1
        · rw [if_neg h8] at e1
          rw [if_neg (by rw [eqI (by omega) (by omega)]; exact h8), gdD (by omega), inbI (by omega), gdD (by omega), ixI (by omega), v2]
          exact e1
def tailB (K code : Nat) (Q : List TV) : List Int32 := if code = 6 then Q.flatMap Prod.snd else if code = 0 ∧ K ≠ 3 then Q.flatMap (plB K) else []
theorem tailB_snoc {K code : Nat} {Q : List TV} {q : TV} : tailB K code (Q ++ [q]) = tailB K code Q ++ (if code = 6 then q.2 else if code = 0 ∧ K ≠ 3 then plB K q else []) := by
  unfold tailB
  split
  · simp
  · split <;> simp
theorem M_tail_L {c f0 K code : Nat} {mk mt : Nat → Int32} {mv : Nat → Int64} {mx : Nat → Int32} {pv : List AV} {L : List Int32} {kx : (Nat → Int32) → Int32 → Option ((Nat → Int32) × Int32 × (Nat → Int64) × (Nat → Int64) × (Nat → Int32))} (hc : c < 5) (hcode : code ≤ 8) (hK : mk c = nI K) (hK3 : K ≤ 3) (h6 : code = 6 → K = 2) (hl : f0 + pv.length ≤ 200) (hv : ∀ (j : Nat) (h : j < pv.length), MV mt mv mx (200 * c + (f0 + j)) pv[j]) (hwf : ∀ a ∈ pv, wfv K a) (hL : L.length + (tailB K code (tq pv)).length ≤ 60000) : ∀ (m n j : Nat) (md : Nat → Int32) (mdd : Int32), pv.length - j = m → j ≤ pv.length → m < n → MOut md mdd (L ++ tailB K code (tq (pv.take j))) → ∃ md' mdd', itr3 (p_X6_page_L340 (nI c) (nI (f0 + pv.length)) (nI code) mk mt mv mx kx) n (nI (f0 + j)) md mdd = kx md' mdd' ∧ MOut md' mdd' (L ++ tailB K code (tq pv)) := by
  intro m
  induction m with
  | zero =>
    intro n j md mdd h1 h2 h3 h
    have : j = pv.length := by omega
    subst this
    cases n with
    | zero => omega
    | succ n =>
      rw [List.take_length] at h
      refine ⟨md, mdd, ?_, h⟩
      show p_X6_page_L340 (nI c) (nI (f0 + pv.length)) (nI code) mk mt mv mx kx _ (nI (f0 + pv.length)) md mdd = _
      rw [p_X6_page_L340, if_neg (by rw [ltI (by omega) (by omega)]; omega)]
  | succ m ih =>
    intro n j md mdd h1 h2 h3 h
    cases n with
    | zero => omega
    | succ n =>
      have hj : j < pv.length := by omega
      have hvj := hv j hj
      have htk := take_snoc hj
      show ∃ md' mdd', p_X6_page_L340 (nI c) (nI (f0 + pv.length)) (nI code) mk mt mv mx kx _ (nI (f0 + j)) md mdd = _ ∧ _
      rw [p_X6_page_L340, if_pos (by rw [ltI (by omega) (by omega)]; omega), p_X6_page_J385, mulI, addI, inbI (by omega), gdD (by omega), gdD (by omega), ixI (by omega), hvj.1, addI]
      cases ha : pv[j] with
      | none =>
        have e : tq (pv.take (j + 1)) = tq (pv.take j) := by rw [← htk, ha, tq_snoc_none]
        rw [if_pos th0, if_pos th0]
        exact ih n (j + 1) md mdd (by omega) (by omega) (by omega) (by rw [e]; exact h)
      | some q =>
        have e : tq (pv.take (j + 1)) = tq (pv.take j) ++ [q] := by rw [← htk, ha, tq_snoc_some]
        have e3 : tq pv = tq (pv.take j) ++ ([q] ++ tq (pv.drop (j + 1))) := by
          conv => lhs; rw [← List.take_append_drop (j + 1) pv, ← htk, ha]
          simp [tq]
        have hq : TVok K q := TVok_of (by rw [← ha]; exact hwf _ (List.getElem_mem hj))
        rw [ha] at hvj
        rw [if_neg (th1 q), if_neg (th1 q)]
        have hlen : (tailB K code (tq (pv.take j))).length + (if code = 6 then q.2 else if code = 0 ∧ K ≠ 3 then plB K q else []).length ≤ (tailB K code (tq pv)).length := by
          have : tailB K code (tq pv) = tailB K code (tq (pv.take j) ++ [q]) ++ tailB K code (tq (pv.drop (j + 1))) := by
            rw [e3]
            unfold tailB
            split
            · simp
            · split <;> simp
          rw [this, tailB_snoc, List.length_append, List.length_append]
          omega
        have hgo : ∀ (md1 : Nat → Int32) (mdd1 : Int32), MOut md1 mdd1 (L ++ tailB K code (tq (pv.take j)) ++ (if code = 6 then q.2 else if code = 0 ∧ K ≠ 3 then plB K q else [])) → ∃ md' mdd', itr3 (p_X6_page_L340 (nI c) (nI (f0 + pv.length)) (nI code) mk mt mv mx kx) n (nI (f0 + (j + 1))) md1 mdd1 = kx md' mdd' ∧ MOut md' mdd' (L ++ tailB K code (tq pv)) := fun md1 mdd1 g1 => ih n (j + 1) md1 mdd1 (by omega) (by omega) (by omega) (by rw [e, tailB_snoc, ← List.append_assoc]; exact g1)
        have e5 : f0 + j + 1 = f0 + (j + 1) := by omega
        rw [e5]
        by_cases c6 : code = 6
        · rw [if_pos c6] at hlen hgo
          have := h6 c6
          subst this
          obtain ⟨md1, mdd1, e1, g1⟩ := M_letters (s := 200 * c + (f0 + j)) (by omega) hq hvj (by rw [List.length_append]; omega) h
          rw [if_pos (by rw [c6]), e1, bdS2]
          exact hgo md1 mdd1 g1
        · rw [if_neg c6] at hlen hgo
          rw [if_neg (by rw [eqI (by omega) (by omega)]; exact c6)]
          by_cases c0 : code = 0
          · rw [if_pos (by rw [c0]), inbI (by omega), gdD (by omega), ixI (show c < 2 ^ 31 by omega), hK]
            by_cases k3 : K = 3
            · rw [if_neg (fun hh => hh.2 k3), List.append_nil] at hgo
              rw [if_pos (by rw [k3])]
              exact hgo md mdd h
            · rw [if_pos ⟨c0, k3⟩] at hgo hlen
              obtain ⟨md1, mdd1, e1, g1⟩ := M_plain (s := 200 * c + (f0 + j)) (by omega) (by omega) hq hvj (by rw [List.length_append]; omega) h
              rw [if_neg (by rw [eqI (by omega) (by omega)]; exact k3), gdD (by omega), e1, bdS2]
              exact hgo md1 mdd1 g1
          · rw [if_neg (fun hh => c0 hh.1), List.append_nil] at hgo
            rw [if_neg (by rw [eqI (by omega) (by omega)]; exact c0)]
            exact hgo md mdd h
