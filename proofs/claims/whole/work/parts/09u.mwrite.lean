theorem M_page {c f0 K O way D : Nat} {mk mo mm mt : Nat → Int32} {mv : Nat → Int64} {mx : Nat → Int32} {pv : List AV} {pls : List Int64} {L : List Int32} {mn mst : Nat → Int64} {md mpl mbb : Nat → Int32} {mdd : Int32} (hc : c < 5) (hway : way ≤ 2) (hK : mk c = nI K) (hK3 : K ≤ 3) (hO : mo c = nI O) (hO1 : O ≤ 1) (hl : f0 + pv.length ≤ 200) (hv : ∀ (j : Nat) (h : j < pv.length), MV mt mv mx (200 * c + (f0 + j)) pv[j]) (hwf : ∀ a ∈ pv, wfv K a)
    (h1 : way = 1 → mm 5 = nI D ∧ D ≤ 200 ∧ ∀ (j : Nat) (h : j < pv.length) (q : TV), pv[j] = some q → fn pls (tq (pv.take j)).length = i2l (mpl (f0 + j)))
    (hB : (pbodyB K O (codeOf K way) pv pls (widD D)).length ≤ 20000) (hL : L.length + (pageB K O (codeOf K way) pv pls (widD D)).length ≤ 60000) (h : MOut md mdd L) :
    PageTo (L ++ pageB K O (codeOf K way) pv pls (widD D)) (p_X6_page (nI c) (nI way) (nI f0) (nI (f0 + pv.length)) mk mo mm mt mv mx md mdd mn mst mpl mbb) := by
  have hL2 : L.length + (headB 0 (pbodyB K O (codeOf K way) pv pls (widD D)).length pv.length (codeOf K way)).length + (pbodyB K O (codeOf K way) pv pls (widD D)).length ≤ 60000 := by
    unfold pageB at hL
    rw [List.length_append] at hL
    omega
  unfold pageB
  unfold p_X6_page
  rw [inbI (by omega), gdD (by omega), ixI (by omega), hO]
  by_cases o0 : O = 0
  · rw [if_pos (by rw [o0]), h.1]
    have hm : MOut md (nI L.length) (L ++ []) := by rw [List.append_nil, ← h.1]; exact h
    exact M_page_J76 (lev := []) hc hway hK hK3 hl hv hwf h1 (by unfold pbodyB; rw [if_neg (by omega)]) b8L_nil hB hL2 hm
  · have o1 : O = 1 := by omega
    subst o1
    have hpb : pbodyB K 1 (codeOf K way) pv pls (widD D) = ownB (pv.map (fun a => lN (th a))) ++ bodyB K (codeOf K way) (tq pv) pls (widD D) := by unfold pbodyB; rw [if_pos rfl]
    have hlen : (ownB (pv.map (fun a => lN (th a)))).length ≤ (pbodyB K 1 (codeOf K way) pv pls (widD D)).length := by rw [hpb, List.length_append]; omega
    rw [if_neg (by decide)]
    obtain ⟨mn1, e1, g1⟩ := M_levels_L (β := Nat) (mn := mn) (kx := fun mn_379 =>
        bd2 (p_X6_runs (nI (f0 + pv.length) - nI f0) (nI 1) md mdd mn_379) <| fun md_380 mdd_381 =>
        bd3 (p_X6_sized mdd md_380 mdd_381 mbb) <| fun md_383 mdd_384 mbb_385 =>
        p_X6_page_J76 (nI c) (nI way) (nI f0) (nI (f0 + pv.length)) mdd mk mm mt mv mx md_383 mdd_384 mn_379 mst mpl mbb_385) hc hl hv pv.length fu 0 (by omega) (by omega) (by rw [fu_eq]; omega) (fun i _ h => by omega)
    obtain ⟨a, b, md2, mdd2, mbb2, e2, e3, g2⟩ := M_own (n0 := pv.length) (l := pv.map (fun a => lN (th a))) (mn := mn1) (mbb := mbb) (by omega) (by rw [List.length_map]) g1 (by omega) (by omega) h
    obtain ⟨md3, mdd3, mn3, mst3, mbb3, e4, g4⟩ := M_page_J76 (L := L) (mn := mn1) (mst := mst) (mbb := mbb2) hc hway hK hK3 hl hv hwf h1 hpb (b8L_own _) hB hL2 g2
    refine ⟨md3, mdd3, mn3, mst3, mbb3, e1.trans ?_, g4⟩
    rw [subI (by omega), Nat.add_sub_cancel_left, e2, bdS2, h.1, e3, bdS3]
    exact e4
theorem M_pages_L {c K O way q : Nat} {mk mo mm mt : Nat → Int32} {mv : Nat → Int64} {mx mpl : Nat → Int32} {vals : List AV} {kx : (Nat → Int32) → Int32 → (Nat → Int64) → (Nat → Int64) → (Nat → Int32) → Option (Int32 × (Nat → Int32) × (Nat → Int32) × (Nat → Int64) × (Nat → Int32) × (Nat → Int32) × Int32 × (Nat → Int32) × Int32 × (Nat → Int64) × (Nat → Int64) × (Nat → Int32) × (Nat → Int32))} (hc : c < 5) (hl : vals.length ≤ 200) (hm : mm c = nI vals.length) (hK : mk c = nI K) (hK3 : K ≤ 3) (hO : mo c = nI O) (hO1 : O ≤ 1) (hv : MCol mt mv mx c vals) (hw : ∀ a ∈ vals, wfv K a) (hway : way ≤ 2) (hq : 1 ≤ q) (hq2 : q ≤ 200)
    (hp : way = 1 → PLC mpl vals (DL (tq vals)) vals.length ∧ mm 5 = nI (DL (tq vals)).length) : ∀ (f n a : Nat) (L : List Int32) (md : Nat → Int32) (mdd : Int32) (mn mst : Nat → Int64) (mbb : Nat → Int32), vals.length - a ≤ f → a ≤ 400 → f < n → MOut md mdd L → L.length + (pagesB K O (codeOf K way) vals (DL (tq vals)) q f a).length ≤ 60000 → ∃ md' mdd' mn' mst' mbb', itr6 (p_X6_write_L124 (nI c) (nI way) (nI q) mk mo mm mt mv mx mpl kx) n (nI a) md mdd mn mst mbb = kx md' mdd' mn' mst' mbb' ∧ MOut md' mdd' (L ++ pagesB K O (codeOf K way) vals (DL (tq vals)) q f a) := by
  have hD := DL_len (tq vals)
  have hql := tq_le vals
  intro f
  induction f with
  | zero =>
    intro n a L md mdd mn mst mbb h1 h2 h3 h hL
    cases n with
    | zero => omega
    | succ n =>
      refine ⟨md, mdd, mn, mst, mbb, ?_, by simpa [pagesB] using h⟩
      show p_X6_write_L124 (nI c) (nI way) (nI q) mk mo mm mt mv mx mpl kx _ (nI a) md mdd mn mst mbb = _
      rw [p_X6_write_L124, inbI (by omega), gdD (by omega), ixI (by omega), hm, if_neg (by rw [ltI (by omega) (by omega)]; omega)]
  | succ f ih =>
    intro n a L md mdd mn mst mbb h1 h2 h3 h hL
    cases n with
    | zero => omega
    | succ n =>
      show ∃ md' mdd' mn' mst' mbb', p_X6_write_L124 (nI c) (nI way) (nI q) mk mo mm mt mv mx mpl kx _ (nI a) md mdd mn mst mbb = _ ∧ _
      rw [p_X6_write_L124, inbI (by omega), gdD (by omega), ixI (by omega), hm]
      rw [pagesB] at hL ⊢
      by_cases ha : a < vals.length
      · have hpl := pv_len (vals := vals) (a := a) (q := q)
        rw [if_pos ha, List.length_append] at hL
        rw [if_pos (show nI a < nI vals.length by rw [ltI (by omega) (by omega)]; exact ha), if_pos ha, gdD (by omega), gdD (by omega), addI]
        have hwf : ∀ x ∈ (vals.drop a).take q, wfv K x := fun x hx => hw x (List.mem_of_mem_drop (List.mem_of_mem_take hx))
        have hb := pbody_len (K := K) (O := O) (code := codeOf K way) (pv := (vals.drop a).take q) (pls := plsB (DL (tq vals)) ((vals.drop a).take q)) (w := widD (DL (tq vals)).length) hwf (by omega) (by omega) (widD_le (by omega)) codeOf_in
        have hmv : ∀ (j : Nat) (h : j < ((vals.drop a).take q).length), MV mt mv mx (200 * c + (a + j)) ((vals.drop a).take q)[j] := fun j hj => by
          obtain ⟨h5, h6⟩ := pv_at hj
          rw [h6]
          exact hv _ h5
        have hpg := M_page (mn := mn) (mst := mst) (mbb := mbb) (mpl := mpl) (mm := mm) (D := (DL (tq vals)).length) (pls := plsB (DL (tq vals)) ((vals.drop a).take q)) hc hway hK hK3 hO hO1 (show a + ((vals.drop a).take q).length ≤ 200 by omega) hmv hwf (fun w1 => ⟨(hp w1).2, by omega, fun j hj t e => by
          obtain ⟨h5, h6⟩ := pv_at hj
          rw [h6] at e
          have hlt := idx_lt ((DL_mem _ t).mpr (tq_mem.mpr (by rw [← e]; exact List.getElem_mem h5)))
          rw [(hp w1).1 (a + j) h5 h5 t e, i2lI (by omega)]
          unfold plsB
          rw [tq_at hj (by rw [h6]; exact e), fn_at (by simp), List.getElem_map]
          congr 2
          simp⟩) hb.1 (by omega) h
        obtain ⟨md1, mdd1, mn1, mst1, mbb1, e1, g1⟩ := hpg
        obtain ⟨md2, mdd2, mn2, mst2, mbb2, e2, g2⟩ := ih n (a + q) _ md1 mdd1 mn1 mst1 mbb1 (by omega) (by omega) (by omega) g1 (by rw [List.length_append]; omega)
        refine ⟨md2, mdd2, mn2, mst2, mbb2, ?_, by simpa [List.append_assoc] using g2⟩
        by_cases hlt : a + q < vals.length
        · rw [show a + ((vals.drop a).take q).length = a + q by omega] at e1
          rw [if_pos (by rw [ltI (by omega) (by omega)]; exact hlt), e1, bdS5]
          exact e2
        · rw [show a + ((vals.drop a).take q).length = vals.length by omega] at e1
          rw [if_neg (by rw [ltI (by omega) (by omega)]; exact hlt), e1, bdS5]
          exact e2
      · rw [if_neg (show ¬ nI a < nI vals.length by rw [ltI (by omega) (by omega)]; exact ha), if_neg ha]
        exact ⟨md, mdd, mn, mst, mbb, rfl, by simpa using h⟩
