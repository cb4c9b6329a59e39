theorem tq_at {pv : List AV} {j : Nat} {q : TV} (h : j < pv.length) (e : pv[j] = some q) : tq pv = tq (pv.take j) ++ ([q] ++ tq (pv.drop (j + 1))) := by
  have htk := take_snoc h
  conv => lhs; rw [← List.take_append_drop (j + 1) pv, ← htk, e]
  simp [tq]
theorem fst_at {pv : List AV} {j : Nat} {q : TV} (h : j < pv.length) (e : pv[j] = some q) : fn ((tq pv).map Prod.fst) (tq (pv.take j)).length = q.1 := by
  rw [tq_at h e, fn_at (by simp), List.getElem_map]
  congr 1
  simp
theorem M_own {n0 : Nat} {l : List Int64} {mn : Nat → Int64} {L : List Int32} {md mbb : Nat → Int32} {mdd : Int32} (hn : n0 ≤ 200) (hl : l.length = n0) (hmn : ∀ i, i < n0 → mn i = fn l i) (hb : (ownB l).length ≤ 20000) (hL : L.length + (ownB l).length ≤ 60000) (h : MOut md mdd L) : ∃ a b md' mdd' mbb', p_X6_runs (nI n0) (nI 1) md mdd mn = some (a, b) ∧ p_X6_sized (nI L.length) a b mbb = some (md', mdd', mbb') ∧ MOut md' mdd' (L ++ ownB l) := by
  unfold ownB at hb hL ⊢
  rw [hl] at hb hL ⊢
  rw [List.length_append, litB_len] at hb hL
  obtain ⟨a, b, e1, g1⟩ := M_runs (w := 1) (mn := mn) (by omega) hn (by rw [runsB_cong hmn]; omega) h
  rw [runsB_cong hmn] at g1
  obtain ⟨md2, mdd2, mbb2, e2, g2⟩ := M_sized (mbb := mbb) (b8L_runs _ _ _ _ _) (by omega) (by omega) g1
  exact ⟨a, b, md2, mdd2, mbb2, e1, e2, g2⟩
theorem M_fin {c f0 K code : Nat} {mk mt : Nat → Int32} {mv : Nat → Int64} {mx : Nat → Int32} {pv : List AV} {L F B : List Int32} {mn mst : Nat → Int64} {md mbb : Nat → Int32} {mdd : Int32} (hc : c < 5) (hcode : code ≤ 8) (hK : mk c = nI K) (hK3 : K ≤ 3) (h6 : code = 6 → K = 2) (hl : f0 + pv.length ≤ 200) (hv : ∀ (j : Nat) (h : j < pv.length), MV mt mv mx (200 * c + (f0 + j)) pv[j]) (hwf : ∀ a ∈ pv, wfv K a) (hF : F ++ tailB K code (tq pv) = B) (hb : b8L B) (hB : B.length ≤ 20000) (hL : L.length + (headB 0 B.length pv.length code).length + B.length ≤ 60000) (h : MOut md mdd (L ++ F)) :
    ∃ md' mdd' mbb', itr3 (p_X6_page_L340 (nI c) (nI (f0 + pv.length)) (nI code) mk mt mv mx (fun md_26 mdd_27 => bd3 (p_X6_headed (nI L.length) (nI 0) (nI (f0 + pv.length) - nI f0) (nI code) md_26 mdd_27 mbb) <| fun md_28 mdd_29 mbb_30 => some (md_28, mdd_29, mn, mst, mbb_30))) fu (nI f0) md mdd = some (md', mdd', mn, mst, mbb') ∧ MOut md' mdd' (L ++ (headB 0 B.length pv.length code ++ B)) := by
  have hFl : F.length + (tailB K code (tq pv)).length = B.length := by rw [← hF, List.length_append]
  obtain ⟨md1, mdd1, e1, g1⟩ := M_tail_L (L := L ++ F) (kx := fun md_26 mdd_27 => bd3 (p_X6_headed (nI L.length) (nI 0) (nI (f0 + pv.length) - nI f0) (nI code) md_26 mdd_27 mbb) <| fun md_28 mdd_29 mbb_30 => some (md_28, mdd_29, mn, mst, mbb_30)) hc hcode hK hK3 h6 hl hv hwf (by rw [List.length_append]; omega) pv.length fu 0 md mdd (by omega) (by omega) (by rw [fu_eq]; omega) (by
    rw [List.take_zero]
    have : tailB K code (tq []) = [] := by simp [tailB, tq]
    rw [this, List.append_nil]
    exact h)
  rw [List.append_assoc, hF] at g1
  obtain ⟨md2, mdd2, mbb2, e2, g2⟩ := M_headed (what := 0) (cnt := pv.length) (code := code) (mbb := mbb) (by omega) (by omega) (by omega) hb hB hL g1
  refine ⟨md2, mdd2, mbb2, e1.trans ?_, g2⟩
  rw [subI (by omega), Nat.add_sub_cancel_left, e2, bdS3]
theorem body0 {K : Nat} {Q : List TV} {pls : List Int64} {w : Nat} (h : K ≠ 3) : bodyB K 0 Q pls w = tailB K 0 Q := by
  unfold bodyB tailB
  rw [if_pos rfl, if_neg h, if_neg (by omega), if_pos ⟨rfl, h⟩]
theorem tail_nil {K code : Nat} {Q : List TV} (h6 : code ≠ 6) (h0 : code = 0 → K = 3) : tailB K code Q = [] := by
  unfold tailB
  rw [if_neg h6, if_neg (fun h => h.2 (h0 h.1))]
abbrev PR : Type := (Nat → Int32) × Int32 × (Nat → Int64) × (Nat → Int64) × (Nat → Int32)
def PageTo (Z : List Int32) (r : Option PR) : Prop := ∃ md' mdd' mn' mst' mbb', r = some (md', mdd', mn', mst', mbb') ∧ MOut md' mdd' Z
theorem M_gather {P : Option PR → Prop} {c f0 code : Nat} {mt mpl : Nat → Int32} {mv mn : Nat → Int64} {mx : Nat → Int32} {pv : List AV} {kx : Int32 → (Nat → Int64) → Option PR} (X : List Int64) (hc : c < 5) (hcode : code ≤ 8) (hl : f0 + pv.length ≤ 200) (hv : ∀ (j : Nat) (h : j < pv.length), MV mt mv mx (200 * c + (f0 + j)) pv[j]) (hX : ∀ (j : Nat) (h : j < pv.length) (q : TV), pv[j] = some q → fn X (tq (pv.take j)).length = if code = 8 then i2l (mpl (f0 + j)) else q.1) (hP : ∀ mn', (∀ i, i < (tq pv).length → mn' i = fn X i) → P (kx (nI (tq pv).length) mn')) : P (itr3 (p_X6_page_L132 (nI c) (nI (f0 + pv.length)) (nI code) mt mv mpl kx) fu (nI 0) (nI f0) mn) := by
  obtain ⟨mn1, e1, g1⟩ := M_gather_L (kx := kx) hc hcode hl hv hX pv.length fu 0 mn (by omega) (by omega) (by rw [fu_eq]; omega) (fun i hi => by simp [tq] at hi)
  rw [show nI 0 = nI (tq (pv.take 0)).length from rfl, show nI f0 = nI (f0 + 0) from rfl, e1]
  exact hP mn1 g1
theorem M_page_J76 {c f0 K way D : Nat} {mk mm mt : Nat → Int32} {mv : Nat → Int64} {mx : Nat → Int32} {pv : List AV} {pls : List Int64} {L lev B : List Int32} {mn mst : Nat → Int64} {md mpl mbb : Nat → Int32} {mdd : Int32} (hc : c < 5) (hway : way ≤ 2) (hK : mk c = nI K) (hK3 : K ≤ 3) (hl : f0 + pv.length ≤ 200) (hv : ∀ (j : Nat) (h : j < pv.length), MV mt mv mx (200 * c + (f0 + j)) pv[j]) (hwf : ∀ a ∈ pv, wfv K a)
    (h1 : way = 1 → mm 5 = nI D ∧ D ≤ 200 ∧ ∀ (j : Nat) (h : j < pv.length) (q : TV), pv[j] = some q → fn pls (tq (pv.take j)).length = i2l (mpl (f0 + j)))
    (hBe : B = lev ++ bodyB K (codeOf K way) (tq pv) pls (widD D)) (hlb : b8L lev) (hB : B.length ≤ 20000) (hL : L.length + (headB 0 B.length pv.length (codeOf K way)).length + B.length ≤ 60000) (h : MOut md mdd (L ++ lev)) :
    PageTo (L ++ (headB 0 B.length pv.length (codeOf K way) ++ B)) (p_X6_page_J76 (nI c) (nI way) (nI f0) (nI (f0 + pv.length)) (nI L.length) mk mm mt mv mx md mdd mn mst mpl mbb) := by
  have hbq : ∀ q ∈ tq pv, b8L q.2 := fun q hq => (hwf _ (tq_mem.mp hq)).2.1
  have hbB : b8L B := by rw [hBe]; exact hlb.app (b8L_body hbq)
  have hple := tq_le pv
  have hBl : lev.length + (bodyB K (codeOf K way) (tq pv) pls (widD D)).length = B.length := by rw [hBe, List.length_append]
  have hLl : (L ++ lev).length = L.length + lev.length := List.length_append
  -- the end of every page
  have fin : ∀ (F : List Int32) (md1 mbb1 : Nat → Int32) (mdd1 : Int32) (mn1 mst1 : Nat → Int64), (codeOf K way = 6 → K = 2) → lev ++ F ++ tailB K (codeOf K way) (tq pv) = B → MOut md1 mdd1 (L ++ lev ++ F) → PageTo (L ++ (headB 0 B.length pv.length (codeOf K way) ++ B)) (itr3 (p_X6_page_L340 (nI c) (nI (f0 + pv.length)) (nI (codeOf K way)) mk mt mv mx (fun md_26 mdd_27 => bd3 (p_X6_headed (nI L.length) (nI 0) (nI (f0 + pv.length) - nI f0) (nI (codeOf K way)) md_26 mdd_27 mbb1) <| fun md_28 mdd_29 mbb_30 => some (md_28, mdd_29, mn1, mst1, mbb_30))) fu (nI f0) md1 mdd1) := by
    intro F md1 mbb1 mdd1 mn1 mst1 h6 hF hm
    have hc8 : codeOf K way ≤ 8 := by
      unfold codeOf
      split
      · omega
      · split
        · omega
        · split
          · omega
          · split <;> omega
    obtain ⟨a, b, d, e, g⟩ := M_fin (mn := mn1) (mst := mst1) (mbb := mbb1) hc hc8 hK hK3 h6 hl hv hwf hF hbB hB hL (by rw [← List.append_assoc]; exact hm)
    exact ⟨a, b, mn1, mst1, d, e, g⟩
  have hfst : ∀ (code : Nat), code ≠ 8 → ∀ (j : Nat) (h : j < pv.length) (q : TV), pv[j] = some q → fn ((tq pv).map Prod.fst) (tq (pv.take j)).length = if code = 8 then i2l (mpl (f0 + j)) else q.1 := fun code h8 j hj q e => by
    rw [if_neg h8]
    exact fst_at hj e
  rw [p_X6_page_J76]
  by_cases w0 : way = 0
  · subst w0
    have ec : codeOf K 0 = 0 := rfl
    rw [ec] at hBl hBe hL fin ⊢
    rw [if_pos rfl]
    refine M_gather (P := PageTo _) ((tq pv).map Prod.fst) hc (by omega) hl hv (hfst 0 (by omega)) (fun mn1 g1 => ?_)
    rw [if_neg (by decide), if_neg (by decide), if_neg (by decide), inbI (by omega), gdD (by omega), ixI (by omega), hK]
    by_cases k3 : K = 3
    · have hbody : bodyB K 0 (tq pv) pls (widD D) = packB (fn ((tq pv).map Prod.fst)) 1 (((tq pv).length + 7) / 8 * 8) := by
        unfold bodyB
        rw [if_pos rfl, if_pos k3]
      have hpl := packB_len (fn ((tq pv).map Prod.fst)) 1 (((tq pv).length + 7) / 8 * 8)
      rw [hbody] at hBl hBe
      obtain ⟨md2, mdd2, e2, g2⟩ := M_packT (mn := mn1) (g := fn ((tq pv).map Prod.fst)) (p := (tq pv).length) (by omega) (fun j hj => (g1 j hj).symm) (fun j hj => by
        unfold fn
        rw [List.getElem?_eq_none (by simpa using hj)]
        rfl) (by omega) h
      rw [if_pos (by rw [k3]), e2, bdS2]
      exact fin _ md2 mbb mdd2 mn1 mst (by omega) (by rw [tail_nil (by omega) (fun _ => k3), List.append_nil]; exact hBe.symm) g2
    · rw [body0 k3] at hBe
      rw [if_neg (by rw [eqI (by omega) (by omega)]; exact k3)]
      exact fin [] md mbb mdd mn1 mst (by omega) (by rw [List.append_nil]; exact hBe.symm) (by rw [List.append_nil]; exact h)
  · rw [if_neg (by rw [eqI (by omega) (by omega)]; exact w0)]
    by_cases w1 : way = 1
    · subst w1
      have ec : codeOf K 1 = 8 := rfl
      rw [ec] at hBl hBe hL fin ⊢
      obtain ⟨h5, hD, hp⟩ := h1 rfl
      have hwd := widD_le hD
      have hbody : bodyB K 8 (tq pv) pls (widD D) = [b8 (nI (widD D))] ++ runsB (fn pls) (widD D) (tq pv).length (tq pv).length 0 := by
        unfold bodyB
        rw [if_neg (by omega), if_neg (by omega), if_neg (by omega), if_neg (by omega)]
      rw [hbody] at hBl hBe
      rw [if_pos rfl]
      refine M_gather (P := PageTo _) pls hc (by omega) hl hv (fun j hj q e => by rw [if_pos rfl]; exact hp j hj q e) (fun mn1 g1 => ?_)
      have hJ : PageTo (L ++ (headB 0 B.length pv.length 8 ++ B)) (p_X6_page_J241 (nI c) (nI f0) (nI (f0 + pv.length)) (nI L.length) (nI (tq pv).length) (nI 8) (nI (widD D)) mk mt mv mx md mdd mn1 mst mbb) := by
        rw [List.length_append, List.length_cons, List.length_nil] at hBl
        obtain ⟨md2, mdd2, e2, g2⟩ := MOut_byte (nI (widD D)) h (by omega)
        obtain ⟨md3, mdd3, e3, g3⟩ := M_runs (w := widD D) (mn := mn1) (n0 := (tq pv).length) hwd (by omega) (by rw [runsB_cong g1, List.length_append, List.length_cons, List.length_nil]; omega) g2
        rw [runsB_cong g1, List.append_assoc] at g3
        rw [p_X6_page_J241, e2, bdS2, e3, bdS2]
        exact fin _ md3 mbb mdd3 mn1 mst (by omega) (by rw [tail_nil (by omega) (by omega), List.append_nil]; exact hBe.symm) g3
      rw [if_pos rfl, gdT (by decide), show ix (nI 5) = 5 from rfl, h5]
      by_cases d2 : D < 2
      · have : widD D = 0 := by unfold widD; rw [if_neg (by omega)]
        rw [this] at hJ
        rw [if_pos (by rw [ltI (by omega) (by omega)]; exact d2)]
        exact hJ
      · have : widD D = bl (lN (D - 1)) := by unfold widD; rw [if_pos (by omega)]
        rw [this] at hJ
        rw [if_neg (by rw [ltI (by omega) (by omega)]; exact d2), gdT (by decide), subI (by omega), i2lI (by omega), M_widthOf, bdS1]
        exact hJ
    · have : way = 2 := by omega
      subst this
      rw [if_neg (by decide), inbI (by omega), gdD (by omega), gdD (by omega), ixI (by omega), hK]
      by_cases k2 : K = 2
      · subst k2
        have ec : codeOf 2 2 = 6 := rfl
        rw [ec] at hBl hBe hL fin ⊢
        have hbody : bodyB 2 6 (tq pv) pls (widD D) = diffB (fn ((tq pv).map Prod.fst)) (tq pv).length 1 ++ tailB 2 6 (tq pv) := by
          unfold bodyB tailB
          rw [if_neg (by omega), if_neg (by omega), if_neg (by omega), if_pos rfl, if_pos rfl]
        rw [hbody] at hBl hBe
        rw [if_pos rfl]
        refine M_gather (P := PageTo _) ((tq pv).map Prod.fst) hc (by omega) hl hv (hfst 6 (by omega)) (fun mn1 g1 => ?_)
        rw [List.length_append] at hBl
        obtain ⟨md2, mdd2, mn2, mst2, e2, g2⟩ := M_diff (n0 := (tq pv).length) (ints := 1) (mn := mn1) (mst := mst) (by omega) (by omega) (by rw [diffB_cong g1]; omega) h
        rw [diffB_cong g1] at g2
        rw [if_neg (by decide), if_neg (by decide), if_pos (by decide), if_pos rfl, e2, bdS4]
        exact fin _ md2 mbb mdd2 mn2 mst2 (fun _ => rfl) (by rw [List.append_assoc]; exact hBe.symm) g2
      · rw [if_neg (by rw [eqI (by omega) (by omega)]; exact k2)]
        by_cases k3 : K = 3
        · subst k3
          have ec : codeOf 3 2 = 3 := rfl
          rw [ec] at hBl hBe hL fin ⊢
          have hbody : bodyB 3 3 (tq pv) pls (widD D) = ownB ((tq pv).map Prod.fst) := by
            unfold bodyB
            rw [if_neg (by omega), if_pos rfl]
          rw [hbody] at hBl hBe
          rw [if_pos rfl]
          refine M_gather (P := PageTo _) ((tq pv).map Prod.fst) hc (by omega) hl hv (hfst 3 (by omega)) (fun mn1 g1 => ?_)
          obtain ⟨a, b, md2, mdd2, mbb2, e2, e3, g2⟩ := M_own (n0 := (tq pv).length) (l := (tq pv).map Prod.fst) (mn := mn1) (mbb := mbb) (by omega) (by rw [List.length_map]) g1 (by omega) (by omega) h
          rw [if_neg (by decide), if_pos rfl, e2, bdS2, h.1, e3, bdS3]
          exact fin _ md2 mbb2 mdd2 mn1 mst (by omega) (by rw [tail_nil (by omega) (by omega), List.append_nil]; exact hBe.symm) g2
        · have ec : codeOf K 2 = 5 := by
            unfold codeOf
            rw [if_neg (by omega), if_neg (by omega), if_neg k2, if_neg k3]
          rw [ec] at hBl hBe hL fin ⊢
          have hbody : bodyB K 5 (tq pv) pls (widD D) = diffB (fn ((tq pv).map Prod.fst)) (tq pv).length (if K = 0 then 1 else 0) := by
            unfold bodyB
            rw [if_neg (by omega), if_neg (by omega), if_pos rfl]
          rw [hbody] at hBl hBe
          rw [if_neg (by rw [eqI (by omega) (by omega)]; exact k3)]
          refine M_gather (P := PageTo _) ((tq pv).map Prod.fst) hc (by omega) hl hv (hfst 5 (by omega)) (fun mn1 g1 => ?_)
          rw [if_neg (by decide), if_neg (by decide), if_pos (by decide), if_neg (by decide), gdD (by omega)]
          by_cases k0 : K = 0
          · rw [if_pos k0] at hBl hBe
            obtain ⟨md2, mdd2, mn2, mst2, e2, g2⟩ := M_diff (n0 := (tq pv).length) (ints := 1) (mn := mn1) (mst := mst) (by omega) (by omega) (by rw [diffB_cong g1]; omega) h
            rw [diffB_cong g1] at g2
            rw [if_pos (by rw [k0]), e2, bdS4]
            exact fin _ md2 mbb mdd2 mn2 mst2 (by omega) (by rw [tail_nil (by omega) (by omega), List.append_nil]; exact hBe.symm) g2
          · rw [if_neg k0] at hBl hBe
            obtain ⟨md2, mdd2, mn2, mst2, e2, g2⟩ := M_diff (n0 := (tq pv).length) (ints := 0) (mn := mn1) (mst := mst) (by omega) (by omega) (by rw [diffB_cong g1]; omega) h
            rw [diffB_cong g1] at g2
            rw [if_neg (by rw [eqI (by omega) (by omega)]; exact k0), e2, bdS4]
            exact fin _ md2 mbb mdd2 mn2 mst2 (by omega) (by rw [tail_nil (by omega) (by omega), List.append_nil]; exact hBe.symm) g2
