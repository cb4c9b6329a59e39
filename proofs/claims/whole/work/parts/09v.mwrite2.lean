theorem M_dplain_L {c K : Nat} {mk mm mt : Nat → Int32} {mv : Nat → Int64} {mx : Nat → Int32} {D : List TV} {β : Type} {kx : (Nat → Int32) → Int32 → Option (Int32 × (Nat → Int32) × (Nat → Int32) × (Nat → Int64) × (Nat → Int32) × (Nat → Int32) × Int32 × (Nat → Int32) × Int32 × (Nat → Int64) × (Nat → Int64) × (Nat → Int32) × (Nat → Int32))} (hc : c < 5) (hK : mk c = nI K) (hK3 : K < 3) (h5 : mm 5 = nI D.length) (hD : D.length ≤ 200) (hd : MDic mt mv mx D) (hok : ∀ d ∈ D, TVok K d) (hL : (D.flatMap (plB K)).length ≤ 60000) : ∀ (m n j : Nat) (md : Nat → Int32) (mdd : Int32), D.length - j = m → j ≤ D.length → m < n → MOut md mdd ((D.take j).flatMap (plB K)) → ∃ md' mdd', itr3 (p_X6_write_L75 (nI c) mk mm mv mx kx) n (nI j) md mdd = kx md' mdd' ∧ MOut md' mdd' (D.flatMap (plB K)) := by
  intro m
  induction m with
  | zero =>
    intro n j md mdd h1 h2 h3 h
    have : j = D.length := by omega
    subst this
    cases n with
    | zero => omega
    | succ n =>
      rw [List.take_length] at h
      refine ⟨md, mdd, ?_, h⟩
      show p_X6_write_L75 (nI c) mk mm mv mx kx _ (nI D.length) md mdd = _
      rw [p_X6_write_L75, gdT (by decide), show ix (nI 5) = 5 from rfl, h5, if_neg (by rw [ltI (by omega) (by omega)]; omega)]
  | succ m ih =>
    intro n j md mdd h1 h2 h3 h
    cases n with
    | zero => omega
    | succ n =>
      have hj : j < D.length := by omega
      have htk := take_snoc hj
      have hlen : ((D.take j).flatMap (plB K)).length + (plB K D[j]).length ≤ (D.flatMap (plB K)).length := by
        have e : D.flatMap (plB K) = ((D.take j) ++ [D[j]]).flatMap (plB K) ++ (D.drop (j + 1)).flatMap (plB K) := by
          rw [htk, ← List.flatMap_append, List.take_append_drop]
        rw [e, flatMap_snoc, List.length_append, List.length_append]
        omega
      obtain ⟨md1, mdd1, e1, g1⟩ := M_plain (s := 1000 + j) (K := K) (by omega) hK3 (hok _ (List.getElem_mem hj)) (hd j hj) (by omega) h
      rw [← flatMap_snoc, htk] at g1
      obtain ⟨md2, mdd2, e2, g2⟩ := ih n (j + 1) md1 mdd1 (by omega) (by omega) (by omega) g1
      refine ⟨md2, mdd2, ?_, g2⟩
      show p_X6_write_L75 (nI c) mk mm mv mx kx _ (nI j) md mdd = _
      rw [p_X6_write_L75, gdT (by decide), show ix (nI 5) = 5 from rfl, h5, if_pos (by rw [ltI (by omega) (by omega)]; omega), addI, inbI (by omega), gdD (by omega), ixI (by omega), hK, e1, bdS2, addI]
      exact e2
abbrev WR : Type := Int32 × (Nat → Int32) × (Nat → Int32) × (Nat → Int64) × (Nat → Int32) × (Nat → Int32) × Int32 × (Nat → Int32) × Int32 × (Nat → Int64) × (Nat → Int64) × (Nat → Int32) × (Nat → Int32)
theorem M_tofile_L {s0 : Nat} {md : Nat → Int32} {mf : Nat → Int32} {Z : List Int32} {kx : (Nat → Int32) → Option WR} (hs : s0 + Z.length ≤ 12000) (hb : b8L Z) (h : Seg md Z) : ∀ (m n k : Nat), Z.length - k = m → k ≤ Z.length → m < n → itr2 (p_X6_write_L212 (nI s0) md (nI Z.length) kx) n (nI k) (wr mf s0 (Z.take k)) = kx (wr mf s0 Z) := by
  intro m
  induction m with
  | zero =>
    intro n k h1 h2 h3
    have : k = Z.length := by omega
    subst this
    cases n with
    | zero => omega
    | succ n =>
      rw [List.take_length]
      show p_X6_write_L212 (nI s0) md (nI Z.length) kx _ (nI Z.length) _ = _
      rw [p_X6_write_L212, if_neg (by rw [ltI (by omega) (by omega)]; omega)]
  | succ m ih =>
    intro n k h1 h2 h3
    cases n with
    | zero => omega
    | succ n =>
      have hk : k < Z.length := by omega
      show p_X6_write_L212 (nI s0) md (nI Z.length) kx _ (nI k) _ = _
      rw [p_X6_write_L212, if_pos (by rw [ltI (by omega) (by omega)]; omega), addI, inbI (by omega), gdD (by omega), inbI (by omega), gdD (by omega), ixI (by omega), ixI (by omega), h k hk, hb _ (List.getElem_mem hk), addI]
      have e2 : s0 + k = s0 + (Z.take k).length := by rw [List.length_take]; omega
      rw [e2, wr_snoc, take_snoc hk]
      exact ih n (k + 1) (by omega) (by omega) (by omega)
/-- what write answers, and what it makes of the file -/
theorem M_J191 {s0 : Nat} {Z : List Int32} {mm mt : Nat → Int32} {mv : Nat → Int64} {mx mf : Nat → Int32} {ms : Int32} {md : Nat → Int32} {mdd : Int32} {mn mst : Nat → Int64} {mpl mbb : Nat → Int32} (hs : s0 ≤ 12000) (hZ : Z.length ≤ 60000) (hb : b8L Z) (h : MOut md mdd Z) : p_X6_write_J191 (nI s0) mm mt mv mx mf ms md mdd mn mst mpl mbb = some (if 12000 < s0 + Z.length then ((-3 : Int32), mm, mt, mv, mx, mf, ms, md, mdd, mn, mst, mpl, mbb) else (nI (s0 + Z.length), mm, mt, mv, mx, wr mf s0 Z, nI (s0 + Z.length), md, mdd, mn, mst, mpl, mbb)) := by
  rw [p_X6_write_J191, h.1, addI]
  by_cases hf : 12000 < s0 + Z.length
  · rw [if_pos (by rw [ltI (by omega) (by omega)]; exact hf), if_pos hf]
  · rw [if_neg (by rw [ltI (by omega) (by omega)]; exact hf), if_neg hf]
    have e := M_tofile_L (s0 := s0) (mf := mf) (kx := fun mf_49 => some (nI (s0 + Z.length), mm, mt, mv, mx, mf_49, nI (s0 + Z.length), md, nI Z.length, mn, mst, mpl, mbb)) (by omega) hb h.2 Z.length fu 0 (by omega) (by omega) (by rw [fu_eq]; omega)
    rw [List.take_zero, wr_nil] at e
    exact e
def WriteTo (s0 : Nat) (Z : List Int32) (mf : Nat → Int32) (ms : Int32) (mm mt : Nat → Int32) (mv : Nat → Int64) (mx : Nat → Int32) (r : Option WR) : Prop := ∃ mm' mt' mv' mx' md' mdd' mn' mst' mpl' mbb', r = some (if 12000 < s0 + Z.length then ((-3 : Int32), mm', mt', mv', mx', mf, ms, md', mdd', mn', mst', mpl', mbb') else (nI (s0 + Z.length), mm', mt', mv', mx', wr mf s0 Z, nI (s0 + Z.length), md', mdd', mn', mst', mpl', mbb')) ∧ (∀ j, j ≠ 5 → mm' j = mm j) ∧ MFr 1000 mt mv mx mt' mv' mx'
theorem M_write_J34 {c K O way q s0 S : Nat} {ap : Int32} {mk mo mm mt : Nat → Int32} {mv : Nat → Int64} {mx : Nat → Int32} {vals : List AV} {mf : Nat → Int32} {md : Nat → Int32} {mdd : Int32} {mn mst : Nat → Int64} {mpl mbb : Nat → Int32} (hc : c < 5) (hl : vals.length ≤ 200) (hm : mm c = nI vals.length) (hK : mk c = nI K) (hK3 : K ≤ 3) (hO : mo c = nI O) (hO1 : O ≤ 1) (hv : MCol mt mv mx c vals) (hw : ∀ a ∈ vals, wfv K a) (hway : way ≤ 2) (hq : 1 ≤ q) (hq2 : q ≤ 200) (h13 : way = 1 → K ≠ 3) (hS : S ≤ 12000) (hs0 : s0 = if ap = nI 0 then 0 else S) :
    WriteTo s0 (writeB K O vals way q) mf (nI S) mm mt mv mx (p_X6_write_J34 (nI c) (nI way) (nI q) ap mk mo mm mt mv mx mf (nI S) md mdd mn mst mpl mbb) := by
  have hD := DL_len (tq vals)
  have hql := tq_le vals
  have hwl := write_len (O := O) hw hl hq h13
  have hb := b8L_write (K := K) (O := O) (way := way) (q := q) hw
  have hs : s0 ≤ 12000 := by rw [hs0]; split <;> omega
  have fin : ∀ (mm' mt' : Nat → Int32) (mv' : Nat → Int64) (mx' md' : Nat → Int32) (mdd' : Int32) (mn' mst' : Nat → Int64) (mpl' mbb' : Nat → Int32), MOut md' mdd' (writeB K O vals way q) → (∀ j, j ≠ 5 → mm' j = mm j) → MFr 1000 mt mv mx mt' mv' mx' → WriteTo s0 (writeB K O vals way q) mf (nI S) mm mt mv mx (if ap = nI 0 then p_X6_write_J191 (nI 0) mm' mt' mv' mx' mf (nI S) md' mdd' mn' mst' mpl' mbb' else p_X6_write_J191 (nI S) mm' mt' mv' mx' mf (nI S) md' mdd' mn' mst' mpl' mbb') := by
    intro mm' mt' mv' mx' md' mdd' mn' mst' mpl' mbb' h1 h2 h3
    have e := M_J191 (s0 := s0) (ms := nI S) (mm := mm') (mt := mt') (mv := mv') (mx := mx') (mf := mf) (mn := mn') (mst := mst') (mpl := mpl') (mbb := mbb') hs hwl hb h1
    refine ⟨mm', mt', mv', mx', md', mdd', mn', mst', mpl', mbb', ?_, h2, h3⟩
    rw [← e]
    by_cases ha : ap = nI 0
    · rw [if_pos ha, hs0, if_pos ha]
    · rw [if_neg ha, hs0, if_neg ha]
  rw [p_X6_write_J34, M_in_nat (by omega) (by omega) (by omega), bdS1, if_pos (show 1 ≤ q ∧ q ≤ 200 from ⟨hq, hq2⟩), if_neg (by decide)]
  have nodict : ¬ (way = 1 ∧ 0 < vals.length) → (way = 1 → vals.length = 0) → ∃ md' mdd' mn' mst' mbb', itr6 (p_X6_write_L124 (nI c) (nI way) (nI q) mk mo mm mt mv mx mpl (fun md_55 mdd_56 mn_57 mst_58 mbb_59 =>
          if ap = nI 0 then
            p_X6_write_J191 (nI 0) mm mt mv mx mf (nI S) md_55 mdd_56 mn_57 mst_58 mpl mbb_59
          else
            p_X6_write_J191 (nI S) mm mt mv mx mf (nI S) md_55 mdd_56 mn_57 mst_58 mpl mbb_59)) fu (nI 0) md (nI 0) mn mst mbb = (if ap = nI 0 then p_X6_write_J191 (nI 0) mm mt mv mx mf (nI S) md' mdd' mn' mst' mpl mbb' else p_X6_write_J191 (nI S) mm mt mv mx mf (nI S) md' mdd' mn' mst' mpl mbb') ∧ MOut md' mdd' (writeB K O vals way q) := by
    intro hn h0
    have hz : MOut md (nI 0) [] := ⟨rfl, fun k h => by simp at h⟩
    by_cases w1 : way = 1
    · have hv0 := h0 w1
      refine ⟨md, nI 0, mn, mst, mbb, ?_, ?_⟩
      · obtain ⟨m, ef⟩ : ∃ m, fu = m + 1 := ⟨1048575, rfl⟩
        rw [ef]
        show p_X6_write_L124 (nI c) (nI way) (nI q) mk mo mm mt mv mx mpl _ _ (nI 0) md (nI 0) mn mst mbb = _
        rw [p_X6_write_L124, inbI (by omega), gdD (by omega), ixI (by omega), hm, hv0, if_neg (by decide)]
      · unfold writeB
        rw [if_neg hn, hv0]
        simpa [pagesB] using hz
    · obtain ⟨md1, mdd1, mn1, mst1, mbb1, e1, g1⟩ := M_pages_L (O := O) (mpl := mpl) (kx := fun md_55 mdd_56 mn_57 mst_58 mbb_59 =>
          if ap = nI 0 then
            p_X6_write_J191 (nI 0) mm mt mv mx mf (nI S) md_55 mdd_56 mn_57 mst_58 mpl mbb_59
          else
            p_X6_write_J191 (nI S) mm mt mv mx mf (nI S) md_55 mdd_56 mn_57 mst_58 mpl mbb_59) hc hl hm hK hK3 hO hO1 hv hw hway hq hq2 (fun h => absurd h w1) vals.length fu 0 [] md (nI 0) mn mst mbb (by omega) (by omega) (by rw [fu_eq]; omega) hz (by
            unfold writeB at hwl
            rw [if_neg hn] at hwl
            simpa using hwl)
      refine ⟨md1, mdd1, mn1, mst1, mbb1, e1, ?_⟩
      unfold writeB
      rw [if_neg hn]
      exact g1
  by_cases w1 : way = 1
  · rw [if_pos (by rw [w1]), inbI (by omega), gdD (by omega), ixI (by omega), hm]
    by_cases h0 : 0 < vals.length
    · rw [if_pos (by rw [ltI (by omega) (by omega)]; exact h0)]
      obtain ⟨mt1, mv1, mx1, mpl1, e1, gd1, gp1, gf1⟩ := M_dict (mpl := mpl) hc hl hw hm hv
      have hok : ∀ d ∈ DL (tq vals), TVok K d := fun d hd => tq_ok hw d ((DL_mem _ _).mp hd)
      have k3 := h13 w1
      have hdl := dict_len (K := K) (D := DL (tq vals)) (by omega) k3 hok
      have hbo : bodyB K 0 (DL (tq vals)) [] 0 = (DL (tq vals)).flatMap (plB K) := by
        unfold bodyB
        rw [if_pos rfl, if_neg k3]
      rw [e1, bdS5]
      have hm5 : up mm 5 (nI (DL (tq vals)).length) 5 = nI (DL (tq vals)).length := up_s
      have hmc : up mm 5 (nI (DL (tq vals)).length) c = nI vals.length := by rw [up_n (show c ≠ 5 by omega)]; exact hm
      obtain ⟨md2, mdd2, e2, g2⟩ := M_dplain_L (c := c) (mk := mk) (β := Nat) (kx := fun md_20 mdd_21 =>
            gd (inb (nI 5) 7) <|
            bd3 (p_X6_headed (nI 0) (nI 2) (up mm 5 (nI (DL (tq vals)).length) (ix (nI 5))) (nI 0) md_20 mdd_21 mbb) <| fun md_23 mdd_24 mbb_25 =>
            itr6 (p_X6_write_L124 (nI c) (nI way) (nI q) mk mo (up mm 5 (nI (DL (tq vals)).length)) mt1 mv1 mx1 mpl1 (fun md_42 mdd_43 mn_44 mst_45 mbb_46 =>
                if ap = nI 0 then
                  p_X6_write_J191 (nI 0) (up mm 5 (nI (DL (tq vals)).length)) mt1 mv1 mx1 mf (nI S) md_42 mdd_43 mn_44 mst_45 mpl1 mbb_46
                else
                  p_X6_write_J191 (nI S) (up mm 5 (nI (DL (tq vals)).length)) mt1 mv1 mx1 mf (nI S) md_42 mdd_43 mn_44 mst_45 mpl1 mbb_46)) fu (nI 0) md_23 mdd_24 mn mst mbb_25) hc hK (by omega) hm5 (by omega) gd1 hok (by rw [hbo] at hdl; omega) (DL (tq vals)).length fu 0 md (nI 0) (by omega) (by omega) (by rw [fu_eq]; omega) ⟨rfl, fun k h => by simp at h⟩
      have hhl := head_len 2 (bodyB K 0 (DL (tq vals)) [] 0).length (DL (tq vals)).length 0
      obtain ⟨md3, mdd3, mbb3, e3, g3⟩ := M_headed (L := []) (what := 2) (cnt := (DL (tq vals)).length) (code := 0) (mbb := mbb) (by omega) (by omega) (by omega) (b8L_body (K := K) (code := 0) (pls := []) (w := 0) (fun t ht => (hok t ht).2.1)) (by omega) (by simp only [List.length_nil]; omega) (by rw [hbo, List.nil_append]; exact g2)
      rw [List.nil_append] at g3
      have hwb : writeB K O vals way q = dictB K (DL (tq vals)) ++ pagesB K O (codeOf K way) vals (DL (tq vals)) q vals.length 0 := by
        unfold writeB
        rw [if_pos ⟨w1, h0⟩]
      obtain ⟨md4, mdd4, mn4, mst4, mbb4, e4, g4⟩ := M_pages_L (O := O) (mpl := mpl1) (kx := fun md_42 mdd_43 mn_44 mst_45 mbb_46 =>
                if ap = nI 0 then
                  p_X6_write_J191 (nI 0) (up mm 5 (nI (DL (tq vals)).length)) mt1 mv1 mx1 mf (nI S) md_42 mdd_43 mn_44 mst_45 mpl1 mbb_46
                else
                  p_X6_write_J191 (nI S) (up mm 5 (nI (DL (tq vals)).length)) mt1 mv1 mx1 mf (nI S) md_42 mdd_43 mn_44 mst_45 mpl1 mbb_46) hc hl hmc hK hK3 hO hO1 (gf1.col hv (by omega)) hw hway hq hq2 (fun _ => ⟨gp1, hm5⟩) vals.length fu 0 (dictB K (DL (tq vals))) md3 mdd3 mn mst mbb3 (by omega) (by omega) (by rw [fu_eq]; omega) g3 (by rw [hwb, List.length_append] at hwl; omega)
      rw [← hwb] at g4
      have := fin (up mm 5 (nI (DL (tq vals)).length)) mt1 mv1 mx1 md4 mdd4 mn4 mst4 mpl1 mbb4 g4 (fun j hj => up_n hj) gf1
      rw [← e4] at this
      have e5 := e2
      have e3' : p_X6_headed (nI 0) (nI 2) (nI (DL (tq vals)).length) (nI 0) md2 mdd2 mbb = some (md3, mdd3, mbb3) := e3
      rw [gdT (by decide), show ix (nI 5) = 5 from rfl, hm5, e3', bdS3] at e5
      rw [← e5] at this
      exact this
    · rw [if_neg (by rw [ltI (by omega) (by omega)]; exact h0)]
      obtain ⟨md1, mdd1, mn1, mst1, mbb1, e1, g1⟩ := nodict (fun h => h0 h.2) (fun _ => by omega)
      rw [e1]
      exact fin mm mt mv mx md1 mdd1 mn1 mst1 mpl mbb1 g1 (fun _ _ => rfl) MFr.rf
  · rw [if_neg (by rw [eqI (by omega) (by omega)]; exact w1)]
    obtain ⟨md1, mdd1, mn1, mst1, mbb1, e1, g1⟩ := nodict (fun h => w1 h.1) (fun h => absurd h w1)
    rw [e1]
    exact fin mm mt mv mx md1 mdd1 mn1 mst1 mpl mbb1 g1 (fun _ _ => rfl) MFr.rf
