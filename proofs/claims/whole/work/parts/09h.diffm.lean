theorem blkB_len2 {ints : Nat} {st : Nat → Int64} {a e : Nat} : (blkB ints st a e).length ≤ 1038 := by
  unfold blkB
  have h1 := varB_len (zz (least st a e))
  have h2 := (pksN_len (low ints st (least st a e)) a e 4).1
  rw [List.length_append, List.length_append, wdsN_len]
  omega
theorem M_blk {ints a e : Nat} {mst mn : Nat → Int64} {L : List Int32} {md : Nat → Int32} {mdd : Int32} {kx : (Nat → Int32) → Int32 → (Nat → Int64) → Option ((Nat → Int32) × Int32 × (Nat → Int64) × (Nat → Int64))} (hint : ints ≤ 1) (ha : a < e) (he : e ≤ 200) (h128 : e ≤ a + 128) (hL : L.length + (blkB ints mst a e).length ≤ 60000) (h : MOut md mdd L) :
    ∃ md' mdd' mn', itr2 (p_X6_differences_L143 (nI e) mst (fun v5_23 =>
          bd2 (p_X6_zig v5_23 md mdd) <| fun md_24 mdd_25 =>
          itr2 (p_X6_differences_L192 (nI ints) (nI e) v5_23 mst (fun mn_31 =>
              itr3 (p_X6_differences_L246 (nI a) (nI e) mn_31 (fun md_37 mdd_38 =>
                  itr3 (p_X6_differences_L278 (nI a) (nI e) mn_31 (fun md_44 mdd_45 =>
                      kx md_44 mdd_45 mn_31)) fu (nI 0) md_37 mdd_38)) fu (nI 0) md_24 mdd_25)) fu (nI a) mn)) fu (mst a) (nI a) = kx md' mdd' mn' ∧ MOut md' mdd' (L ++ blkB ints mst a e) := by
  rw [M_least_L (by omega) 128 fu a (mst a) (by omega) (by omega) (by rw [fu_eq]; omega)]
  show ∃ md' mdd' mn', (bd2 (p_X6_zig (least mst a e) md mdd) _) = _ ∧ _
  have hv := varB_len (zz (least mst a e))
  unfold blkB at hL ⊢
  rw [List.length_append, List.length_append, wdsN_len] at hL
  obtain ⟨md1, mdd1, e1, g1⟩ := M_zig (v := least mst a e) (l := L) (md := md) (mdd := mdd) (by omega) h
  rw [e1, bdS2]
  obtain ⟨mn', e2, hlow⟩ := M_lower_L (a := a) (e := e) (ints := ints) (mst := mst) (mm := least mst a e) (kx := fun mn_31 =>
              itr3 (p_X6_differences_L246 (nI a) (nI e) mn_31 (fun md_37 mdd_38 =>
                  itr3 (p_X6_differences_L278 (nI a) (nI e) mn_31 (fun md_44 mdd_45 =>
                      kx md_44 mdd_45 mn_31)) fu (nI 0) md_37 mdd_38)) fu (nI 0) md1 mdd1) (by omega) hint (e - a) fu a mn (by omega) (by omega) (by omega) (by rw [fu_eq]; omega) (fun t h5 h6 => by omega)
  have ew := wdsN_cong (a := a) (e := e) (fun t h1 h2 => (hlow t h1 h2).symm) 4
  have ep := pksN_cong (a := a) (e := e) (fun t h1 h2 => (hlow t h1 h2).symm) 4
  rw [ep] at hL
  rw [ew, ep]
  obtain ⟨md3, mdd3, e3, g3⟩ := M_wds_L (a := a) (e := e) (mn := mn') (kx := fun md_37 mdd_38 =>
                  itr3 (p_X6_differences_L278 (nI a) (nI e) mn' (fun md_44 mdd_45 =>
                      kx md_44 mdd_45 mn')) fu (nI 0) md_37 mdd_38) (L := L ++ varB (zz (least mst a e))) (by omega) (by omega) (by rw [List.length_append]; omega) 4 fu 0 md1 mdd1 (by omega) (by omega) (by rw [fu_eq]; omega) (by simpa [wdsN] using g1)
  obtain ⟨md4, mdd4, e4, g4⟩ := M_pks_L (a := a) (e := e) (mn := mn') (kx := fun md_44 mdd_45 => kx md_44 mdd_45 mn') (L := L ++ varB (zz (least mst a e)) ++ wdsN mn' a e 4) (by omega) (by omega) (by rw [List.length_append, List.length_append, wdsN_len]; omega) 4 fu 0 md3 mdd3 (by omega) (by omega) (by rw [fu_eq]; omega) (by simpa [pksN] using g3)
  refine ⟨md4, mdd4, mn', ?_, by simpa [List.append_assoc] using g4⟩
  exact e2.trans (e3.trans e4)
theorem M_blks_L {n0 ints : Nat} {mst : Nat → Int64} (hint : ints ≤ 1) (hn1 : 1 ≤ n0) (hn : n0 ≤ 200) : ∀ (f n a : Nat) (L : List Int32) (md : Nat → Int32) (mdd : Int32) (mn : Nat → Int64), (n0 - 1) ≤ a + 128 * f → a ≤ 400 → f < n → L.length + (blksB ints mst (n0 - 1) f a).length ≤ 60000 → MOut md mdd L → ∃ md' mdd' mn', itr4 (p_X6_differences_L101 (nI n0) (nI ints) mst) n (nI a) md mdd mn = some (md', mdd', mn', mst) ∧ MOut md' mdd' (L ++ blksB ints mst (n0 - 1) f a) := by
  intro f
  induction f with
  | zero =>
    intro n a L md mdd mn h1 h2 h3 hL h
    cases n with
    | zero => omega
    | succ n =>
      refine ⟨md, mdd, mn, ?_, by simpa [blksB] using h⟩
      show p_X6_differences_L101 (nI n0) (nI ints) mst _ (nI a) md mdd mn = _
      rw [p_X6_differences_L101, if_neg (by rw [subI (by omega), ltI (by omega) (by omega)]; omega)]
  | succ f ih =>
    intro n a L md mdd mn h1 h2 h3 hL h
    cases n with
    | zero => omega
    | succ n =>
      show ∃ md' mdd' mn', p_X6_differences_L101 (nI n0) (nI ints) mst _ (nI a) md mdd mn = _ ∧ _
      rw [p_X6_differences_L101, blksB]
      rw [blksB] at hL
      by_cases ha : a < n0 - 1
      · rw [if_pos ha, List.length_append] at hL
        have fin : ∀ (md1 : Nat → Int32) (mdd1 : Int32) (mn1 : Nat → Int64), MOut md1 mdd1 (L ++ blkB ints mst a (min (a + 128) (n0 - 1))) → ∃ md' mdd' mn', itr4 (p_X6_differences_L101 (nI n0) (nI ints) mst) n (nI a + nI 128) md1 mdd1 mn1 = some (md', mdd', mn', mst) ∧ MOut md' mdd' (L ++ (blkB ints mst a (min (a + 128) (n0 - 1)) ++ blksB ints mst (n0 - 1) f (a + 128))) := by
          intro md1 mdd1 mn1 g1
          obtain ⟨md2, mdd2, mn2, e2, g2⟩ := ih n (a + 128) _ md1 mdd1 mn1 (by omega) (by omega) (by omega) (by rw [List.length_append]; omega) g1
          exact ⟨md2, mdd2, mn2, by rw [addI]; exact e2, by simpa [List.append_assoc] using g2⟩
        rw [if_pos (by rw [subI (by omega), ltI (by omega) (by omega)]; exact ha), if_pos ha, subI (by omega), addI, inbI (by omega), gdD (by omega), ixI (by omega)]
        by_cases he : a + 128 < n0 - 1
        · rw [Nat.min_eq_left (by omega)] at hL fin ⊢
          obtain ⟨md1, mdd1, mn1, e1, g1⟩ := M_blk (ints := ints) (a := a) (e := a + 128) (mst := mst) (mn := mn) (kx := fun m1 m2 m3 => itr4 (p_X6_differences_L101 (nI n0) (nI ints) mst) n (nI (a + 128)) m1 m2 m3) hint (by omega) (by omega) (by omega) (by omega) h
          obtain ⟨md2, mdd2, mn2, e2, g2⟩ := fin md1 mdd1 mn1 g1
          rw [addI] at e2
          refine ⟨md2, mdd2, mn2, ?_, g2⟩
          rw [if_pos (by rw [ltI (by omega) (by omega)]; exact he)]
          exact e1.trans e2
        · rw [Nat.min_eq_right (by omega)] at hL fin ⊢
          obtain ⟨md1, mdd1, mn1, e1, g1⟩ := M_blk (ints := ints) (a := a) (e := n0 - 1) (mst := mst) (mn := mn) (kx := fun m1 m2 m3 => itr4 (p_X6_differences_L101 (nI n0) (nI ints) mst) n (nI (a + 128)) m1 m2 m3) hint (by omega) (by omega) (by omega) (by omega) h
          obtain ⟨md2, mdd2, mn2, e2, g2⟩ := fin md1 mdd1 mn1 g1
          rw [addI] at e2
          refine ⟨md2, mdd2, mn2, ?_, g2⟩
          rw [if_neg (by rw [ltI (by omega) (by omega)]; exact he), gdD (by omega)]
          exact e1.trans e2
      · rw [if_neg (by rw [subI (by omega), ltI (by omega) (by omega)]; exact ha), if_neg ha]
        exact ⟨md, mdd, mn, rfl, by simpa using h⟩
theorem M_diff {n0 ints : Nat} {mn mst : Nat → Int64} {L : List Int32} {md : Nat → Int32} {mdd : Int32} (hint : ints ≤ 1) (hn : n0 ≤ 200) (hL : L.length + (diffB mn n0 ints).length ≤ 60000) (h : MOut md mdd L) : ∃ md' mdd' mn' mst', p_X6_differences (nI n0) (nI ints) md mdd mn mst = some (md', mdd', mn', mst') ∧ MOut md' mdd' (L ++ diffB mn n0 ints) := by
  unfold diffB at hL ⊢
  simp only [List.length_append] at hL
  obtain ⟨md1, mdd1, e1, g1⟩ := M_var (v := lN 128) (by omega) h
  obtain ⟨md2, mdd2, e2, g2⟩ := M_var (v := lN 4) (by rw [List.length_append]; omega) g1
  obtain ⟨md3, mdd3, e3, g3⟩ := M_var (v := lN n0) (by simp only [List.length_append]; omega) g2
  unfold p_X6_differences
  rw [e1, bdS2, e2, bdS2, i2lI (by omega), e3, bdS2]
  by_cases h0 : n0 = 0
  · subst h0
    rw [if_pos rfl] at hL ⊢
    rw [if_pos rfl]
    obtain ⟨md4, mdd4, e4, g4⟩ := M_zig (v := lN 0) (by simp only [List.length_append]; omega) g3
    rw [e4, bdS2]
    obtain ⟨mst', e5, -⟩ := M_steps_L (n0 := 0) (ints := ints) (mn := mn) (kx := fun mst_19 => itr4 (p_X6_differences_L101 (nI 0) (nI ints) mst_19) fu (nI 0) md4 mdd4 mn) (by omega) hint 0 fu 1 mst (by omega) (by omega) (by rw [fu_eq]; omega) (fun t ht => by omega)
    refine ⟨md4, mdd4, mn, mst', ?_, ?_⟩
    · refine e5.trans ?_
      show p_X6_differences_L101 (nI 0) (nI ints) mst' _ (nI 0) md4 mdd4 mn = _
      rw [p_X6_differences_L101, if_neg (by decide)]
    · have eb : blksB ints (dstep ints mn) (0 - 1) 2 0 = [] := by rw [blksB, if_neg (by omega)]
      rw [eb]
      simpa [List.append_assoc] using g4
  · rw [if_neg h0] at hL ⊢
    rw [if_neg (by rw [eqI (by omega) (by omega)]; exact h0), inbI (by omega), gdD (by omega), ixI (by omega)]
    obtain ⟨md4, mdd4, e4, g4⟩ := M_zig (v := mn 0) (by simp only [List.length_append]; omega) g3
    rw [e4, bdS2]
    obtain ⟨mst', e5, hst⟩ := M_steps_L (n0 := n0) (ints := ints) (mn := mn) (kx := fun mst_19 => itr4 (p_X6_differences_L101 (nI n0) (nI ints) mst_19) fu (nI 0) md4 mdd4 mn) (by omega) hint (n0 - 1) fu 1 mst (by omega) (by omega) (by rw [fu_eq]; omega) (fun t ht => by omega)
    have ec : blksB ints (dstep ints mn) (n0 - 1) 2 0 = blksB ints mst' (n0 - 1) 2 0 := blksB_cong (fun t ht => (hst t (by omega)).symm) 2 0
    rw [ec] at hL ⊢
    obtain ⟨md6, mdd6, mn6, e6, g6⟩ := M_blks_L (n0 := n0) (ints := ints) (mst := mst') hint (by omega) hn 2 fu 0 _ md4 mdd4 mn (by omega) (by omega) (by rw [fu_eq]; omega) (by simp only [List.length_append]; omega) g4
    exact ⟨md6, mdd6, mn6, mst', e5.trans e6, by simpa [List.append_assoc] using g6⟩
