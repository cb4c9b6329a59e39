/-! rows of the reference: slot s = 200 j + i -/
def l40 (l : List Int32) : List Int32 := (List.range 40).map (fun k => l[k]?.getD (nI 0))
theorem l40_len (l : List Int32) : (l40 l).length = 40 := by simp [l40]
theorem l40_at {l : List Int32} {k : Nat} (h : k < (l40 l).length) : (l40 l)[k] = l[k]?.getD (nI 0) := by simp [l40]
theorem l40_b8 {l : List Int32} (hb : b8L l) : b8L (l40 l) := by
  intro x hx
  obtain ⟨k, _, rfl⟩ := List.mem_map.mp hx
  by_cases h : k < l.length
  · rw [List.getElem?_eq_getElem h]
    exact hb _ (List.getElem_mem h)
  · rw [List.getElem?_eq_none (by omega)]
    exact b8_0
def MX (mx : Nat → Int32) (s : Nat) (l : List Int32) : Prop := ∀ (k : Nat), k < 40 → mx (40 * s + k) = l[k]?.getD (nI 0)
def MV (mt : Nat → Int32) (mv : Nat → Int64) (mx : Nat → Int32) (s : Nat) (a : AV) : Prop := mt s = nI (th a) ∧ mv s = nu a ∧ MX mx s (le a)
theorem MX_wr {mx : Nat → Int32} {s : Nat} {l : List Int32} : MX (wr mx (40 * s) (l40 l)) s l := by
  intro k hk
  rw [wr_in (by omega) (by rw [l40_len]; omega), l40_at]
  congr 2
  omega
theorem MX_wr_n {mx : Nat → Int32} {s s2 : Nat} {l l2 : List Int32} (hn : s2 ≠ s) (h : MX mx s2 l2) : MX (wr mx (40 * s) (l40 l)) s2 l2 := by
  intro k hk
  rw [wr_out (by rw [l40_len]; omega), h k hk]
theorem MV_wr {mt : Nat → Int32} {mv : Nat → Int64} {mx : Nat → Int32} {s : Nat} (a : AV) : MV (up mt s (nI (th a))) (up mv s (nu a)) (wr mx (40 * s) (l40 (le a))) s a := ⟨up_s, up_s, MX_wr⟩
theorem MV_wr_n {mt : Nat → Int32} {mv : Nat → Int64} {mx : Nat → Int32} {s s2 : Nat} {a b : AV} (hn : s2 ≠ s) (h : MV mt mv mx s2 b) : MV (up mt s (nI (th a))) (up mv s (nu a)) (wr mx (40 * s) (l40 (le a))) s2 b := ⟨(up_n hn).trans h.1, (up_n hn).trans h.2.1, MX_wr_n hn h.2.2⟩
theorem M_copies_L {s1 s2 : Nat} {mt : Nat → Int32} {mv : Nat → Int64} {mx : Nat → Int32} {l : List Int32} (h1 : s1 < 1400) (h2 : s2 < 1400) (hb : b8L l) (hx : MX mx s2 l) : ∀ (m n k : Nat), 40 - k = m → k ≤ 40 → m < n → itr2 (p_X6_copies_L26 (nI s1) (nI s2) mt mv) n (nI k) (wr mx (40 * s1) ((l40 l).take k)) = some (mt, mv, wr mx (40 * s1) (l40 l)) := by
  intro m
  induction m with
  | zero =>
    intro n k h3 h4 h5
    have : k = 40 := by omega
    subst this
    cases n with
    | zero => omega
    | succ n =>
      show p_X6_copies_L26 (nI s1) (nI s2) mt mv _ (nI 40) _ = _
      rw [p_X6_copies_L26, if_neg (by decide), List.take_of_length_le (by rw [l40_len]; omega)]
  | succ m ih =>
    intro n k h3 h4 h5
    cases n with
    | zero => omega
    | succ n =>
      have hk : k < (l40 l).length := by rw [l40_len]; omega
      show p_X6_copies_L26 (nI s1) (nI s2) mt mv _ (nI k) _ = _
      rw [p_X6_copies_L26]
      simp (disch := omega) only [ltI, eqI, addI, subI, mulI, divI, ixI, inbI, i2lI, l2iL, ltL, eqL, addL, mulL, subL, gdD, if_pos, if_neg, if_true, if_false, bdS1, bdS2, bdS3, bdS4, bdS5, bdS6, bdS7, bdS8, bdS9, bdS10, bdS11, bdS12, bdS13, moN, moS]
      rw [wr_out (by rw [List.length_take, l40_len]; omega), hx k (by omega), ← l40_at hk, l40_b8 hb _ (List.getElem_mem hk)]
      have e2 : 40 * s1 + k = 40 * s1 + ((l40 l).take k).length := by rw [List.length_take, l40_len]; omega
      rw [e2, wr_snoc, take_snoc hk]
      exact ih n (k + 1) (by omega) (by omega) (by omega)
theorem M_copies {s1 s2 : Nat} {mt : Nat → Int32} {mv : Nat → Int64} {mx : Nat → Int32} {a : AV} (h1 : s1 < 1400) (h2 : s2 < 1400) (hb : b8L (le a)) (h : MV mt mv mx s2 a) : p_X6_copies (nI s1) (nI s2) mt mv mx = some (up mt s1 (nI (th a)), up mv s1 (nu a), wr mx (40 * s1) (l40 (le a))) := by
  obtain ⟨v1, v2, v3⟩ := h
  unfold p_X6_copies
  simp (disch := omega) only [ltI, eqI, addI, subI, mulI, divI, ixI, inbI, i2lI, l2iL, ltL, eqL, addL, mulL, subL, gdD, if_pos, if_neg, if_true, if_false, bdS1, bdS2, bdS3, bdS4, bdS5, bdS6, bdS7, bdS8, bdS9, bdS10, bdS11, bdS12, bdS13, moN, moS, v1, v2, gdT (isB_th a)]
  have := M_copies_L (mt := up mt s1 (nI (th a))) (mv := up mv s1 (nu a)) h1 h2 hb v3 40 fu 0 (by omega) (by omega) (by rw [fu_eq]; omega)
  rw [List.take_zero, wr_nil] at this
  exact this
theorem l40_nil {k : Nat} (h : k < (l40 []).length) : (l40 [])[k] = nI 0 := by rw [l40_at]; rfl
theorem M_adds_L {s : Nat} {mx : Nat → Int32} {β : Type} {k60 : (Nat → Int32) → Option (Int32 × (Nat → Int32) × (Nat → Int32) × (Nat → Int64) × (Nat → Int32))} (h1 : s < 1400) : ∀ (m n k : Nat), 40 - k = m → k ≤ 40 → m < n → itr2 (p_X6_adds_L33 (nI s) k60) n (nI k) (wr mx (40 * s) ((l40 []).take k)) = k60 (wr mx (40 * s) (l40 [])) := by
  intro m
  induction m with
  | zero =>
    intro n k h3 h4 h5
    have : k = 40 := by omega
    subst this
    cases n with
    | zero => omega
    | succ n =>
      show p_X6_adds_L33 (nI s) k60 _ (nI 40) _ = _
      rw [p_X6_adds_L33, if_neg (by decide), List.take_of_length_le (by rw [l40_len]; omega)]
  | succ m ih =>
    intro n k h3 h4 h5
    cases n with
    | zero => omega
    | succ n =>
      have hk : k < (l40 []).length := by rw [l40_len]; omega
      show p_X6_adds_L33 (nI s) k60 _ (nI k) _ = _
      rw [p_X6_adds_L33]
      simp (disch := omega) only [ltI, eqI, addI, subI, mulI, divI, ixI, inbI, i2lI, l2iL, ltL, eqL, addL, mulL, subL, gdD, if_pos, if_neg, if_true, if_false, bdS1, bdS2, bdS3, bdS4, bdS5, bdS6, bdS7, bdS8, bdS9, bdS10, bdS11, bdS12, bdS13, moN, moS]
      rw [b8_0, ← l40_nil hk]
      have e2 : 40 * s + k = 40 * s + ((l40 []).take k).length := by rw [List.length_take, l40_len]; omega
      rw [e2, wr_snoc, take_snoc hk]
      exact ih n (k + 1) (by omega) (by omega) (by omega)
theorem M_adds {c n t : Nat} {v : Int64} {mm mt : Nat → Int32} {mv : Nat → Int64} {mx : Nat → Int32} (hc : c < 7) (hn : n < 200) (hm : mm c = nI n) (ht : t ≤ 1) : p_X6_adds (nI c) (nI t) v mm mt mv mx = some (nI n, up mm c (nI (n + 1)), up mt (200 * c + n) (nI t), up mv (200 * c + n) v, wr mx (40 * (200 * c + n)) (l40 [])) := by
  have hB : isB (nI t) = true := by
    by_cases h : t = 0
    · subst h; decide
    · have : t = 1 := by omega
      subst this; decide
  unfold p_X6_adds
  simp (disch := omega) only [ltI, eqI, addI, subI, mulI, divI, ixI, inbI, i2lI, l2iL, ltL, eqL, addL, mulL, subL, gdD, if_pos, if_neg, if_true, if_false, bdS1, bdS2, bdS3, bdS4, bdS5, bdS6, bdS7, bdS8, bdS9, bdS10, bdS11, bdS12, bdS13, moN, moS, hm, gdT hB]
  have e := M_adds_L (mx := mx) (β := Nat) (k60 := fun mx_6 => gd (inb (nI c) 7) <| gd (inb (nI c) 7) <| gd (inb (nI c) 7) <| some (up mm c (nI (n + 1)) c - nI 1, up mm c (nI (n + 1)), up mt (200 * c + n) (nI t), up mv (200 * c + n) v, mx_6)) (s := 200 * c + n) (by omega) 40 fu 0 (by omega) (by omega) (by rw [fu_eq]; omega)
  rw [List.take_zero, wr_nil] at e
  simp only [inbI (show c < 2 ^ 31 by omega), gdD hc] at e
  refine e.trans ?_
  rw [up_s, subI (by omega), Nat.add_sub_cancel]
theorem le_eq_of {K : Nat} {a b : AV} (ha : wfv K a) (hb : wfv K b) (hn : nu a = nu b) (hl : ∀ k, k < 40 → (le a)[k]?.getD (nI 0) = (le b)[k]?.getD (nI 0)) : le a = le b := by
  by_cases h2 : K = 2
  · subst h2
    have e1 := wfv_num ha
    have e2 := wfv_num hb
    have l1 := ha.1
    have l2 := hb.1
    rw [hn, e2, eqL (by omega) (by omega)] at e1
    refine List.ext_getElem e1.symm (fun k p q => ?_)
    have := hl k (by omega)
    rw [List.getElem?_eq_getElem p, List.getElem?_eq_getElem q] at this
    exact this
  · rw [wfv_no ha h2, wfv_no hb h2]
theorem M_areLike_0 {s1 s2 : Nat} {mx : Nat → Int32} (n : Nat) : itr2 (p_X6_areLike_L40 (nI s1) (nI s2) mx) (n + 1) (nI 0) (nI 0) = some (nI 0) := by
  show p_X6_areLike_L40 (nI s1) (nI s2) mx _ (nI 0) (nI 0) = _
  rw [p_X6_areLike_L40, if_pos (by decide), if_pos rfl, gdT (by decide)]
theorem M_areLike_L {s1 s2 : Nat} {mx : Nat → Int32} {l l2 : List Int32} (h1 : s1 < 1400) (h2 : s2 < 1400) (x1 : MX mx s1 l) (x2 : MX mx s2 l2) : ∀ (m n k : Nat), 40 - k = m → k ≤ 40 → m + 1 < n → (∀ j, j < k → l[j]?.getD (nI 0) = l2[j]?.getD (nI 0)) → itr2 (p_X6_areLike_L40 (nI s1) (nI s2) mx) n (nI 1) (nI k) = some (nI (if ∀ j, j < 40 → l[j]?.getD (nI 0) = l2[j]?.getD (nI 0) then 1 else 0)) := by
  intro m
  induction m with
  | zero =>
    intro n k h3 h4 h5 h6
    have : k = 40 := by omega
    subst this
    cases n with
    | zero => omega
    | succ n =>
      show p_X6_areLike_L40 (nI s1) (nI s2) mx _ (nI 1) (nI 40) = _
      rw [p_X6_areLike_L40, if_neg (by decide), gdT (by decide), if_pos h6]
  | succ m ih =>
    intro n k h3 h4 h5 h6
    cases n with
    | zero => omega
    | succ n =>
      show p_X6_areLike_L40 (nI s1) (nI s2) mx _ (nI 1) (nI k) = _
      rw [p_X6_areLike_L40, if_pos (by rw [ltI (by omega) (by omega)]; omega), if_neg (by decide), mulI, mulI, addI, addI, inbI (by omega), gdD (by omega), inbI (by omega), gdD (by omega), ixI (by omega), ixI (by omega), x1 k (by omega), x2 k (by omega), addI]
      by_cases e : l[k]?.getD (nI 0) = l2[k]?.getD (nI 0)
      · rw [if_pos e]
        refine ih n (k + 1) (by omega) (by omega) (by omega) (fun j hj => ?_)
        by_cases hjk : j = k
        · subst hjk; exact e
        · exact h6 j (by omega)
      · rw [if_neg e, if_neg (fun hh => e (hh k (by omega)))]
        cases n with
        | zero => omega
        | succ n =>
          show p_X6_areLike_L40 (nI s1) (nI s2) mx _ (nI 0) (nI (k + 1)) = _
          rw [p_X6_areLike_L40]
          by_cases h7 : k + 1 < 40
          · rw [if_pos (by rw [ltI (by omega) (by omega)]; omega), if_pos rfl, gdT (by decide)]
          · rw [if_neg (by rw [ltI (by omega) (by omega)]; omega), gdT (by decide)]
theorem M_areLike {s1 s2 K : Nat} {mt : Nat → Int32} {mv : Nat → Int64} {mx : Nat → Int32} {a b : AV} (h1 : s1 < 1400) (h2 : s2 < 1400) (wa : wfv K a) (wb : wfv K b) (ha : MV mt mv mx s1 a) (hb : MV mt mv mx s2 b) : p_X6_areLike (nI s1) (nI s2) mt mv mx = some (nI (if a = b then 1 else 0)) := by
  obtain ⟨a1, a2, a3⟩ := ha
  obtain ⟨b1, b2, b3⟩ := hb
  have ta := th_le a
  have tb := th_le b
  unfold p_X6_areLike
  rw [inbI (by omega), gdD (by omega), inbI (by omega), gdD (by omega), ixI (by omega), ixI (by omega), a1, b1, a2, b2, gdD (by omega), gdD (by omega), fu_eq]
  by_cases e1 : th a = th b
  · rw [if_pos (by rw [e1])]
    by_cases e2 : nu a = nu b
    · rw [if_pos e2]
      refine (M_areLike_L h1 h2 a3 b3 40 1048576 0 (by omega) (by omega) (by omega) (fun j hj => by omega)).trans ?_
      congr 3
      refine propext ⟨fun h => av_eq e1 e2 (le_eq_of wa wb e2 h), fun h => ?_⟩
      subst h
      exact fun _ _ => rfl
    · rw [if_neg e2, if_neg (fun h => e2 (by rw [h]))]
      exact M_areLike_0 _
  · rw [if_neg (by rw [eqI (by omega) (by omega)]; exact e1), if_neg (fun h => e1 (by rw [h]))]
    exact M_areLike_0 _
theorem M_letters_L {s : Nat} {mv : Nat → Int64} {mx : Nat → Int32} {ls L : List Int32} (hs : s < 1400) (hl : ls.length ≤ 40) (hb : b8L ls) (hn : mv s = lN ls.length) (hx : MX mx s ls) (hL : L.length + ls.length ≤ 60000) : ∀ (m n k : Nat) (md : Nat → Int32) (mdd : Int32), ls.length - k = m → k ≤ ls.length → m < n → MOut md mdd (L ++ ls.take k) → ∃ md' mdd', itr3 (p_X6_letters_L2 (nI s) mv mx) n (nI k) md mdd = some (md', mdd') ∧ MOut md' mdd' (L ++ ls) := by
  intro m
  induction m with
  | zero =>
    intro n k md mdd h1 h2 h3 h
    have : k = ls.length := by omega
    subst this
    cases n with
    | zero => omega
    | succ n =>
      rw [List.take_length] at h
      refine ⟨md, mdd, ?_, h⟩
      show p_X6_letters_L2 (nI s) mv mx _ (nI ls.length) md mdd = _
      rw [p_X6_letters_L2, inbI (by omega), gdD (by omega), ixI (by omega), hn, i2lI (by omega), if_neg (by rw [ltL (by omega) (by omega)]; omega)]
  | succ m ih =>
    intro n k md mdd h1 h2 h3 h
    cases n with
    | zero => omega
    | succ n =>
      have hk : k < ls.length := by omega
      obtain ⟨md1, mdd1, e1, g1⟩ := MOut_byte ls[k] h (by rw [List.length_append, List.length_take]; omega)
      rw [hb _ (List.getElem_mem hk), List.append_assoc, take_snoc hk] at g1
      obtain ⟨md2, mdd2, e2, g2⟩ := ih n (k + 1) md1 mdd1 (by omega) (by omega) (by omega) g1
      refine ⟨md2, mdd2, ?_, g2⟩
      show p_X6_letters_L2 (nI s) mv mx _ (nI k) md mdd = _
      rw [p_X6_letters_L2, inbI (by omega), gdD (by omega), ixI (by omega), hn, i2lI (by omega), if_pos (by rw [ltL (by omega) (by omega)]; omega), mulI, addI, inbI (by omega), gdD (by omega), ixI (by omega), hx k (by omega), List.getElem?_eq_getElem hk]
      show bd2 (p_X6_byteTo ls[k] md mdd) _ = _
      rw [e1, bdS2, addI]
      exact e2
theorem M_letters {s : Nat} {mt : Nat → Int32} {mv : Nat → Int64} {mx : Nat → Int32} {q : TV} {L : List Int32} {md : Nat → Int32} {mdd : Int32} (hs : s < 1400) (hq : TVok 2 q) (hv : MV mt mv mx s (some q)) (hL : L.length + q.2.length ≤ 60000) (h : MOut md mdd L) : ∃ md' mdd', p_X6_letters (nI s) mv mx md mdd = some (md', mdd') ∧ MOut md' mdd' (L ++ q.2) := by
  obtain ⟨q1, q2, q3⟩ := hq
  rw [if_pos rfl] at q3
  obtain ⟨v1, v2, v3⟩ := hv
  exact M_letters_L hs q1 q2 (v2.trans q3) v3 hL q.2.length fu 0 md mdd (by omega) (by omega) (by rw [fu_eq]; omega) (by rw [List.take_zero, List.append_nil]; exact h)
theorem M_plain {s K : Nat} {mt : Nat → Int32} {mv : Nat → Int64} {mx : Nat → Int32} {q : TV} {L : List Int32} {md : Nat → Int32} {mdd : Int32} (hs : s < 1400) (hK : K < 3) (hq : TVok K q) (hv : MV mt mv mx s (some q)) (hL : L.length + (plB K q).length ≤ 60000) (h : MOut md mdd L) : ∃ md' mdd', p_X6_plain (nI s) (nI K) mv mx md mdd = some (md', mdd') ∧ MOut md' mdd' (L ++ plB K q) := by
  have v2 : mv s = q.1 := hv.2.1
  unfold p_X6_plain
  unfold plB at hL ⊢
  rw [List.length_append, litB_len] at hL
  by_cases h2 : K = 2
  · subst h2
    obtain ⟨md1, mdd1, e1, g1⟩ := M_lit (w := q.1) (N := 4) (by omega) (by simp at hL; omega) h
    obtain ⟨md2, mdd2, e2, g2⟩ := M_letters hs hq hv (by rw [List.length_append, litB_len]; simp at hL; omega) g1
    refine ⟨md2, mdd2, ?_, by rw [if_neg (by omega), ← List.append_assoc]; exact g2⟩
    rw [if_pos rfl, inbI (by omega), gdD (by omega), ixI (by omega), v2, e1, bdS2, e2, bdS2]
  · have q2 := hq.2.2
    rw [if_neg h2] at q2
    rw [if_neg (by rw [eqI (by omega) (by omega)]; omega), inbI (by omega), gdD (by omega), ixI (by omega), v2, q2, List.append_nil]
    by_cases h1 : K = 1
    · subst h1
      obtain ⟨md1, mdd1, e1, g1⟩ := M_lit (w := q.1) (N := 8) (by omega) (by simp at hL; omega) h
      refine ⟨md1, mdd1, ?_, g1⟩
      rw [if_neg (by decide), e1, bdS2]
    · have : K = 0 := by omega
      subst this
      obtain ⟨md1, mdd1, e1, g1⟩ := M_lit (w := q.1) (N := 4) (by omega) (by simp at hL; omega) h
      refine ⟨md1, mdd1, ?_, g1⟩
      rw [if_pos rfl, e1, bdS2]
