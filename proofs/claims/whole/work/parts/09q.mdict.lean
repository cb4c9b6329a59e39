/-! the reference's dictionary -/
theorem idx_at {q : TV} : ∀ (D : List TV) (k : Nat), (∀ (j : Nat) (h : j < D.length), j < k → D[j] ≠ q) → (k = D.length ∨ ∃ h : k < D.length, D[k] = q) → D.idxOf q = k := by
  intro D
  induction D with
  | nil =>
    intro k h1 h2
    rcases h2 with h2 | ⟨h, _⟩
    · subst h2; rfl
    · simp at h
  | cons d D ih =>
    intro k h1 h2
    rw [List.idxOf_cons]
    cases k with
    | zero =>
      rcases h2 with h2 | ⟨h, e⟩
      · simp at h2
      · have e' : d = q := e
        rw [e']
        simp
    | succ k =>
      have hne : d ≠ q := h1 0 (by simp) (by omega)
      have hb : (d == q) = false := by simpa using hne
      rw [hb, cond_false]
      congr 1
      refine ih k (fun j hj hjk => h1 (j + 1) (by simp; omega) (by omega)) ?_
      rcases h2 with h2 | ⟨h, e⟩
      · left; simpa using h2
      · right; exact ⟨by simpa using h, e⟩
def MCol (mt : Nat → Int32) (mv : Nat → Int64) (mx : Nat → Int32) (c : Nat) (vals : List AV) : Prop := ∀ (j : Nat) (h : j < vals.length), MV mt mv mx (200 * c + j) vals[j]
def MDic (mt : Nat → Int32) (mv : Nat → Int64) (mx : Nat → Int32) (D : List TV) : Prop := ∀ (j : Nat) (h : j < D.length), MV mt mv mx (1000 + j) (some D[j])
/-- what lies below slot n stays -/
def MFr (n : Nat) (mt : Nat → Int32) (mv : Nat → Int64) (mx : Nat → Int32) (mt' : Nat → Int32) (mv' : Nat → Int64) (mx' : Nat → Int32) : Prop := ∀ s, s < n → ∀ a, MV mt mv mx s a → MV mt' mv' mx' s a
theorem MFr.rf {n : Nat} {mt : Nat → Int32} {mv : Nat → Int64} {mx : Nat → Int32} : MFr n mt mv mx mt mv mx := fun _ _ _ h => h
theorem MFr.tr {n : Nat} {mt mt1 mt2 : Nat → Int32} {mv mv1 mv2 : Nat → Int64} {mx mx1 mx2 : Nat → Int32} (h1 : MFr n mt mv mx mt1 mv1 mx1) (h2 : MFr n mt1 mv1 mx1 mt2 mv2 mx2) : MFr n mt mv mx mt2 mv2 mx2 := fun s hs a h => h2 s hs a (h1 s hs a h)
theorem MFr.col {n c : Nat} {mt mt1 : Nat → Int32} {mv mv1 : Nat → Int64} {mx mx1 : Nat → Int32} {vals : List AV} (h1 : MFr n mt mv mx mt1 mv1 mx1) (h : MCol mt mv mx c vals) (hc : 200 * c + vals.length ≤ n) : MCol mt1 mv1 mx1 c vals := fun j hj => h1 _ (by omega) _ (h j hj)
theorem M_find_L {s K : Nat} {mm mt : Nat → Int32} {mv : Nat → Int64} {mx : Nat → Int32} {D : List TV} {q : TV} {k70 : Int32 → Option ((Nat → Int32) × (Nat → Int32) × (Nat → Int64) × (Nat → Int32) × (Nat → Int32))} (hs : s < 1400) (hD : D.length ≤ 200) (hm : mm 5 = nI D.length) (hd : MDic mt mv mx D) (hv : MV mt mv mx s (some q)) (wq : wfv K (some q)) (wd : ∀ d ∈ D, wfv K (some d)) :
    ∀ (m n k : Nat), D.length - k = m → k ≤ D.length → m < n → (∀ (j : Nat) (h : j < D.length), j < k → D[j] ≠ q) → itr1 (p_X6_makeDictionary_L39 (nI s) mm mt mv mx k70) n (nI k) = k70 (nI (D.idxOf q)) := by
  intro m
  induction m with
  | zero =>
    intro n k h1 h2 h3 h4
    have : k = D.length := by omega
    subst this
    cases n with
    | zero => omega
    | succ n =>
      show p_X6_makeDictionary_L39 (nI s) mm mt mv mx k70 _ (nI D.length) = _
      rw [p_X6_makeDictionary_L39, gdT (by decide), show ix (nI 5) = 5 from rfl, hm, if_neg (by rw [ltI (by omega) (by omega)]; omega), idx_at D D.length h4 (Or.inl rfl)]
  | succ m ih =>
    intro n k h1 h2 h3 h4
    cases n with
    | zero => omega
    | succ n =>
      have hk : k < D.length := by omega
      show p_X6_makeDictionary_L39 (nI s) mm mt mv mx k70 _ (nI k) = _
      rw [p_X6_makeDictionary_L39, gdT (by decide), show ix (nI 5) = 5 from rfl, hm, if_pos (by rw [ltI (by omega) (by omega)]; omega), addI, M_areLike (show 1000 + k < 1400 by omega) hs (wd _ (List.getElem_mem hk)) wq (hd k hk) hv, bdS1, addI]
      by_cases e : D[k] = q
      · rw [if_neg (fun h => (cast if1 h) (by rw [e])), idx_at D k h4 (Or.inr ⟨hk, e⟩)]
      · rw [if_pos (cast if1.symm (fun h => e (Option.some.inj h)))]
        refine ih n (k + 1) (by omega) (by omega) (by omega) (fun j hj hjk => ?_)
        by_cases hjk2 : j = k
        · subst hjk2; exact e
        · exact h4 j hj (by omega)
theorem M_dict_L {c K : Nat} {vals : List AV} (hc : c < 5) (hl : vals.length ≤ 200) (hw : ∀ a ∈ vals, wfv K a) : ∀ (m n i : Nat) (mm mt : Nat → Int32) (mv : Nat → Int64) (mx mpl : Nat → Int32), vals.length - i = m → i ≤ vals.length → m < n → mm c = nI vals.length → MCol mt mv mx c vals → mm 5 = nI (DL (tq (vals.take i))).length → MDic mt mv mx (DL (tq (vals.take i))) → PLC mpl vals (DL (tq (vals.take i))) i → ∃ mt' mv' mx' mpl', itr6 (p_X6_makeDictionary_L9 (nI c)) n (nI i) mm mt mv mx mpl = some (up mm 5 (nI (DL (tq vals)).length), mt', mv', mx', mpl') ∧ MDic mt' mv' mx' (DL (tq vals)) ∧ PLC mpl' vals (DL (tq vals)) vals.length ∧ MFr 1000 mt mv mx mt' mv' mx' := by
  intro m
  induction m with
  | zero =>
    intro n i mm mt mv mx mpl h1 h2 h3 hm hv h5 hd hp
    have : i = vals.length := by omega
    subst this
    cases n with
    | zero => omega
    | succ n =>
      rw [List.take_length] at h5 hd hp
      refine ⟨mt, mv, mx, mpl, ?_, hd, hp, MFr.rf⟩
      show p_X6_makeDictionary_L9 (nI c) _ (nI vals.length) mm mt mv mx mpl = _
      rw [p_X6_makeDictionary_L9, inbI (by omega), gdD (by omega), ixI (by omega), hm, if_neg (by rw [ltI (by omega) (by omega)]; omega), ← h5, up_id]
  | succ m ih =>
    intro n i mm mt mv mx mpl h1 h2 h3 hm hv h5 hd hp
    cases n with
    | zero => omega
    | succ n =>
      have hi : i < vals.length := by omega
      have htk := take_snoc hi
      have hdl := DL_len (tq (vals.take i))
      have hql := tq_le (vals.take i)
      rw [List.length_take] at hql
      show ∃ mt' mv' mx' mpl', p_X6_makeDictionary_L9 (nI c) _ (nI i) mm mt mv mx mpl = _ ∧ _
      rw [p_X6_makeDictionary_L9, inbI (by omega), gdD (by omega), ixI (by omega), hm, if_pos (by rw [ltI (by omega) (by omega)]; omega), mulI, addI, inbI (by omega), gdD (by omega), ixI (by omega), (hv i hi).1, addI]
      cases ha : vals[i] with
      | none =>
        have eD : DL (tq (vals.take (i + 1))) = DL (tq (vals.take i)) := by rw [← htk, ha, tq_snoc_none]
        rw [if_pos th0]
        exact ih n (i + 1) mm mt mv mx mpl (by omega) (by omega) (by omega) hm hv (by rw [eD]; exact h5) (by rw [eD]; exact hd) (fun t ht hti q hq => by
          have hne : t ≠ i := fun e => by subst e; rw [ha] at hq; cases hq
          rw [eD]
          exact hp t ht (by omega) q hq)
      | some q =>
        have hvi := hv i hi
        rw [ha] at hvi
        have hwq : wfv K (some q) := by rw [← ha]; exact hw _ (List.getElem_mem hi)
        have hwd : ∀ d ∈ DL (tq (vals.take i)), wfv K (some d) := fun d hd => hw _ (List.mem_of_mem_take (tq_mem.mp ((DL_mem _ _).mp hd)))
        have eDs : DL (tq (vals.take (i + 1))) = dstp (DL (tq (vals.take i))) q := by rw [← htk, ha, tq_snoc_some, DL_snoc]
        rw [if_neg (th1 q), M_find_L (s := 200 * c + i) (K := K) (by omega) (by omega) h5 hd hvi hwq hwd (DL (tq (vals.take i))).length fu 0 (by omega) (by omega) (by rw [fu_eq]; omega) (fun j _ h => by omega), p_X6_makeDictionary_J70, gdT (by decide), show ix (nI 5) = 5 from rfl, h5, addI]
        by_cases hin : q ∈ DL (tq (vals.take i))
        · have hlt := idx_lt hin
          have eD : DL (tq (vals.take (i + 1))) = DL (tq (vals.take i)) := by rw [eDs]; unfold dstp; rw [if_pos hin]
          rw [if_neg (by rw [eqI (by omega) (by omega)]; omega), inbI (by omega), gdD (by omega), ixI (by omega), addI]
          exact ih n (i + 1) mm mt mv mx (up mpl i (nI ((DL (tq (vals.take i))).idxOf q))) (by omega) (by omega) (by omega) hm hv (by rw [eD]; exact h5) (by rw [eD]; exact hd) (fun t ht hti q' hq' => by
            rw [eD]
            by_cases hne : t = i
            · subst hne
              rw [ha] at hq'
              cases hq'
              rw [up_s]
            · rw [up_n hne]
              exact hp t ht (by omega) q' hq')
        · have hidx : (DL (tq (vals.take i))).idxOf q = (DL (tq (vals.take i))).length := idx_at _ _ (fun j hj _ e => hin (by rw [← e]; exact List.getElem_mem hj)) (Or.inl rfl)
          have eD : DL (tq (vals.take (i + 1))) = DL (tq (vals.take i)) ++ [q] := by rw [eDs]; unfold dstp; rw [if_neg hin]
          have hidx2 : (DL (tq (vals.take i)) ++ [q]).idxOf q = (DL (tq (vals.take i))).length := by
            rw [List.idxOf_append, if_neg hin]
            simp
          have hfr : MFr 1000 mt mv mx (up mt (1000 + (DL (tq (vals.take i))).length) (nI (th (some q)))) (up mv (1000 + (DL (tq (vals.take i))).length) (nu (some q))) (wr mx (40 * (1000 + (DL (tq (vals.take i))).length)) (l40 (le (some q)))) := fun s hs a h => MV_wr_n (by omega) h
          obtain ⟨mt', mv', mx', mpl', e1, g1, g2, g3⟩ := ih n (i + 1) (up mm 5 (nI ((DL (tq (vals.take i))).length + 1))) _ _ _ (up mpl i (nI (DL (tq (vals.take i))).length)) (by omega) (by omega) (by omega) (by rw [up_n (show c ≠ 5 by omega)]; exact hm) (hfr.col hv (by omega)) (by rw [eD, up_s, List.length_append]; rfl) (by
            rw [eD]
            intro j hj
            rw [List.length_append, List.length_cons, List.length_nil] at hj
            by_cases hjl : j < (DL (tq (vals.take i))).length
            · rw [List.getElem_append_left hjl]
              exact MV_wr_n (by omega) (hd j hjl)
            · have : j = (DL (tq (vals.take i))).length := by omega
              subst this
              rw [List.getElem_concat_length]
              exact MV_wr (some q)
              rfl) (fun t ht hti q' hq' => by
            rw [eD]
            by_cases hne : t = i
            · subst hne
              rw [ha] at hq'
              cases hq'
              rw [up_s, hidx2]
            · rw [up_n hne, hp t ht (by omega) q' hq', idx_pre]
              exact (DL_mem _ _).mpr (tq_mem.mpr (mem_take.mpr ⟨t, ht, by omega, hq'⟩)))
          refine ⟨mt', mv', mx', mpl', ?_, g1, g2, hfr.tr g3⟩
          rw [hidx, if_pos rfl, addI, M_copies (show 1000 + (DL (tq (vals.take i))).length < 1400 by omega) (show 200 * c + i < 1400 by omega) hwq.2.1 hvi, bdS3, gdT (by decide), gdT (by decide), inbI (by omega), gdD (by omega), ixI (by omega), addI]
          refine e1.trans ?_
          rw [up_up]
theorem M_dict {c K : Nat} {vals : List AV} {mm mt : Nat → Int32} {mv : Nat → Int64} {mx mpl : Nat → Int32} (hc : c < 5) (hl : vals.length ≤ 200) (hw : ∀ a ∈ vals, wfv K a) (hm : mm c = nI vals.length) (hv : MCol mt mv mx c vals) : ∃ mt' mv' mx' mpl', p_X6_makeDictionary (nI c) mm mt mv mx mpl = some (up mm 5 (nI (DL (tq vals)).length), mt', mv', mx', mpl') ∧ MDic mt' mv' mx' (DL (tq vals)) ∧ PLC mpl' vals (DL (tq vals)) vals.length ∧ MFr 1000 mt mv mx mt' mv' mx' := by
  obtain ⟨mt', mv', mx', mpl', e1, g⟩ := M_dict_L hc hl hw vals.length fu 0 (up mm 5 (nI 0)) mt mv mx mpl (by omega) (by omega) (by rw [fu_eq]; omega) (by rw [up_n (show c ≠ 5 by omega)]; exact hm) hv (by rw [up_s]; rfl) (fun j h => by simp [DL, tq] at h) (fun t _ h => by omega)
  refine ⟨mt', mv', mx', mpl', ?_, g⟩
  unfold p_X6_makeDictionary
  rw [gdT (by decide), show ix (nI 5) = 5 from rfl]
  refine e1.trans ?_
  rw [up_up]
