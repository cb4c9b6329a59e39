/-! values that are alike; unlike values in the order in which they come first -/
theorem and255_inj {x y : Int32} (hx : b8 x = x) (hy : b8 y = y) (h : x &&& nI 255 = y &&& nI 255) : x = y := by
  rw [← hx, ← hy, ← b8_and x, ← b8_and y, h]
theorem drop_cons {α : Type} {l : List α} {k : Nat} (h : k < l.length) : l.drop k = l[k] :: l.drop (k + 1) := List.drop_eq_getElem_cons h
theorem X_same_L {c i c2 j : Nat} {xl : Nat → Nat → Int32} {la lb : List Int32} (hi : i < 200) (hj : j < 200) (hla : la.length ≤ 40) (hlen : lb.length = la.length) (ha : b8L la) (hb : b8L lb) (xa : ∀ (k : Nat) (h : k < la.length), xl c (i * 40 + k) = la[k]) (xb : ∀ (k : Nat) (h : k < lb.length), xl c2 (j * 40 + k) = lb[k]) : ∀ (m n k : Nat), la.length - k = m → k ≤ la.length → m < n → itr1 (p_X0_isSame_L49 c (nI i) c2 (nI j) (lN la.length) xl) n (nI k) = some (nI (if la.drop k = lb.drop k then 1 else 0)) := by
  intro m
  induction m with
  | zero =>
    intro n k h1 h2 h3
    have : k = la.length := by omega
    subst this
    cases n with
    | zero => omega
    | succ n =>
      show p_X0_isSame_L49 c (nI i) c2 (nI j) (lN la.length) xl _ (nI la.length) = _
      rw [p_X0_isSame_L49, i2lI (by omega), if_neg (show ¬ lN la.length < lN la.length by rw [ltL (by omega) (by omega)]; omega)]
      have e1 : la.drop la.length = [] := List.drop_length
      have e2 : lb.drop la.length = [] := by rw [← hlen]; exact List.drop_length
      rw [e1, e2, if_pos (rfl : ([] : List Int32) = [])]
      split <;> rfl
  | succ m ih =>
    intro n k h1 h2 h3
    cases n with
    | zero => omega
    | succ n =>
      have ka : k < la.length := by omega
      have kb : k < lb.length := by omega
      show p_X0_isSame_L49 c (nI i) c2 (nI j) (lN la.length) xl _ (nI k) = _
      rw [p_X0_isSame_L49, if_pos (by rw [ltI (by omega) (by omega)]; omega), i2lI (by omega), if_pos (by rw [ltL (by omega) (by omega)]; omega), X_letterAt hi (by omega), bdS1, X_letterAt hj (by omega), bdS1, xa k ka, xb k kb, drop_cons ka, drop_cons kb]
      by_cases e : la[k] = lb[k]
      · rw [if_pos (by rw [e]), addI, ih n (k + 1) (by omega) (by omega) (by omega)]
        by_cases e2 : la.drop (k + 1) = lb.drop (k + 1)
        · rw [if_pos e2, if_pos (by rw [e, e2])]
        · rw [if_neg e2, if_neg (fun q => e2 (List.cons.inj q).2)]
      · rw [if_neg (fun q => e (and255_inj (ha _ (List.getElem_mem ka)) (hb _ (List.getElem_mem kb)) q)), if_neg (fun q => e (List.cons.inj q).1)]
theorem av_eq {a b : AV} (h1 : th a = th b) (h2 : nu a = nu b) (h3 : le a = le b) : a = b := by
  cases a with
  | none =>
    cases b with
    | none => rfl
    | some q => simp [th] at h1
  | some p =>
    cases b with
    | none => simp [th] at h1
    | some q =>
      obtain ⟨p1, p2⟩ := p
      obtain ⟨q1, q2⟩ := q
      simp only [nu, le] at h2 h3
      rw [h2, h3]
theorem X_isSame {c i c2 j K : Nat} {xk : Nat → Int32} {xt : Nat → Nat → Int32} {xn : Nat → Nat → Int64} {xl : Nat → Nat → Int32} {a b : AV} (hi : i < 200) (hj : j < 200) (hK : xk c = nI K) (hK3 : K ≤ 3) (ha : XV xt xn xl c i a) (hb : XV xt xn xl c2 j b) (wa : wfv K a) (wb : wfv K b) : p_X0_isSame c (nI i) c2 (nI j) xk xt xn xl = some (nI (if a = b then 1 else 0)) := by
  have ta := th_le a
  have tb := th_le b
  unfold p_X0_isSame
  rw [X_isThere ha.1 ta hi, bdS1, X_isThere hb.1 tb hj, bdS1]
  by_cases h1 : th a = th b
  · rw [if_pos (by rw [h1]), X_numberAt hi, bdS1, X_numberAt hj, bdS1, ha.2.1, hb.2.1]
    by_cases h2 : nu a = nu b
    · rw [if_pos h2, hK]
      by_cases hk : K = 2
      · subst hk
        have na := wfv_num wa
        have nb := wfv_num wb
        have hl : (le b).length = (le a).length := by
          have e : lN (le a).length = lN (le b).length := by rw [← na, ← nb, h2]
          have l1 := wa.1
          have l2 := wb.1
          rw [eqL (by omega) (by omega)] at e
          exact e.symm
        have l1 := wa.1
        rw [if_pos rfl, bdS1, na, X_same_L hi hj wa.1 hl wa.2.1 wb.2.1 ha.2.2 hb.2.2 (le a).length fu 0 (by omega) (by omega) (by rw [fu_eq]; omega)]
        rw [List.drop_zero, List.drop_zero]
        by_cases h3 : le a = le b
        · rw [if_pos h3, if_pos (av_eq h1 h2 h3)]
        · rw [if_neg h3, if_neg (fun q => h3 (by rw [q]))]
      · rw [if_neg (by rw [eqI (by omega) (by omega)]; exact hk), if_pos (av_eq h1 h2 (by rw [wfv_no wa hk, wfv_no wb hk]))]
    · rw [if_neg h2, if_neg (fun q => h2 (by rw [q]))]
  · rw [if_neg (by rw [eqI (by omega) (by omega)]; exact h1), if_neg (fun q => h1 (by rw [q]))]
theorem if1 {p : Prop} {dec : Decidable p} : (nI (@ite Nat p dec 1 0) = nI 0) = ¬ p := by
  by_cases h : p
  · rw [if_pos h]
    exact propext ⟨fun e => absurd e (by decide), fun e => absurd h e⟩
  · rw [if_neg h]
    exact propext ⟨fun _ => h, fun _ => rfl⟩
theorem X_first_L {c i K : Nat} {xk : Nat → Int32} {xt : Nat → Nat → Int32} {xn : Nat → Nat → Int64} {xl : Nat → Nat → Int32} {vals : List AV} (hl : vals.length ≤ 200) (hi : i < vals.length) (hK : xk c = nI K) (hK3 : K ≤ 3) (hv : ∀ (j : Nat) (h : j < vals.length), XV xt xn xl c j vals[j]) (hw : ∀ a ∈ vals, wfv K a) : ∀ (m n k : Nat), i - k = m → k ≤ i → m < n → (∀ (t : Nat) (h : t < vals.length), t < k → vals[t] ≠ vals[i]) → ∃ (j : Nat) (hj : j < vals.length), itr1 (p_X0_firstLike_L2 c (nI i) xk xt xn xl) n (nI k) = some (nI j) ∧ j ≤ i ∧ vals[j] = vals[i] ∧ ∀ (t : Nat) (h : t < vals.length), t < j → vals[t] ≠ vals[i] := by
  intro m
  induction m with
  | zero =>
    intro n k h1 h2 h3 h
    have : k = i := by omega
    subst this
    cases n with
    | zero => omega
    | succ n =>
      refine ⟨k, hi, ?_, Nat.le_refl _, rfl, h⟩
      show p_X0_firstLike_L2 c (nI k) xk xt xn xl _ (nI k) = _
      rw [p_X0_firstLike_L2, if_neg (by rw [ltI (by omega) (by omega)]; omega)]
  | succ m ih =>
    intro n k h1 h2 h3 h
    cases n with
    | zero => omega
    | succ n =>
      have hk : k < vals.length := by omega
      show ∃ (j : Nat) (hj : j < vals.length), p_X0_firstLike_L2 c (nI i) xk xt xn xl _ (nI k) = _ ∧ _
      rw [p_X0_firstLike_L2, if_pos (by rw [ltI (by omega) (by omega)]; omega), X_isSame (by omega) (by omega) hK hK3 (hv k hk) (hv i hi) (hw _ (List.getElem_mem hk)) (hw _ (List.getElem_mem hi)), bdS1]
      by_cases e : vals[k] = vals[i]
      · rw [if_neg (by rw [if1]; exact fun q => q e)]
        exact ⟨k, hk, rfl, h2, e, h⟩
      · rw [if_pos (by rw [if1]; exact e), addI]
        exact ih n (k + 1) (by omega) (by omega) (by omega) (fun t ht htk => by
          by_cases et : t = k
          · subst et; exact e
          · exact h t ht (by omega))
theorem X_first {c i K : Nat} {xk : Nat → Int32} {xt : Nat → Nat → Int32} {xn : Nat → Nat → Int64} {xl : Nat → Nat → Int32} {vals : List AV} (hl : vals.length ≤ 200) (hi : i < vals.length) (hK : xk c = nI K) (hK3 : K ≤ 3) (hv : ∀ (j : Nat) (h : j < vals.length), XV xt xn xl c j vals[j]) (hw : ∀ a ∈ vals, wfv K a) : ∃ (j : Nat) (hj : j < vals.length), p_X0_firstLike c (nI i) xk xt xn xl = some (nI j) ∧ j ≤ i ∧ vals[j] = vals[i] ∧ ∀ (t : Nat) (h : t < vals.length), t < j → vals[t] ≠ vals[i] := by
  unfold p_X0_firstLike
  exact X_first_L hl hi hK hK3 hv hw i fu 0 (by omega) (by omega) (by rw [fu_eq]; omega) (fun t _ h => by omega)
def dstp (D : List TV) (q : TV) : List TV := if q ∈ D then D else D ++ [q]
def DL (l : List TV) : List TV := l.foldl dstp []
theorem DL_snoc (l : List TV) (q : TV) : DL (l ++ [q]) = dstp (DL l) q := by
  unfold DL
  rw [List.foldl_append]
  rfl
theorem DL_mem (l : List TV) : ∀ q, q ∈ DL l ↔ q ∈ l := by
  have key : ∀ (l D : List TV) (q : TV), q ∈ l.foldl dstp D ↔ q ∈ D ∨ q ∈ l := by
    intro l
    induction l with
    | nil => intro D q; simp
    | cons a l ih =>
      intro D q
      rw [List.foldl_cons, ih, List.mem_cons]
      unfold dstp
      split
      · next h =>
        constructor
        · rintro (h1 | h1)
          · exact Or.inl h1
          · exact Or.inr (Or.inr h1)
        · rintro (h1 | rfl | h1)
          · exact Or.inl h1
          · exact Or.inl h
          · exact Or.inr h1
      · rw [List.mem_append, List.mem_singleton]
        constructor
        · rintro ((h1 | h1) | h1)
          · exact Or.inl h1
          · exact Or.inr (Or.inl h1)
          · exact Or.inr (Or.inr h1)
        · rintro (h1 | h1 | h1)
          · exact Or.inl (Or.inl h1)
          · exact Or.inl (Or.inr h1)
          · exact Or.inr h1
  intro q
  unfold DL
  rw [key]
  simp
theorem DL_len (l : List TV) : (DL l).length ≤ l.length := by
  have key : ∀ (l D : List TV), (l.foldl dstp D).length ≤ D.length + l.length := by
    intro l
    induction l with
    | nil => intro D; simp
    | cons a l ih =>
      intro D
      rw [List.foldl_cons, List.length_cons]
      have h := ih (dstp D a)
      have h2 : (dstp D a).length ≤ D.length + 1 := by
        unfold dstp
        split
        · omega
        · simp
      omega
  have := key l []
  simpa [DL] using this
theorem DL_pre (l m : List TV) : ∃ e, DL (l ++ m) = DL l ++ e := by
  have key : ∀ (m D : List TV), ∃ e, m.foldl dstp D = D ++ e := by
    intro m
    induction m with
    | nil => intro D; exact ⟨[], by simp⟩
    | cons a m ih =>
      intro D
      rw [List.foldl_cons]
      obtain ⟨e, he⟩ := ih (dstp D a)
      rw [he]
      unfold dstp
      split
      · exact ⟨e, rfl⟩
      · exact ⟨[a] ++ e, by rw [List.append_assoc]⟩
  unfold DL
  rw [List.foldl_append]
  exact key m _
theorem idx_pre {D e : List TV} {q : TV} (h : q ∈ D) : (D ++ e).idxOf q = D.idxOf q := by
  rw [List.idxOf_append, if_pos h]
theorem idx_lt {D : List TV} {q : TV} (h : q ∈ D) : D.idxOf q < D.length := List.idxOf_lt_length_of_mem h
theorem tq_snoc_none (l : List AV) : tq (l ++ [none]) = tq l := by simp [tq]
theorem tq_snoc_some (l : List AV) (q : TV) : tq (l ++ [some q]) = tq l ++ [q] := by simp [tq]
theorem tq_mem {l : List AV} {q : TV} : q ∈ tq l ↔ some q ∈ l := by simp [tq]
theorem mem_take {α : Type} {l : List α} {a : α} {i : Nat} : a ∈ l.take i ↔ ∃ (j : Nat) (h : j < l.length), j < i ∧ l[j] = a := by
  constructor
  · intro h
    obtain ⟨j, hj, e⟩ := List.getElem_of_mem h
    rw [List.length_take] at hj
    rw [List.getElem_take] at e
    exact ⟨j, by omega, by omega, e⟩
  · rintro ⟨j, h, hi, rfl⟩
    have : j < (l.take i).length := by rw [List.length_take]; omega
    have e : (l.take i)[j] = l[j] := List.getElem_take
    rw [← e]
    exact List.getElem_mem this
def PLC (wpl : Nat → Int32) (vals : List AV) (D : List TV) (i : Nat) : Prop := ∀ (t : Nat) (h : t < vals.length), t < i → ∀ q, vals[t] = some q → wpl t = nI (D.idxOf q)
theorem X_unlike_L {c K : Nat} {xk xc : Nat → Int32} {xt : Nat → Nat → Int32} {xn : Nat → Nat → Int64} {xl : Nat → Nat → Int32} {vals : List AV} (hl : vals.length ≤ 200) (hc : xc c = nI vals.length) (hK : xk c = nI K) (hK3 : K ≤ 3) (hv : ∀ (j : Nat) (h : j < vals.length), XV xt xn xl c j vals[j]) (hw : ∀ a ∈ vals, wfv K a) : ∀ (m n i : Nat) (wch wpl : Nat → Int32) (cs : CS), vals.length - i = m → i ≤ vals.length → m < n → cs.map Prod.snd = DL (tq (vals.take i)) → CHW wch cs → CHV xn xl c cs → PLC wpl vals (DL (tq (vals.take i))) i → ∃ wch' wpl' cs', itr4 (p_X2_chooseUnlike_L7 c xk xc xt xn xl) n (nI i) wch (nI cs.length) wpl = some (wch', nI cs'.length, wpl', nI cs'.length) ∧ cs'.map Prod.snd = DL (tq vals) ∧ CHW wch' cs' ∧ CHV xn xl c cs' ∧ PLC wpl' vals (DL (tq vals)) vals.length := by
  intro m
  induction m with
  | zero =>
    intro n i wch wpl cs h1 h2 h3 g1 g2 g3 g4
    have : i = vals.length := by omega
    subst this
    cases n with
    | zero => omega
    | succ n =>
      rw [List.take_length] at g1 g4
      refine ⟨wch, wpl, cs, ?_, g1, g2, g3, g4⟩
      show p_X2_chooseUnlike_L7 c xk xc xt xn xl _ (nI vals.length) wch (nI cs.length) wpl = _
      rw [p_X2_chooseUnlike_L7, hc, if_neg (show ¬ nI vals.length < nI vals.length by rw [ltI (by omega) (by omega)]; omega)]
  | succ m ih =>
    intro n i wch wpl cs h1 h2 h3 g1 g2 g3 g4
    cases n with
    | zero => omega
    | succ n =>
      have hi : i < vals.length := by omega
      have hcl : cs.length ≤ i := by
        have e : cs.length = (DL (tq (vals.take i))).length := by rw [← g1, List.length_map]
        have e1 := DL_len (tq (vals.take i))
        have e2 := tq_le (vals.take i)
        rw [List.length_take] at e2
        omega
      have htk := take_snoc hi
      show ∃ wch' wpl' cs', p_X2_chooseUnlike_L7 c xk xc xt xn xl _ (nI i) wch (nI cs.length) wpl = _ ∧ _
      rw [p_X2_chooseUnlike_L7, hc, if_pos (by rw [ltI (by omega) (by omega)]; omega), if_pos (by rw [ltI (by omega) (by omega)]; omega), inbI (by omega), gdD (by omega), ixI (by omega), X_isThere (hv i hi).1 (th_le _) (by omega), bdS1]
      cases ha : vals[i] with
      | none =>
        have eD : DL (tq (vals.take (i + 1))) = DL (tq (vals.take i)) := by rw [← htk, ha, tq_snoc_none]
        rw [if_pos th0, p_X2_chooseUnlike_J48, if_pos (by decide), p_X2_chooseUnlike_J73, if_neg (by
          intro q
          have e := congrArg Int32.toInt q
          rw [nI_toInt (by omega)] at e
          have e2 : (-1 : Int32).toInt = -1 := by decide
          omega), addI]
        exact ih n (i + 1) _ _ cs (by omega) (by omega) (by omega) (by rw [eD]; exact g1) g2 g3 (fun t ht hti q hq => by
          have hne : t ≠ i := fun e => by subst e; rw [ha] at hq; cases hq
          rw [up_n hne, eD]
          exact g4 t ht (by omega) q hq)
      | some q =>
        obtain ⟨j, hj, e1, hji, e2, e3⟩ := X_first hl hi hK hK3 hv hw
        rw [if_neg (th1 q), e1, bdS1, p_X2_chooseUnlike_J48, if_neg (by rw [ltI (by omega) (by omega)]; omega)]
        have hqm : q ∈ tq (vals.take i) ↔ j < i := by
          rw [tq_mem, mem_take]
          constructor
          · rintro ⟨t, ht, hti, e⟩
            apply Nat.lt_of_not_le
            intro hle
            have : j = i := by omega
            subst this
            exact e3 t ht hti (by rw [e, ha])
          · intro h
            exact ⟨j, hj, h, by rw [e2, ha]⟩
        have eDs : DL (tq (vals.take (i + 1))) = dstp (DL (tq (vals.take i))) q := by rw [← htk, ha, tq_snoc_some, DL_snoc]
        by_cases hlt : j < i
        · have hin : q ∈ DL (tq (vals.take i)) := (DL_mem _ _).mpr (hqm.mpr hlt)
          have eD : DL (tq (vals.take (i + 1))) = DL (tq (vals.take i)) := by rw [eDs]; unfold dstp; rw [if_pos hin]
          rw [if_pos (by rw [ltI (by omega) (by omega)]; omega), inbI (by omega), gdD (by omega), inbI (by omega), gdD (by omega), ixI (by omega), ixI (by omega), up_n (show j ≠ i by omega), up_up, addI]
          rw [g4 j hj hlt q (by rw [e2, ha])]
          exact ih n (i + 1) _ _ cs (by omega) (by omega) (by omega) (by rw [eD]; exact g1) g2 g3 (fun t ht hti q' hq' => by
            rw [eD]
            by_cases hne : t = i
            · subst hne
              rw [ha] at hq'
              cases hq'
              rw [up_s]
            · rw [up_n hne]
              exact g4 t ht (by omega) q' hq')
        · have hji2 : j = i := by omega
          subst hji2
          have hnin : q ∉ DL (tq (vals.take j)) := fun h => hlt (hqm.mp ((DL_mem _ _).mp h))
          have eD : DL (tq (vals.take (j + 1))) = DL (tq (vals.take j)) ++ [q] := by rw [eDs]; unfold dstp; rw [if_neg hnin]
          have hidx : (DL (tq (vals.take j)) ++ [q]).idxOf q = cs.length := by
            rw [List.idxOf_append, if_neg hnin, ← g1, List.length_map]
            simp
          rw [if_neg (by rw [ltI (by omega) (by omega)]; omega), p_X2_chooseUnlike_J73, if_pos rfl, if_neg (by rw [ltI (by omega) (by omega)]; omega), if_pos (by rw [ltI (by omega) (by omega)]; omega), inbI (by omega), gdD (by omega), inbI (by omega), gdD (by omega), ixI (by omega), ixI (by omega), up_up, addI, addI]
          have hcv : CHV xn xl c (cs ++ [(j, q)]) := by
            intro t ht
            by_cases htc : t < cs.length
            · have e : (cs ++ [(j, q)])[t] = cs[t] := List.getElem_append_left htc
              rw [e]
              exact g3 t htc
            · simp only [List.length_append, List.length_cons, List.length_nil] at ht
              have : t = cs.length := by omega
              subst this
              have e : (cs ++ [(j, q)])[cs.length] = (j, q) := by simp
              rw [e]
              have hvj := hv j hj
              rw [ha] at hvj
              exact ⟨hvj.2.1, hvj.2.2⟩
          have hlen1 : (cs ++ [(j, q)]).length = cs.length + 1 := by simp
          have := ih n (j + 1) (up wch cs.length (nI j)) (up wpl j (nI cs.length)) (cs ++ [(j, q)]) (by omega) (by omega) (by omega) (by rw [eD, List.map_append, g1]; rfl) (g2.snoc q (show j < 200 by omega)) hcv (fun t ht hti q' hq' => by
            rw [eD]
            by_cases hne : t = j
            · subst hne
              rw [ha] at hq'
              cases hq'
              rw [up_s, hidx]
            · rw [up_n hne, g4 t ht (by omega) q' hq', idx_pre]
              exact (DL_mem _ _).mpr (tq_mem.mpr (mem_take.mpr ⟨t, ht, by omega, hq'⟩)))
          rw [hlen1] at this
          exact this
theorem X_unlike {c K : Nat} {xk xc : Nat → Int32} {xt : Nat → Nat → Int32} {xn : Nat → Nat → Int64} {xl : Nat → Nat → Int32} {vals : List AV} {wch wpl : Nat → Int32} {wcc wun : Int32} (hl : vals.length ≤ 200) (hc : xc c = nI vals.length) (hK : xk c = nI K) (hK3 : K ≤ 3) (hv : ∀ (j : Nat) (h : j < vals.length), XV xt xn xl c j vals[j]) (hw : ∀ a ∈ vals, wfv K a) : ∃ wch' wpl' cs', p_X2_chooseUnlike c xk xc xt xn xl wch wcc wpl wun = some (wch', nI cs'.length, wpl', nI cs'.length) ∧ cs'.map Prod.snd = DL (tq vals) ∧ CHW wch' cs' ∧ CHV xn xl c cs' ∧ PLC wpl' vals (DL (tq vals)) vals.length := by
  unfold p_X2_chooseUnlike
  exact X_unlike_L hl hc hK hK3 hv hw vals.length fu 0 wch wpl [] (by omega) (by omega) (by rw [fu_eq]; omega) (by simp [DL, tq]) (fun t ht => by simp at ht) (fun t ht => by simp at ht) (fun t _ h => by omega)
