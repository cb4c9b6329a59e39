/-! writing behind a row: of the class (bounded, with its flag), of the reference (a draft) -/
def FrR (r : Nat) (rc rv : Nat → Int32) (rb : Nat → Nat → Int32) (rc' rv' : Nat → Int32) (rb' : Nat → Nat → Int32) : Prop := ∀ q, q ≠ r → rc' q = rc q ∧ rv' q = rv q ∧ rb' q = rb q
theorem FrR.rf {r : Nat} {rc rv : Nat → Int32} {rb : Nat → Nat → Int32} : FrR r rc rv rb rc rv rb := fun _ _ => ⟨rfl, rfl, rfl⟩
theorem FrR.tr {r : Nat} {rc rv rc1 rv1 rc2 rv2 : Nat → Int32} {rb rb1 rb2 : Nat → Nat → Int32} (h1 : FrR r rc rv rb rc1 rv1 rb1) (h2 : FrR r rc1 rv1 rb1 rc2 rv2 rb2) : FrR r rc rv rb rc2 rv2 rb2 := fun q hq => ⟨(h2 q hq).1.trans (h1 q hq).1, (h2 q hq).2.1.trans (h1 q hq).2.1, (h2 q hq).2.2.trans (h1 q hq).2.2⟩
def Seg (f : Nat → Int32) (l : List Int32) : Prop := ∀ (k : Nat) (h : k < l.length), f k = l[k]
theorem Seg.snoc {f : Nat → Int32} {l : List Int32} (h : Seg f l) (x : Int32) : Seg (up f l.length x) (l ++ [x]) := by
  intro k hk
  unfold up
  by_cases e : k = l.length
  · subst e
    rw [if_pos rfl]
    simp
  · rw [if_neg e]
    simp only [List.length_append, List.length_cons, List.length_nil] at hk
    rw [h k (by omega), List.getElem_append_left]
def XOut (rc rv : Nat → Int32) (rb : Nat → Nat → Int32) (r : Nat) (l : List Int32) : Prop := (l.length ≤ rlen r ∧ rc r = nI l.length ∧ rv r = nI 0 ∧ Seg (rb r) l) ∨ (rlen r < l.length ∧ rv r = nI 1 ∧ ∃ c, c ≤ rlen r ∧ rc r = nI c)
theorem XOut.of_fr {rc rv rc' rv' : Nat → Int32} {rb rb' : Nat → Nat → Int32} {r q : Nat} {l : List Int32} (h : XOut rc rv rb r l) (hf : FrR q rc rv rb rc' rv' rb') (hq : r ≠ q) : XOut rc' rv' rb' r l := by
  obtain ⟨e1, e2, e3⟩ := hf r hq
  unfold XOut
  rw [e1, e2, e3]
  exact h
theorem X_push {rc rv : Nat → Int32} {rb : Nat → Nat → Int32} {r c : Nat} (b : Int32) (hc : rc r = nI c) (h : c ≤ rlen r) : p_X3_push r b rc rv rb = if c < rlen r then some (up rc r (nI (c + 1)), rv, up rb r (up (rb r) c (b8 b))) else some (rc, up rv r (nI 1), rb) := by
  have := rlen_le r
  unfold p_X3_push
  rw [hc]
  by_cases h2 : c < rlen r
  · simp (disch := omega) only [ltI, eqI, addI, subI, mulI, divI, ixI, inbI, i2lI, l2iL, ltL, eqL, addL, mulL, subL, gdD, if_pos, if_neg, if_true, if_false, bdS1, bdS2, bdS3, bdS4, bdS5, bdS6, bdS7, bdS8, bdS9, bdS10, bdS11, bdS12, bdS13, moN, moS]
  · simp (disch := omega) only [ltI, eqI, addI, subI, mulI, divI, ixI, inbI, i2lI, l2iL, ltL, eqL, addL, mulL, subL, gdD, if_pos, if_neg, if_true, if_false, bdS1, bdS2, bdS3, bdS4, bdS5, bdS6, bdS7, bdS8, bdS9, bdS10, bdS11, bdS12, bdS13, moN, moS]
theorem XOut_push {rc rv : Nat → Int32} {rb : Nat → Nat → Int32} {r : Nat} {l : List Int32} (b : Int32) (h : XOut rc rv rb r l) : ∃ rc' rv' rb', p_X3_push r b rc rv rb = some (rc', rv', rb') ∧ XOut rc' rv' rb' r (l ++ [b8 b]) ∧ FrR r rc rv rb rc' rv' rb' := by
  have hlen : (l ++ [b8 b]).length = l.length + 1 := by simp
  rcases h with ⟨h1, h2, h3, h4⟩ | ⟨h1, h2, c, h3, h4⟩
  · by_cases h5 : l.length < rlen r
    · refine ⟨_, _, _, (X_push b h2 h1).trans (if_pos h5), Or.inl ⟨by omega, by rw [up_s, hlen], h3, ?_⟩, fun q hq => ⟨up_n hq, rfl, up_n hq⟩⟩
      rw [up_s]
      exact h4.snoc _
    · exact ⟨_, _, _, (X_push b h2 h1).trans (if_neg h5), Or.inr ⟨by omega, up_s, _, h1, h2⟩, fun q hq => ⟨rfl, up_n hq, rfl⟩⟩
  · by_cases h5 : c < rlen r
    · exact ⟨_, _, _, (X_push b h4 h3).trans (if_pos h5), Or.inr ⟨by omega, h2, c + 1, h5, up_s⟩, fun q hq => ⟨up_n hq, rfl, up_n hq⟩⟩
    · exact ⟨_, _, _, (X_push b h4 h3).trans (if_neg h5), Or.inr ⟨by omega, up_s, c, h3, h4⟩, fun q hq => ⟨rfl, up_n hq, rfl⟩⟩
def MOut (md : Nat → Int32) (mdd : Int32) (l : List Int32) : Prop := mdd = nI l.length ∧ Seg md l
theorem MOut_byte {md : Nat → Int32} {mdd : Int32} {l : List Int32} (b : Int32) (h : MOut md mdd l) (hl : l.length < 60000) : ∃ md' mdd', p_X6_byteTo b md mdd = some (md', mdd') ∧ MOut md' mdd' (l ++ [b8 b]) := by
  obtain ⟨rfl, h2⟩ := h
  refine ⟨up md l.length (b8 b), nI (l.length + 1), ?_, by simp, h2.snoc _⟩
  unfold p_X6_byteTo
  simp (disch := omega) only [ltI, eqI, addI, subI, mulI, divI, ixI, inbI, i2lI, l2iL, ltL, eqL, addL, mulL, subL, gdD, if_pos, if_neg, if_true, if_false, bdS1, bdS2, bdS3, bdS4, bdS5, bdS6, bdS7, bdS8, bdS9, bdS10, bdS11, bdS12, bdS13, moN, moS]
/-- the n lowest bytes of a number, the lowest first -/
def litB (w : Int64) (n : Nat) : List Int32 := (List.range n).map (fun k => b8 (l2i (lshr w (nI (8 * k)))))
theorem litB_len (w : Int64) (n : Nat) : (litB w n).length = n := by simp [litB]
theorem litB_succ (w : Int64) (n : Nat) : litB w (n + 1) = litB w n ++ [b8 (l2i (lshr w (nI (8 * n))))] := by simp [litB, List.range_succ]
theorem X_lit_L {r N : Nat} {w : Int64} {l : List Int32} (hN : N ≤ 8) : ∀ (m n k : Nat) (rc rv : Nat → Int32) (rb : Nat → Nat → Int32), N - k = m → k ≤ N → m < n → XOut rc rv rb r (l ++ litB w k) → ∃ rc' rv' rb', itr4 (p_X3_pushLittle_L3 r w (nI N)) n (nI k) rc rv rb = some (rc', rv', rb') ∧ XOut rc' rv' rb' r (l ++ litB w N) ∧ FrR r rc rv rb rc' rv' rb' := by
  intro m
  induction m with
  | zero =>
    intro n k rc rv rb h1 h2 h3 h
    have : k = N := by omega
    subst this
    cases n with
    | zero => omega
    | succ n =>
      refine ⟨rc, rv, rb, ?_, h, FrR.rf⟩
      show p_X3_pushLittle_L3 r w (nI k) _ (nI k) rc rv rb = _
      rw [p_X3_pushLittle_L3]
      simp (disch := omega) only [ltI, eqI, addI, subI, mulI, divI, ixI, inbI, i2lI, l2iL, ltL, eqL, addL, mulL, subL, gdD, if_pos, if_neg, if_true, if_false, bdS1, bdS2, bdS3, bdS4, bdS5, bdS6, bdS7, bdS8, bdS9, bdS10, bdS11, bdS12, bdS13, moN, moS]
  | succ m ih =>
    intro n k rc rv rb h1 h2 h3 h
    cases n with
    | zero => omega
    | succ n =>
      obtain ⟨rc1, rv1, rb1, e1, h4, f1⟩ := XOut_push (l2i (lushr w (nI (8 * k)))) h
      rw [b8_sh w (by omega), List.append_assoc, ← litB_succ] at h4
      obtain ⟨rc2, rv2, rb2, e2, h5, f2⟩ := ih n (k + 1) rc1 rv1 rb1 (by omega) (by omega) (by omega) h4
      refine ⟨rc2, rv2, rb2, ?_, h5, f1.tr f2⟩
      show p_X3_pushLittle_L3 r w (nI N) _ (nI k) rc rv rb = _
      rw [p_X3_pushLittle_L3]
      simp (disch := omega) only [ltI, eqI, addI, subI, mulI, divI, ixI, inbI, i2lI, l2iL, ltL, eqL, addL, mulL, subL, gdD, if_pos, if_neg, if_true, if_false, bdS1, bdS2, bdS3, bdS4, bdS5, bdS6, bdS7, bdS8, bdS9, bdS10, bdS11, bdS12, bdS13, moN, moS, e1]
      exact e2
theorem X_lit {r N : Nat} {w : Int64} {l : List Int32} {rc rv : Nat → Int32} {rb : Nat → Nat → Int32} (hN : N ≤ 8) (h : XOut rc rv rb r l) : ∃ rc' rv' rb', p_X3_pushLittle r w (nI N) rc rv rb = some (rc', rv', rb') ∧ XOut rc' rv' rb' r (l ++ litB w N) ∧ FrR r rc rv rb rc' rv' rb' := by
  unfold p_X3_pushLittle
  exact X_lit_L hN N fu 0 rc rv rb (by omega) (by omega) (by rw [fu_eq]; omega) (by simpa [litB] using h)
theorem M_lit_L {N : Nat} {w : Int64} {l : List Int32} (hN : N ≤ 8) (hl : l.length + N ≤ 60000) : ∀ (m n k : Nat) (md : Nat → Int32) (mdd : Int32), N - k = m → k ≤ N → m < n → MOut md mdd (l ++ litB w k) → ∃ md' mdd', itr3 (p_X6_bytesTo_L3 w (nI N)) n (nI k) md mdd = some (md', mdd') ∧ MOut md' mdd' (l ++ litB w N) := by
  intro m
  induction m with
  | zero =>
    intro n k md mdd h1 h2 h3 h
    have : k = N := by omega
    subst this
    cases n with
    | zero => omega
    | succ n =>
      refine ⟨md, mdd, ?_, h⟩
      show p_X6_bytesTo_L3 w (nI k) _ (nI k) md mdd = _
      rw [p_X6_bytesTo_L3]
      simp (disch := omega) only [ltI, eqI, addI, subI, mulI, divI, ixI, inbI, i2lI, l2iL, ltL, eqL, addL, mulL, subL, gdD, if_pos, if_neg, if_true, if_false, bdS1, bdS2, bdS3, bdS4, bdS5, bdS6, bdS7, bdS8, bdS9, bdS10, bdS11, bdS12, bdS13, moN, moS]
  | succ m ih =>
    intro n k md mdd h1 h2 h3 h
    cases n with
    | zero => omega
    | succ n =>
      obtain ⟨md1, mdd1, e1, h4⟩ := MOut_byte (l2i (lshr w (nI (8 * k)))) h (by rw [List.length_append, litB_len]; omega)
      rw [List.append_assoc, ← litB_succ] at h4
      obtain ⟨md2, mdd2, e2, h5⟩ := ih n (k + 1) md1 mdd1 (by omega) (by omega) (by omega) h4
      refine ⟨md2, mdd2, ?_, h5⟩
      show p_X6_bytesTo_L3 w (nI N) _ (nI k) md mdd = _
      rw [p_X6_bytesTo_L3]
      simp (disch := omega) only [ltI, eqI, addI, subI, mulI, divI, ixI, inbI, i2lI, l2iL, ltL, eqL, addL, mulL, subL, gdD, if_pos, if_neg, if_true, if_false, bdS1, bdS2, bdS3, bdS4, bdS5, bdS6, bdS7, bdS8, bdS9, bdS10, bdS11, bdS12, bdS13, moN, moS, e1]
      exact e2
theorem M_lit {N : Nat} {w : Int64} {l : List Int32} {md : Nat → Int32} {mdd : Int32} (hN : N ≤ 8) (hl : l.length + N ≤ 60000) (h : MOut md mdd l) : ∃ md' mdd', p_X6_bytesTo w (nI N) md mdd = some (md', mdd') ∧ MOut md' mdd' (l ++ litB w N) := by
  unfold p_X6_bytesTo
  exact M_lit_L hN hl N fu 0 md mdd (by omega) (by omega) (by rw [fu_eq]; omega) (by simpa [litB] using h)
