/-! abstract values; what a column's rows hold -/
abbrev AV : Type := Option (Int64 × List Int32)
def th (a : AV) : Nat := match a with
  | none => 0
  | some _ => 1
def nu (a : AV) : Int64 := match a with
  | none => lN 0
  | some q => q.1
def le (a : AV) : List Int32 := match a with
  | none => []
  | some q => q.2
def wfv (K : Nat) (a : AV) : Prop := (le a).length ≤ 40 ∧ (∀ x ∈ le a, b8 x = x) ∧ (a ≠ none → if K = 2 then nu a = lN (le a).length else le a = [])
theorem X_holds {xc : Nat → Int32} {c i n : Nat} (hn : xc c = nI n) (h2 : n ≤ 200) (hi : i < 2 ^ 31) : p_X0_holds c (nI i) xc = some (nI (if i < n then 1 else 0)) := by
  unfold p_X0_holds
  rw [hn]
  by_cases h : i < n
  · simp (disch := omega) only [ltI, eqI, addI, subI, mulI, divI, ixI, inbI, i2lI, l2iL, ltL, eqL, addL, mulL, subL, gdD, if_pos, if_neg, if_true, if_false, bdS1, bdS2, bdS3, bdS4, bdS5, bdS6, bdS7, bdS8, bdS9, bdS10, bdS11, bdS12, bdS13, moN, moS]
  · simp (disch := omega) only [ltI, eqI, addI, subI, mulI, divI, ixI, inbI, i2lI, l2iL, ltL, eqL, addL, mulL, subL, gdD, if_pos, if_neg, if_true, if_false, bdS1, bdS2, bdS3, bdS4, bdS5, bdS6, bdS7, bdS8, bdS9, bdS10, bdS11, bdS12, bdS13, moN, moS]
theorem X_isThere {xt : Nat → Nat → Int32} {c i t : Nat} (ht : xt c i = nI t) (h1 : t ≤ 1) (hi : i < 200) : p_X0_isThere c (nI i) xt = some (nI t) := by
  unfold p_X0_isThere
  by_cases h : t = 0
  · subst h
    simp (disch := omega) only [ltI, eqI, addI, subI, mulI, divI, ixI, inbI, i2lI, l2iL, ltL, eqL, addL, mulL, subL, gdD, if_pos, if_neg, if_true, if_false, bdS1, bdS2, bdS3, bdS4, bdS5, bdS6, bdS7, bdS8, bdS9, bdS10, bdS11, bdS12, bdS13, moN, moS, ht]
  · have : t = 1 := by omega
    subst this
    simp (disch := omega) only [ltI, eqI, addI, subI, mulI, divI, ixI, inbI, i2lI, l2iL, ltL, eqL, addL, mulL, subL, gdD, if_pos, if_neg, if_true, if_false, bdS1, bdS2, bdS3, bdS4, bdS5, bdS6, bdS7, bdS8, bdS9, bdS10, bdS11, bdS12, bdS13, moN, moS, ht]
theorem X_numberAt {xn : Nat → Nat → Int64} {c i : Nat} (hi : i < 200) : p_X0_numberAt c (nI i) xn = some (xn c i) := by
  unfold p_X0_numberAt
  simp (disch := omega) only [ltI, eqI, addI, subI, mulI, divI, ixI, inbI, i2lI, l2iL, ltL, eqL, addL, mulL, subL, gdD, if_pos, if_neg, if_true, if_false, bdS1, bdS2, bdS3, bdS4, bdS5, bdS6, bdS7, bdS8, bdS9, bdS10, bdS11, bdS12, bdS13, moN, moS]
theorem X_letterAt {xl : Nat → Nat → Int32} {c i k : Nat} (hi : i < 200) (hk : k < 40) : p_X0_letterAt c (nI i) (nI k) xl = some (xl c (i * 40 + k) &&& nI 255) := by
  unfold p_X0_letterAt
  simp (disch := omega) only [ltI, eqI, addI, subI, mulI, divI, ixI, inbI, i2lI, l2iL, ltL, eqL, addL, mulL, subL, gdD, if_pos, if_neg, if_true, if_false, bdS1, bdS2, bdS3, bdS4, bdS5, bdS6, bdS7, bdS8, bdS9, bdS10, bdS11, bdS12, bdS13, moN, moS]
theorem take_snoc {α : Type} {l : List α} {k : Nat} (h : k < l.length) : l.take k ++ [l[k]] = l.take (k + 1) := (List.take_succ_eq_append_getElem h).symm
/-- the row of a value in class X: there, number, letters from place 40 i on -/
def XV (xt : Nat → Nat → Int32) (xn : Nat → Nat → Int64) (xl : Nat → Nat → Int32) (c i : Nat) (a : AV) : Prop := xt c i = nI (th a) ∧ xn c i = nu a ∧ ∀ (k : Nat) (h : k < (le a).length), xl c (i * 40 + k) = (le a)[k]
theorem wfv_none {K : Nat} : wfv K none := ⟨by simp [le], by simp [le], fun h => absurd rfl h⟩
theorem th_le (a : AV) : th a ≤ 1 := by
  cases a <;> simp [th]
theorem isB_th (a : AV) : isB (nI (th a)) = true := by
  cases a
  · exact (by decide : isB (nI 0) = true)
  · exact (by decide : isB (nI 1) = true)
/-- of a TEXT the number tells how many letters; else there are none -/
theorem wfv_num {a : AV} (h : wfv 2 a) : nu a = lN (le a).length := by
  cases a with
  | none => rfl
  | some q =>
    have h2 := h.2.2 (by simp)
    rw [if_pos rfl] at h2
    exact h2
theorem wfv_no {K : Nat} {a : AV} (h : wfv K a) (hK : K ≠ 2) : le a = [] := by
  cases a with
  | none => rfl
  | some q =>
    have h2 := h.2.2 (by simp)
    rw [if_neg hK] at h2
    exact h2
theorem X_setCopy_L {xt : Nat → Nat → Int32} {xn : Nat → Nat → Int64} {xl : Nat → Nat → Int32} {c i c2 j : Nat} {ls : List Int32} (hi : i < 200) (hj : j < 200) (hl : ls.length ≤ 40) (hn : xn c i = lN ls.length) (hb : ∀ x ∈ ls, b8 x = x)
    (hs : ∀ (k : Nat) (h : k < ls.length), xl c2 (j * 40 + k) = ls[k]) :
    ∀ (m n k : Nat), ls.length - k = m → k ≤ ls.length → m < n → itr2 (p_X0_setCopy_L58 c (nI i) c2 (nI j) xt xn) n (nI k) (up xl c (wr (xl c) (i * 40) (ls.take k))) = some (xt, xn, up xl c (wr (xl c) (i * 40) ls)) := by
  intro m
  induction m with
  | zero =>
    intro n k h1 h2 h3
    have hk : k = ls.length := by omega
    subst hk
    cases n with
    | zero => omega
    | succ n =>
      show p_X0_setCopy_L58 c (nI i) c2 (nI j) xt xn _ (nI ls.length) _ = _
      rw [p_X0_setCopy_L58]
      rw [List.take_length]
      by_cases h4 : ls.length < 40
      · simp (disch := omega) only [ltI, eqI, addI, subI, mulI, divI, ixI, inbI, i2lI, l2iL, ltL, eqL, addL, mulL, subL, gdD, if_pos, if_neg, if_true, if_false, bdS1, bdS2, bdS3, bdS4, bdS5, bdS6, bdS7, bdS8, bdS9, bdS10, bdS11, bdS12, bdS13, moN, moS, hn]
      · simp (disch := omega) only [ltI, eqI, addI, subI, mulI, divI, ixI, inbI, i2lI, l2iL, ltL, eqL, addL, mulL, subL, gdD, if_pos, if_neg, if_true, if_false, bdS1, bdS2, bdS3, bdS4, bdS5, bdS6, bdS7, bdS8, bdS9, bdS10, bdS11, bdS12, bdS13, moN, moS]
  | succ m ih =>
    intro n k h1 h2 h3
    have hk : k < ls.length := by omega
    cases n with
    | zero => omega
    | succ n =>
      show p_X0_setCopy_L58 c (nI i) c2 (nI j) xt xn _ (nI k) _ = _
      rw [p_X0_setCopy_L58]
      simp (disch := omega) only [ltI, eqI, addI, subI, mulI, divI, ixI, inbI, i2lI, l2iL, ltL, eqL, addL, mulL, subL, gdD, if_pos, if_neg, if_true, if_false, bdS1, bdS2, bdS3, bdS4, bdS5, bdS6, bdS7, bdS8, bdS9, bdS10, bdS11, bdS12, bdS13, moN, moS, hn]
      have e : up xl c (wr (xl c) (i * 40) (ls.take k)) c2 (j * 40 + k) = ls[k] := by
        rw [← hs k hk]
        by_cases hc : c2 = c
        · subst hc
          rw [up_s, wr_out]
          rw [List.length_take]
          omega
        · rw [up_n hc]
      rw [e, hb _ (List.getElem_mem hk), up_up, up_s]
      have e2 : i * 40 + k = i * 40 + (ls.take k).length := by rw [List.length_take]; omega
      rw [e2, wr_snoc, take_snoc hk]
      exact ih n (k + 1) (by omega) (by omega) (by omega)
theorem X_setCopy {xk : Nat → Int32} {xt : Nat → Nat → Int32} {xn : Nat → Nat → Int64} {xl : Nat → Nat → Int32} {c i c2 j K : Nat} {a : AV} (hi : i < 200) (hj : j < 200) (hK : xk c = nI K) (hK3 : K ≤ 3) (hw : wfv K a) (hs : XV xt xn xl c2 j a) :
    p_X0_setCopy c (nI i) c2 (nI j) xk xt xn xl = some (up xt c (up (xt c) i (nI (th a))), up xn c (up (xn c) i (nu a)), up xl c (wr (xl c) (i * 40) (le a))) := by
  obtain ⟨h1, h2, h3⟩ := hs
  unfold p_X0_setCopy
  simp (disch := omega) only [ltI, eqI, addI, subI, mulI, divI, ixI, inbI, i2lI, l2iL, ltL, eqL, addL, mulL, subL, gdD, if_pos, if_neg, if_true, if_false, bdS1, bdS2, bdS3, bdS4, bdS5, bdS6, bdS7, bdS8, bdS9, bdS10, bdS11, bdS12, bdS13, moN, moS, h1, h2, hK, gdT (isB_th a)]
  by_cases hk : K = 2
  · subst hk
    simp (disch := omega) only [ltI, eqI, addI, subI, mulI, divI, ixI, inbI, i2lI, l2iL, ltL, eqL, addL, mulL, subL, gdD, if_pos, if_neg, if_true, if_false, bdS1, bdS2, bdS3, bdS4, bdS5, bdS6, bdS7, bdS8, bdS9, bdS10, bdS11, bdS12, bdS13, moN, moS]
    have h := X_setCopy_L (xt := up xt c (up (xt c) i (nI (th a)))) (xn := up xn c (up (xn c) i (nu a))) (xl := xl) (c := c) hi hj hw.1 (by rw [up_s, up_s, wfv_num hw]) hw.2.1 h3 (le a).length fu 0 (by omega) (by omega) (by rw [fu_eq]; have := hw.1; omega)
    rw [List.take_zero, wr_nil, up_id] at h
    exact h
  · simp (disch := omega) only [ltI, eqI, addI, subI, mulI, divI, ixI, inbI, i2lI, l2iL, ltL, eqL, addL, mulL, subL, gdD, if_pos, if_neg, if_true, if_false, bdS1, bdS2, bdS3, bdS4, bdS5, bdS6, bdS7, bdS8, bdS9, bdS10, bdS11, bdS12, bdS13, moN, moS]
    rw [wfv_no hw hk, wr_nil, up_id]
