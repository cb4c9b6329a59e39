/-! rows of bytes: the file, the tape -/
theorem splitI (x : Int32) : x < nI 0 ∨ ∃ j : Nat, j < 2 ^ 31 ∧ x = nI j := by
  by_cases h : x < nI 0
  · exact Or.inl h
  · exact Or.inr (nI_of h)
theorem i2l_toInt (x : Int32) : (i2l x).toInt = x.toInt := Int32.toInt_toInt64 x
theorem neg_toInt {x : Int32} (h : x < nI 0) : x.toInt < 0 := by
  have := Int32.lt_iff_toInt_lt.mp h
  rw [nI_toInt (by omega)] at this
  omega
theorem lN_toInt' {n : Nat} (h : n < 2 ^ 31) : (lN n).toInt = n := lN_toInt h
theorem M_in (a b c : Int64) : p_X6_in a b c = some (nI (if b.toInt ≤ a.toInt ∧ a.toInt ≤ c.toInt then 1 else 0)) := by
  unfold p_X6_in
  by_cases h1 : a < b
  · have := Int64.lt_iff_toInt_lt.mp h1
    rw [if_pos h1, if_neg (by omega)]
  · by_cases h2 : c < a
    · have := Int64.lt_iff_toInt_lt.mp h2
      rw [if_neg h1, if_pos h2, if_neg (by omega)]
    · have e1 : b.toInt ≤ a.toInt := Int.not_lt.mp (fun h => h1 (Int64.lt_iff_toInt_lt.mpr h))
      have e2 : a.toInt ≤ c.toInt := Int.not_lt.mp (fun h => h2 (Int64.lt_iff_toInt_lt.mpr h))
      rw [if_neg h1, if_neg h2, if_pos (by omega)]
theorem M_in_neg {x : Int32} (h : x < nI 0) (b : Nat) (c : Int64) (hb : b < 2 ^ 31) : p_X6_in (i2l x) (lN b) c = some (nI 0) := by
  rw [M_in, i2l_toInt, lN_toInt hb]
  have := neg_toInt h
  rw [if_neg (by omega)]
theorem M_in_nat {j b c : Nat} (hj : j < 2 ^ 31) (hb : b < 2 ^ 31) (hc : c < 2 ^ 31) : p_X6_in (i2l (nI j)) (lN b) (lN c) = some (nI (if b ≤ j ∧ j ≤ c then 1 else 0)) := by
  rw [M_in, i2l_toInt, nI_toInt hj, lN_toInt hb, lN_toInt hc]
  simp only [Int.ofNat_le]
theorem M_in_lt {j n : Nat} (hj : j < 2 ^ 31) (hn : n < 2 ^ 30) : p_X6_in (i2l (nI j)) (lN 0) (i2l (nI n - nI 1)) = some (nI (if j < n then 1 else 0)) := by
  rw [M_in, i2l_toInt, i2l_toInt, nI_toInt hj, lN_toInt (by omega), pk_sub_toInt hn (by omega)]
  by_cases h : j < n
  · rw [if_pos h, if_pos (by omega)]
  · rw [if_neg h, if_neg (by omega)]
def XRow (rc : Nat → Int32) (rb : Nat → Nat → Int32) (r : Nat) (l : List Int32) : Prop := rc r = nI l.length ∧ l.length ≤ rlen r ∧ (∀ x ∈ l, b8 x = x) ∧ ∀ (k : Nat) (h : k < l.length), rb r k = l[k]
def MRow (f : Nat → Int32) (s : Int32) (cap : Nat) (l : List Int32) : Prop := s = nI l.length ∧ l.length ≤ cap ∧ ∀ (k : Nat) (h : k < l.length), f k = l[k]
theorem X_get {rc : Nat → Int32} {rb : Nat → Nat → Int32} {r : Nat} {l : List Int32} (h : XRow rc rb r l) {k : Nat} (hk : k < l.length) : p_X3_get r (nI k) rc rb = some (l[k] &&& nI 255) := by
  obtain ⟨h1, h2, h3, h4⟩ := h
  have hr : rlen r ≤ 12000 := by unfold rlen; split <;> omega
  unfold p_X3_get
  rw [h1]
  simp (disch := omega) only [ltI, eqI, addI, subI, mulI, divI, ixI, inbI, i2lI, l2iL, ltL, eqL, addL, mulL, subL, gdD, if_pos, if_neg, if_true, if_false, bdS1, bdS2, bdS3, bdS4, bdS5, bdS6, bdS7, bdS8, bdS9, bdS10, bdS11, bdS12, bdS13, moN, moS, h4 k hk]
theorem rlen_le (r : Nat) : rlen r ≤ 12000 := by unfold rlen; split <;> omega
theorem sim_size {rc : Nat → Int32} {rb : Nat → Nat → Int32} {mf : Nat → Int32} {ms : Int32} {l : List Int32} (hx : XRow rc rb 1 l) (hm : MRow mf ms 12000 l) : ∃ r, p_X5_size rc = some r ∧ p_X6_size ms = some r := by
  refine ⟨nI l.length, ?_, ?_⟩
  · unfold p_X5_size
    rw [hx.1]
  · unfold p_X6_size
    rw [hm.1]
theorem sim_byteAt {rc : Nat → Int32} {rb : Nat → Nat → Int32} {mf : Nat → Int32} {ms : Int32} {l : List Int32} (hx : XRow rc rb 1 l) (hm : MRow mf ms 12000 l) (v : Int32) : ∃ r, p_X5_byteAt v rc rb = some r ∧ p_X6_byteAt v mf ms = some r := by
  obtain ⟨rfl, hl, hm3⟩ := hm
  unfold p_X5_byteAt p_X6_byteAt
  rw [hx.1]
  rcases splitI v with h | ⟨j, hj, rfl⟩
  · refine ⟨-1, by rw [if_pos h], ?_⟩
    rw [M_in_neg h _ _ (by omega)]
    simp (disch := omega) only [ltI, eqI, addI, subI, mulI, divI, ixI, inbI, i2lI, l2iL, ltL, eqL, addL, mulL, subL, gdD, if_pos, if_neg, if_true, if_false, bdS1, bdS2, bdS3, bdS4, bdS5, bdS6, bdS7, bdS8, bdS9, bdS10, bdS11, bdS12, bdS13, moN, moS]
  · by_cases hjl : j < l.length
    · refine ⟨l[j] &&& nI 255, ?_, ?_⟩
      · simp (disch := omega) only [ltI, eqI, addI, subI, mulI, divI, ixI, inbI, i2lI, l2iL, ltL, eqL, addL, mulL, subL, gdD, if_pos, if_neg, if_true, if_false, bdS1, bdS2, bdS3, bdS4, bdS5, bdS6, bdS7, bdS8, bdS9, bdS10, bdS11, bdS12, bdS13, moN, moS, X_get hx hjl]
      · rw [M_in_lt hj (by omega)]
        simp (disch := omega) only [ltI, eqI, addI, subI, mulI, divI, ixI, inbI, i2lI, l2iL, ltL, eqL, addL, mulL, subL, gdD, if_pos, if_neg, if_true, if_false, bdS1, bdS2, bdS3, bdS4, bdS5, bdS6, bdS7, bdS8, bdS9, bdS10, bdS11, bdS12, bdS13, moN, moS, hm3 j hjl]
    · refine ⟨-1, ?_, ?_⟩
      · simp (disch := omega) only [ltI, eqI, addI, subI, mulI, divI, ixI, inbI, i2lI, l2iL, ltL, eqL, addL, mulL, subL, gdD, if_pos, if_neg, if_true, if_false, bdS1, bdS2, bdS3, bdS4, bdS5, bdS6, bdS7, bdS8, bdS9, bdS10, bdS11, bdS12, bdS13, moN, moS]
      · rw [M_in_lt hj (by omega)]
        simp (disch := omega) only [ltI, eqI, addI, subI, mulI, divI, ixI, inbI, i2lI, l2iL, ltL, eqL, addL, mulL, subL, gdD, if_pos, if_neg, if_true, if_false, bdS1, bdS2, bdS3, bdS4, bdS5, bdS6, bdS7, bdS8, bdS9, bdS10, bdS11, bdS12, bdS13, moN, moS]
theorem sim_poke {rc : Nat → Int32} {rb : Nat → Nat → Int32} {mf : Nat → Int32} {ms : Int32} {l : List Int32} (hx : XRow rc rb 1 l) (hm : MRow mf ms 12000 l) (v w : Int32) : ∃ r rb' mf' l', p_X5_poke v w rc rb = some (r, rb') ∧ p_X6_poke v w mf ms = some (r, mf') ∧ XRow rc rb' 1 l' ∧ MRow mf' ms 12000 l' ∧ ∀ q, q ≠ 1 → rb' q = rb q := by
  obtain ⟨rfl, hl, hm3⟩ := hm
  unfold p_X5_poke p_X6_poke
  rw [hx.1]
  rcases splitI v with h | ⟨j, hj, rfl⟩
  · refine ⟨-1, rb, mf, l, by rw [if_pos h], ?_, hx, ⟨rfl, hl, hm3⟩, fun q _ => rfl⟩
    rw [M_in_neg h _ _ (by omega)]
    simp (disch := omega) only [ltI, eqI, addI, subI, mulI, divI, ixI, inbI, i2lI, l2iL, ltL, eqL, addL, mulL, subL, gdD, if_pos, if_neg, if_true, if_false, bdS1, bdS2, bdS3, bdS4, bdS5, bdS6, bdS7, bdS8, bdS9, bdS10, bdS11, bdS12, bdS13, moN, moS]
  · by_cases hjl : j < l.length
    · have hset : XRow rc (up rb 1 (up (rb 1) j (b8 (l[j] ^^^ w)))) 1 (l.set j (b8 (l[j] ^^^ w))) := by
        obtain ⟨h1, h2, h3, h4⟩ := hx
        refine ⟨by rw [List.length_set]; exact h1, by rw [List.length_set]; exact h2, ?_, ?_⟩
        · intro x hxm
          rcases List.mem_or_eq_of_mem_set hxm with h | h
          · exact h3 x h
          · rw [h, b8_b8']
        · intro k hk
          rw [List.length_set] at hk
          rw [up_s, List.getElem_set]
          unfold up
          by_cases hkj : j = k
          · rw [if_pos hkj.symm, if_pos hkj]
          · rw [if_neg (Ne.symm hkj), if_neg hkj, h4 k hk]
      have hget := X_get hset (k := j) (by rw [List.length_set]; exact hjl)
      rw [List.getElem_set_self] at hget
      have e0 : b8 ((l[j] &&& nI 255) ^^^ w) = b8 (l[j] ^^^ w) := by
        unfold b8
        rw [fa_byte_xor, fa_byte_xor, show nI 255 = 255 from rfl, fa_byte_low]
      refine ⟨b8 (l[j] ^^^ w) &&& nI 255, up rb 1 (up (rb 1) j (b8 (l[j] ^^^ w))), up mf j (b8 (l[j] ^^^ w)), l.set j (b8 (l[j] ^^^ w)), ?_, ?_, hset, ⟨by rw [List.length_set], by rw [List.length_set]; exact hl, ?_⟩, fun q hq => up_n hq⟩
      · have h12 : rlen 1 = 12000 := rfl
        have eset : p_X3_set 1 (nI j) ((l[j] &&& nI 255) ^^^ w) rc rb = some (up rb 1 (up (rb 1) j (b8 (l[j] ^^^ w)))) := by
          unfold p_X3_set
          rw [hx.1, h12]
          simp (disch := omega) only [ltI, eqI, addI, subI, mulI, divI, ixI, inbI, i2lI, l2iL, ltL, eqL, addL, mulL, subL, gdD, if_pos, if_neg, if_true, if_false, bdS1, bdS2, bdS3, bdS4, bdS5, bdS6, bdS7, bdS8, bdS9, bdS10, bdS11, bdS12, bdS13, moN, moS, e0]
        simp (disch := omega) only [ltI, eqI, addI, subI, mulI, divI, ixI, inbI, i2lI, l2iL, ltL, eqL, addL, mulL, subL, gdD, if_pos, if_neg, if_true, if_false, bdS1, bdS2, bdS3, bdS4, bdS5, bdS6, bdS7, bdS8, bdS9, bdS10, bdS11, bdS12, bdS13, moN, moS, X_get hx hjl, eset, hget]
      · rw [M_in_lt hj (by omega)]
        simp (disch := omega) only [ltI, eqI, addI, subI, mulI, divI, ixI, inbI, i2lI, l2iL, ltL, eqL, addL, mulL, subL, gdD, if_pos, if_neg, if_true, if_false, bdS1, bdS2, bdS3, bdS4, bdS5, bdS6, bdS7, bdS8, bdS9, bdS10, bdS11, bdS12, bdS13, moN, moS, hm3 j hjl, up_s]
      · intro k hk
        rw [List.length_set] at hk
        rw [List.getElem_set]
        unfold up
        by_cases hkj : j = k
        · rw [if_pos hkj.symm, if_pos hkj]
        · rw [if_neg (Ne.symm hkj), if_neg hkj, hm3 k hk]
    · refine ⟨-1, rb, mf, l, ?_, ?_, hx, ⟨rfl, hl, hm3⟩, fun q _ => rfl⟩
      · simp (disch := omega) only [ltI, eqI, addI, subI, mulI, divI, ixI, inbI, i2lI, l2iL, ltL, eqL, addL, mulL, subL, gdD, if_pos, if_neg, if_true, if_false, bdS1, bdS2, bdS3, bdS4, bdS5, bdS6, bdS7, bdS8, bdS9, bdS10, bdS11, bdS12, bdS13, moN, moS]
      · rw [M_in_lt hj (by omega)]
        simp (disch := omega) only [ltI, eqI, addI, subI, mulI, divI, ixI, inbI, i2lI, l2iL, ltL, eqL, addL, mulL, subL, gdD, if_pos, if_neg, if_true, if_false, bdS1, bdS2, bdS3, bdS4, bdS5, bdS6, bdS7, bdS8, bdS9, bdS10, bdS11, bdS12, bdS13, moN, moS]
