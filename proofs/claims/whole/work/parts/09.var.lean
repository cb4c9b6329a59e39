/-! VAR, ZIG -/
theorem lb_and (x y : Int64) (i : Nat) : lb (x &&& y) i = (lb x i && lb y i) := by
  unfold lb
  rw [Int64.toBitVec_and, BitVec.getLsbD_and]
theorem lb_or (x y : Int64) (i : Nat) : lb (x ||| y) i = (lb x i || lb y i) := by
  unfold lb
  rw [Int64.toBitVec_or, BitVec.getLsbD_or]
theorem lb_big (x : Int64) {i : Nat} (h : 64 ≤ i) : lb x i = false := BitVec.getLsbD_of_ge _ _ h
theorem lb_zero (i : Nat) : lb (lN 0) i = false := by
  have : (lN 0).toBitVec = 0#64 := by decide
  unfold lb
  rw [this]
  simp
theorem lb_m128 : ∀ i, i < 64 → lb (-128 : Int64) i = decide (7 ≤ i) := by decide +kernel
theorem and127 (v : Int64) : ∃ m, m < 128 ∧ v &&& lN 127 = lN m := by
  refine ⟨v.toBitVec.toNat % 128, Nat.mod_lt _ (by omega), ?_⟩
  apply Int64.toBitVec_inj.mp
  apply BitVec.eq_of_toNat_eq
  have e1 : (lN 127).toBitVec = 127#64 := by decide
  have e2 : (lN (v.toBitVec.toNat % 128)).toBitVec = BitVec.ofNat 64 (v.toBitVec.toNat % 128) := rfl
  rw [Int64.toBitVec_and, e1, e2, BitVec.toNat_and, BitVec.toNat_ofNat, BitVec.toNat_ofNat]
  have h3 : 127 % 2 ^ 64 = 2 ^ 7 - 1 := by decide
  rw [h3, Nat.and_two_pow_sub_one_eq_mod, Nat.mod_eq_of_lt (a := v.toBitVec.toNat % 128) (by omega)]
theorem b8_128 (v : Int64) : b8 (l2i (v &&& lN 127) + nI 128) = b8 (l2i (v &&& lN 127) ||| nI 128) := by
  obtain ⟨m, hm, e⟩ := and127 v
  rw [e, l2iL, addI, Int32.or_comm]
  have h := fa_or_sum (a := m) (k := 7) 1 hm
  rw [show 2 ^ 7 * 1 = 128 from rfl] at h
  rw [h, Nat.add_comm]
theorem m128_iff (v : Int64) : v &&& (-128 : Int64) = lN 0 ↔ lushr v (nI 7) = lN 0 := by
  constructor
  · intro h
    apply lb_ext
    intro i hi
    rw [lb_ushr v (by omega), lb_zero]
    by_cases h2 : 7 + i < 64
    · have e : lb (v &&& (-128 : Int64)) (7 + i) = false := by rw [h, lb_zero]
      rw [lb_and, lb_m128 _ h2, decide_eq_true (by omega), Bool.and_true] at e
      exact e
    · exact lb_big v (by omega)
  · intro h
    apply lb_ext
    intro i hi
    rw [lb_and, lb_zero, lb_m128 i hi]
    by_cases h2 : 7 ≤ i
    · have e : lb (lushr v (nI 7)) (i - 7) = false := by rw [h, lb_zero]
      rw [lb_ushr v (by omega), show 7 + (i - 7) = i by omega] at e
      rw [e]
      rfl
    · rw [decide_eq_false h2, Bool.and_false]
def varBn : Nat → Int64 → List Int32
  | 0, v => [b8 (l2i v)]
  | n + 1, v => if lushr v (nI 7) = lN 0 then [b8 (l2i v)] else b8 (l2i (v &&& lN 127) ||| nI 128) :: varBn n (lushr v (nI 7))
def varB (v : Int64) : List Int32 := varBn 9 v
def zz (v : Int64) : Int64 := lshl v (nI 1) ^^^ lshr v (nI 63)
theorem varBn_len : ∀ (n : Nat) (v : Int64), (varBn n v).length ≤ n + 1 := by
  intro n
  induction n with
  | zero => intro v; simp [varBn]
  | succ n ih =>
    intro v
    unfold varBn
    split
    · simp
    · have := ih (lushr v (nI 7))
      simp
      omega
theorem varB_len (v : Int64) : (varB v).length ≤ 10 := varBn_len 9 v
theorem X_var_L {r : Nat} : ∀ (m n : Nat) (v : Int64) (l : List Int32) (rc rv : Nat → Int32) (rb : Nat → Nat → Int32), m ≤ 9 → m < n → XOut rc rv rb r l → ∃ rc' rv' rb', itr5 (p_X3_pushVar_L5 r) n v (nI (9 - m)) rc rv rb = some (rc', rv', rb') ∧ XOut rc' rv' rb' r (l ++ varBn m v) ∧ FrR r rc rv rb rc' rv' rb' := by
  intro m
  induction m with
  | zero =>
    intro n v l rc rv rb h1 h2 h
    cases n with
    | zero => omega
    | succ n =>
      obtain ⟨rc1, rv1, rb1, e1, h4, f1⟩ := XOut_push (l2i v) h
      refine ⟨rc1, rv1, rb1, ?_, h4, f1⟩
      show p_X3_pushVar_L5 r _ v (nI 9) rc rv rb = _
      rw [p_X3_pushVar_L5]
      simp (disch := omega) only [ltI, eqI, addI, subI, mulI, divI, ixI, inbI, i2lI, l2iL, ltL, eqL, addL, mulL, subL, gdD, if_pos, if_neg, if_true, if_false, bdS1, bdS2, bdS3, bdS4, bdS5, bdS6, bdS7, bdS8, bdS9, bdS10, bdS11, bdS12, bdS13, moN, moS, e1]
  | succ m ih =>
    intro n v l rc rv rb h1 h2 h
    cases n with
    | zero => omega
    | succ n =>
      by_cases hv : lushr v (nI 7) = lN 0
      · obtain ⟨rc1, rv1, rb1, e1, h4, f1⟩ := XOut_push (l2i v) h
        refine ⟨rc1, rv1, rb1, ?_, ?_, f1⟩
        · show p_X3_pushVar_L5 r _ v (nI (9 - (m + 1))) rc rv rb = _
          rw [p_X3_pushVar_L5]
          rw [if_pos (show nI (9 - (m + 1)) < nI 9 by simp (disch := omega) only [ltI, eqI, addI, subI, mulI, divI, ixI, inbI, i2lI, l2iL, ltL, eqL, addL, mulL, subL, gdD, if_pos, if_neg, if_true, if_false, bdS1, bdS2, bdS3, bdS4, bdS5, bdS6, bdS7, bdS8, bdS9, bdS10, bdS11, bdS12, bdS13, moN, moS]; omega), if_pos hv]
          simp (disch := omega) only [ltI, eqI, addI, subI, mulI, divI, ixI, inbI, i2lI, l2iL, ltL, eqL, addL, mulL, subL, gdD, if_pos, if_neg, if_true, if_false, bdS1, bdS2, bdS3, bdS4, bdS5, bdS6, bdS7, bdS8, bdS9, bdS10, bdS11, bdS12, bdS13, moN, moS, e1]
        · unfold varBn
          rw [if_pos hv]
          exact h4
      · obtain ⟨rc1, rv1, rb1, e1, h4, f1⟩ := XOut_push (l2i (v &&& lN 127) + nI 128) h
        obtain ⟨rc2, rv2, rb2, e2, h5, f2⟩ := ih n (lushr v (nI 7)) _ rc1 rv1 rb1 (by omega) (by omega) h4
        refine ⟨rc2, rv2, rb2, ?_, ?_, f1.tr f2⟩
        · show p_X3_pushVar_L5 r _ v (nI (9 - (m + 1))) rc rv rb = _
          rw [p_X3_pushVar_L5]
          rw [if_pos (show nI (9 - (m + 1)) < nI 9 by simp (disch := omega) only [ltI, eqI, addI, subI, mulI, divI, ixI, inbI, i2lI, l2iL, ltL, eqL, addL, mulL, subL, gdD, if_pos, if_neg, if_true, if_false, bdS1, bdS2, bdS3, bdS4, bdS5, bdS6, bdS7, bdS8, bdS9, bdS10, bdS11, bdS12, bdS13, moN, moS]; omega), if_neg hv, e1, bdS3, addI]
          rw [show 9 - (m + 1) + 1 = 9 - m by omega]
          exact e2
        · unfold varBn
          rw [if_neg hv]
          rw [List.append_assoc, b8_128] at h5
          exact h5
theorem X_var {r : Nat} {v : Int64} {l : List Int32} {rc rv : Nat → Int32} {rb : Nat → Nat → Int32} (h : XOut rc rv rb r l) : ∃ rc' rv' rb', p_X3_pushVar r v rc rv rb = some (rc', rv', rb') ∧ XOut rc' rv' rb' r (l ++ varB v) ∧ FrR r rc rv rb rc' rv' rb' := by
  unfold p_X3_pushVar
  exact X_var_L 9 fu v l rc rv rb (by omega) (by rw [fu_eq]; omega) h
theorem M_var_L : ∀ (m n : Nat) (v : Int64) (l : List Int32) (md : Nat → Int32) (mdd : Int32), (∀ i, 7 * (m + 1) ≤ i → lb v i = false) → m < n → l.length + (varBn m v).length ≤ 60000 → MOut md mdd l → ∃ md' mdd', itr3 p_X6_var_L2 n v md mdd = some (md', mdd') ∧ MOut md' mdd' (l ++ varBn m v) := by
  intro m
  induction m with
  | zero =>
    intro n v l md mdd hv h2 hl h
    cases n with
    | zero => omega
    | succ n =>
      obtain ⟨md1, mdd1, e1, h4⟩ := MOut_byte (l2i v) h (by simp [varBn] at hl; omega)
      refine ⟨md1, mdd1, ?_, h4⟩
      have hz : lushr v (nI 7) = lN 0 := by
        apply lb_ext
        intro i hi
        rw [lb_ushr v (by omega), lb_zero]
        exact hv _ (by omega)
      show p_X6_var_L2 _ v md mdd = _
      rw [p_X6_var_L2, if_pos ((m128_iff v).mpr hz), e1]
      rfl
  | succ m ih =>
    intro n v l md mdd hv h2 hl h
    cases n with
    | zero => omega
    | succ n =>
      show ∃ md' mdd', p_X6_var_L2 _ v md mdd = _ ∧ _
      rw [p_X6_var_L2]
      unfold varBn at hl ⊢
      by_cases hz : lushr v (nI 7) = lN 0
      · rw [if_pos hz] at hl
        simp only [List.length_cons, List.length_nil] at hl
        obtain ⟨md1, mdd1, e1, h4⟩ := MOut_byte (l2i v) h (by omega)
        rw [if_pos ((m128_iff v).mpr hz), e1, if_pos hz]
        exact ⟨md1, mdd1, rfl, h4⟩
      · rw [if_neg hz] at hl
        simp only [List.length_cons] at hl
        obtain ⟨md1, mdd1, e1, h4⟩ := MOut_byte (l2i (v &&& lN 127) ||| nI 128) h (by omega)
        obtain ⟨md2, mdd2, e2, h5⟩ := ih n (lushr v (nI 7)) _ md1 mdd1 (fun i hi => by rw [lb_ushr v (by omega)]; exact hv _ (by omega)) (by omega) (by simp; omega) h4
        rw [if_neg (fun q => hz ((m128_iff v).mp q)), e1, if_neg hz, bdS2]
        rw [List.append_assoc] at h5
        exact ⟨md2, mdd2, e2, h5⟩
theorem M_var {v : Int64} {l : List Int32} {md : Nat → Int32} {mdd : Int32} (hl : l.length + (varB v).length ≤ 60000) (h : MOut md mdd l) : ∃ md' mdd', p_X6_var v md mdd = some (md', mdd') ∧ MOut md' mdd' (l ++ varB v) := by
  unfold p_X6_var
  exact M_var_L 9 fu v l md mdd (fun i hi => lb_big v (by omega)) (by rw [fu_eq]; omega) hl h
theorem M_zig {v : Int64} {l : List Int32} {md : Nat → Int32} {mdd : Int32} (hl : l.length + (varB (zz v)).length ≤ 60000) (h : MOut md mdd l) : ∃ md' mdd', p_X6_zig v md mdd = some (md', mdd') ∧ MOut md' mdd' (l ++ varB (zz v)) := by
  obtain ⟨md1, mdd1, e1, h1⟩ := M_var (v := zz v) hl h
  refine ⟨md1, mdd1, ?_, h1⟩
  unfold p_X6_zig
  rw [show (lshl v (nI 1)) ^^^ (lshr v (nI 63)) = zz v from rfl, e1]
  rfl
