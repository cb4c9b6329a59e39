theorem XOut_over {rc rv : Nat → Int32} {rb : Nat → Nat → Int32} {r : Nat} {l l' : List Int32} (h : XOut rc rv rb r l) (h1 : rlen r < l.length) (h2 : rlen r < l'.length) : XOut rc rv rb r l' := by
  rcases h with ⟨a, -⟩ | ⟨-, b⟩
  · omega
  · exact Or.inr ⟨h2, b⟩
theorem XOut_cnt {rc rv : Nat → Int32} {rb : Nat → Nat → Int32} {r : Nat} {l : List Int32} (h : XOut rc rv rb r l) : ∃ c, c ≤ rlen r ∧ rc r = nI c ∧ (l.length ≤ rlen r → c = l.length) := by
  rcases h with ⟨a, b, -⟩ | ⟨a, -, c, d, e⟩
  · exact ⟨_, a, b, fun _ => rfl⟩
  · exact ⟨c, d, e, fun h => by omega⟩
theorem X_get_any {rc : Nat → Int32} {rb : Nat → Nat → Int32} {r c i : Nat} (h1 : rc r = nI c) (h2 : c ≤ rlen r) (hi : i < c) : ∃ v, p_X3_get r (nI i) rc rb = some v := by
  have := rlen_le r
  refine ⟨rb r i &&& nI 255, ?_⟩
  unfold p_X3_get
  rw [h1]
  simp (disch := omega) only [ltI, eqI, addI, subI, mulI, divI, ixI, inbI, i2lI, l2iL, ltL, eqL, addL, mulL, subL, gdD, if_pos, if_neg, if_true, if_false, bdS1, bdS2, bdS3, bdS4, bdS5, bdS6, bdS7, bdS8, bdS9, bdS10, bdS11, bdS12, bdS13, moN, moS]
theorem X_get_seg {rc : Nat → Int32} {rb : Nat → Nat → Int32} {r i : Nat} {l : List Int32} (h1 : rc r = nI l.length) (h2 : l.length ≤ rlen r) (hs : Seg (rb r) l) (hi : i < l.length) : p_X3_get r (nI i) rc rb = some (l[i] &&& nI 255) := by
  have := rlen_le r
  unfold p_X3_get
  rw [h1]
  simp (disch := omega) only [ltI, eqI, addI, subI, mulI, divI, ixI, inbI, i2lI, l2iL, ltL, eqL, addL, mulL, subL, gdD, if_pos, if_neg, if_true, if_false, bdS1, bdS2, bdS3, bdS4, bdS5, bdS6, bdS7, bdS8, bdS9, bdS10, bdS11, bdS12, bdS13, moN, moS, hs i hi]
theorem X_append_L {d s : Nat} {B L : List Int32} (hds : s ≠ d) (hb : b8L B) (hBl : B.length ≤ rlen s) : ∀ (m n i : Nat) (rc rv : Nat → Int32) (rb : Nat → Nat → Int32), B.length - i = m → i ≤ B.length → m < n → rc s = nI B.length → Seg (rb s) B → XOut rc rv rb d (L ++ B.take i) → ∃ rc' rv' rb', itr4 (p_X3_append_L25 d s) n (nI i) rc rv rb = some (rc', rv', rb') ∧ XOut rc' rv' rb' d (L ++ B) ∧ FrR d rc rv rb rc' rv' rb' := by
  have hrl := rlen_le s
  intro m
  induction m with
  | zero =>
    intro n i rc rv rb h1 h2 h3 h4 h5 h
    have : i = B.length := by omega
    subst this
    cases n with
    | zero => omega
    | succ n =>
      rw [List.take_length] at h
      refine ⟨rc, rv, rb, ?_, h, FrR.rf⟩
      show p_X3_append_L25 d s _ (nI B.length) rc rv rb = _
      rw [p_X3_append_L25, h4, if_neg (by rw [ltI (by omega) (by omega)]; omega)]
  | succ m ih =>
    intro n i rc rv rb h1 h2 h3 h4 h5 h
    cases n with
    | zero => omega
    | succ n =>
      have hi : i < B.length := by omega
      obtain ⟨rc1, rv1, rb1, e1, g1, f1⟩ := XOut_push (B[i] &&& nI 255) h
      rw [b8_and, hb _ (List.getElem_mem hi), List.append_assoc, take_snoc hi] at g1
      obtain ⟨k1, k2, k3⟩ := f1 s hds
      obtain ⟨rc2, rv2, rb2, e2, g2, f2⟩ := ih n (i + 1) rc1 rv1 rb1 (by omega) (by omega) (by omega) (k1.trans h4) (by rw [k3]; exact h5) g1
      refine ⟨rc2, rv2, rb2, ?_, g2, f1.tr f2⟩
      show p_X3_append_L25 d s _ (nI i) rc rv rb = _
      rw [p_X3_append_L25, if_pos (by rw [h4, ltI (by omega) (by omega)]; omega), X_get_seg h4 hBl h5 hi, bdS1, e1, bdS3, addI]
      exact e2
theorem X_append_any_L {d s c : Nat} (hds : s ≠ d) (hc : c ≤ rlen s) : ∀ (m n i : Nat) (L : List Int32) (rc rv : Nat → Int32) (rb : Nat → Nat → Int32), c - i = m → i ≤ c → m < n → rc s = nI c → XOut rc rv rb d L → rlen d < L.length → ∃ rc' rv' rb' L', itr4 (p_X3_append_L25 d s) n (nI i) rc rv rb = some (rc', rv', rb') ∧ XOut rc' rv' rb' d L' ∧ rlen d < L'.length ∧ FrR d rc rv rb rc' rv' rb' := by
  have hrl := rlen_le s
  intro m
  induction m with
  | zero =>
    intro n i L rc rv rb h1 h2 h3 h4 h hL
    have : i = c := by omega
    subst this
    cases n with
    | zero => omega
    | succ n =>
      refine ⟨rc, rv, rb, L, ?_, h, hL, FrR.rf⟩
      show p_X3_append_L25 d s _ (nI i) rc rv rb = _
      rw [p_X3_append_L25, h4, if_neg (by rw [ltI (by omega) (by omega)]; omega)]
  | succ m ih =>
    intro n i L rc rv rb h1 h2 h3 h4 h hL
    cases n with
    | zero => omega
    | succ n =>
      obtain ⟨v, ev⟩ := X_get_any (rb := rb) h4 hc (show i < c by omega)
      obtain ⟨rc1, rv1, rb1, e1, g1, f1⟩ := XOut_push v h
      obtain ⟨k1, k2, k3⟩ := f1 s hds
      obtain ⟨rc2, rv2, rb2, L2, e2, g2, g3, f2⟩ := ih n (i + 1) _ rc1 rv1 rb1 (by omega) (by omega) (by omega) (k1.trans h4) g1 (by rw [List.length_append]; omega)
      refine ⟨rc2, rv2, rb2, L2, ?_, g2, g3, f1.tr f2⟩
      show p_X3_append_L25 d s _ (nI i) rc rv rb = _
      rw [p_X3_append_L25, if_pos (by rw [h4, ltI (by omega) (by omega)]; omega), ev, bdS1, e1, bdS3, addI]
      exact e2
theorem X_append {d s : Nat} {B L : List Int32} {rc rv : Nat → Int32} {rb : Nat → Nat → Int32} (hds : s ≠ d) (hsd : rlen d = rlen s) (hb : b8L B) (hs : XOut rc rv rb s B) (h : XOut rc rv rb d L) : ∃ rc' rv' rb', p_X3_append d s rc rv rb = some (rc', rv', rb') ∧ XOut rc' rv' rb' d (L ++ B) ∧ FrR d rc rv rb rc' rv' rb' := by
  have hrl := rlen_le s
  unfold p_X3_append
  rcases hs with ⟨s1, s2, s3, s4⟩ | ⟨s1, s2, c, s3, s4⟩
  · have hd : ∀ x, rv d = x → (up rv d x = rv) := fun x hx => by rw [← hx, up_id]
    rcases h with ⟨a1, a2, a3, a4⟩ | ⟨a1, a2, a3⟩
    · rw [if_pos a3, if_pos s3, hd _ a3]
      exact X_append_L hds hb s1 B.length fu 0 rc rv rb (by omega) (by omega) (by rw [fu_eq]; omega) s2 s4 (by rw [List.take_zero, List.append_nil]; exact Or.inl ⟨a1, a2, a3, a4⟩)
    · rw [if_neg (by rw [a2]; decide), hd _ a2]
      exact X_append_L hds hb s1 B.length fu 0 rc rv rb (by omega) (by omega) (by rw [fu_eq]; omega) s2 s4 (by rw [List.take_zero, List.append_nil]; exact Or.inr ⟨a1, a2, a3⟩)
  · have hone : XOut rc (up rv d (nI 1)) rb d B := by
      obtain ⟨c0, h1, h2, -⟩ := XOut_cnt h
      exact Or.inr ⟨by omega, up_s, c0, h1, h2⟩
    obtain ⟨rc1, rv1, rb1, L1, e1, g1, g2, f1⟩ := X_append_any_L hds s3 c fu 0 B rc (up rv d (nI 1)) rb (by omega) (by omega) (by rw [fu_eq]; omega) s4 hone (by omega)
    have hf : FrR d rc rv rb rc1 rv1 rb1 := fun q hq => ⟨(f1 q hq).1, (f1 q hq).2.1.trans (up_n hq), (f1 q hq).2.2⟩
    have hfin := XOut_over g1 g2 (show rlen d < (L ++ B).length by rw [List.length_append]; omega)
    by_cases hz : rv d = nI 0
    · rw [if_pos hz, if_neg (by rw [s2]; decide)]
      exact ⟨rc1, rv1, rb1, e1, hfin, hf⟩
    · rw [if_neg hz]
      exact ⟨rc1, rv1, rb1, e1, hfin, hf⟩
theorem X_clear {r : Nat} {rc rv : Nat → Int32} {rb : Nat → Nat → Int32} : ∃ rc' rv', p_X3_clear r rc rv = some (rc', rv') ∧ XOut rc' rv' rb r [] ∧ FrR r rc rv rb rc' rv' rb :=
  ⟨_, _, rfl, Or.inl ⟨Nat.zero_le _, up_s, up_s, fun k hk => by simp at hk⟩, fun q hq => ⟨up_n hq, up_n hq, rfl⟩⟩
theorem X_set_any {rc : Nat → Int32} {rb : Nat → Nat → Int32} {r c j : Nat} (v : Int32) (h1 : rc r = nI c) (h2 : c ≤ rlen r) (hj : j < 2 ^ 31) : ∃ rb', p_X3_set r (nI j) v rc rb = some rb' ∧ (∀ q, q ≠ r → rb' q = rb q) ∧ (j < c → rb' = up rb r (up (rb r) j (b8 v))) := by
  have := rlen_le r
  unfold p_X3_set
  rw [h1]
  by_cases hc : j < c
  · refine ⟨up rb r (up (rb r) j (b8 v)), ?_, fun q hq => up_n hq, fun _ => rfl⟩
    simp (disch := omega) only [ltI, eqI, addI, subI, mulI, divI, ixI, inbI, i2lI, l2iL, ltL, eqL, addL, mulL, subL, gdD, if_pos, if_neg, if_true, if_false, bdS1, bdS2, bdS3, bdS4, bdS5, bdS6, bdS7, bdS8, bdS9, bdS10, bdS11, bdS12, bdS13, moN, moS]
  · refine ⟨rb, ?_, fun q hq => rfl, fun h => absurd h hc⟩
    simp (disch := omega) only [ltI, eqI, addI, subI, mulI, divI, ixI, inbI, i2lI, l2iL, ltL, eqL, addL, mulL, subL, gdD, if_pos, if_neg, if_true, if_false, bdS1, bdS2, bdS3, bdS4, bdS5, bdS6, bdS7, bdS8, bdS9, bdS10, bdS11, bdS12, bdS13, moN, moS]
theorem iushr_lit {n i : Nat} (hn : n < 2 ^ 31) (hi : i < 4) : b8 (iushr (nI n) (nI (8 * i))) = b8 (l2i (lshr (lN n) (nI (8 * i)))) := by
  rw [← b8_sh (lN n) (by omega)]
  have e1 : iushr (nI n) (nI (8 * i)) = nI (n / 2 ^ (8 * i)) := by
    have hk : i = 0 ∨ i = 1 ∨ i = 2 ∨ i = 3 := by omega
    rcases hk with rfl | rfl | rfl | rfl <;> exact pk_ushrN (by omega) _ _ (by decide)
  have e2 : lushr (lN n) (nI (8 * i)) = lN (n / 2 ^ (8 * i)) := wb_shr (by omega) (by omega)
  rw [e1, e2, l2iL]
theorem X_tell_any_L {r c P : Nat} {rc : Nat → Int32} {x : Int32} (h1 : rc r = nI c) (h2 : c ≤ rlen r) (hP : P ≤ 20000) : ∀ (m n i : Nat) (rb : Nat → Nat → Int32), 4 - i = m → i ≤ 4 → m < n → ∃ rb', itr2 (p_X3_tellLength_L11 r (nI P) x rc) n (nI i) rb = some rb' ∧ ∀ q, q ≠ r → rb' q = rb q := by
  intro m
  induction m with
  | zero =>
    intro n i rb a1 a2 a3
    have : i = 4 := by omega
    subst this
    cases n with
    | zero => omega
    | succ n =>
      refine ⟨rb, ?_, fun q hq => rfl⟩
      show p_X3_tellLength_L11 r (nI P) x rc _ (nI 4) rb = _
      rw [p_X3_tellLength_L11, if_neg (by decide)]
  | succ m ih =>
    intro n i rb a1 a2 a3
    cases n with
    | zero => omega
    | succ n =>
      obtain ⟨rb1, e1, f1, -⟩ := X_set_any (rb := rb) (j := P + i) (iushr x (nI (8 * i))) h1 h2 (by omega)
      obtain ⟨rb2, e2, f2⟩ := ih n (i + 1) rb1 (by omega) (by omega) (by omega)
      refine ⟨rb2, ?_, fun q hq => (f2 q hq).trans (f1 q hq)⟩
      show p_X3_tellLength_L11 r (nI P) x rc _ (nI i) rb = _
      rw [p_X3_tellLength_L11, if_pos (by rw [ltI (by omega) (by omega)]; omega), addI, mulI, e1, bdS1, addI]
      exact e2
theorem X_tell_L {r c P N : Nat} {rc : Nat → Int32} {f : Nat → Int32} (h1 : rc r = nI c) (h2 : c ≤ rlen r) (hP : P + 4 ≤ c) (hN : N < 2 ^ 31) : ∀ (m n i : Nat) (rb : Nat → Nat → Int32), 4 - i = m → i ≤ 4 → m < n → rb r = wr f P ((litB (lN N) 4).take i) → ∃ rb', itr2 (p_X3_tellLength_L11 r (nI P) (nI N) rc) n (nI i) rb = some rb' ∧ (∀ q, q ≠ r → rb' q = rb q) ∧ rb' r = wr f P (litB (lN N) 4) := by
  have hrl := rlen_le r
  intro m
  induction m with
  | zero =>
    intro n i rb a1 a2 a3 a4
    have : i = 4 := by omega
    subst this
    cases n with
    | zero => omega
    | succ n =>
      refine ⟨rb, ?_, fun q hq => rfl, by rw [a4, List.take_of_length_le (by rw [litB_len]; omega)]⟩
      show p_X3_tellLength_L11 r (nI P) (nI N) rc _ (nI 4) rb = _
      rw [p_X3_tellLength_L11, if_neg (by decide)]
  | succ m ih =>
    intro n i rb a1 a2 a3 a4
    cases n with
    | zero => omega
    | succ n =>
      obtain ⟨rb1, e1, f1, g1⟩ := X_set_any (rb := rb) (j := P + i) (iushr (nI N) (nI (8 * i))) h1 h2 (by omega)
      have hil : i < (litB (lN N) 4).length := by rw [litB_len]; omega
      have g2 : rb1 r = wr f P ((litB (lN N) 4).take (i + 1)) := by
        rw [g1 (by omega), up_s, a4, ← take_snoc hil]
        have e : P + i = P + ((litB (lN N) 4).take i).length := by rw [List.length_take, litB_len]; omega
        rw [e, wr_snoc]
        congr 2
        rw [iushr_lit hN (by omega)]
        simp [litB]
      obtain ⟨rb2, e2, f2, g3⟩ := ih n (i + 1) rb1 (by omega) (by omega) (by omega) g2
      refine ⟨rb2, ?_, fun q hq => (f2 q hq).trans (f1 q hq), g3⟩
      show p_X3_tellLength_L11 r (nI P) (nI N) rc _ (nI i) rb = _
      rw [p_X3_tellLength_L11, if_pos (by rw [ltI (by omega) (by omega)]; omega), addI, mulI, e1, bdS1, addI]
      exact e2
theorem Seg.mid {f : Nat → Int32} {P Z R Y : List Int32} (h : Seg f (P ++ (Z ++ R))) (hl : Z.length = Y.length) : Seg (wr f P.length Y) (P ++ (Y ++ R)) := by
  intro k hk
  simp only [List.length_append] at hk
  have hk' : k < (P ++ (Z ++ R)).length := by simp only [List.length_append]; omega
  by_cases h1 : k < P.length
  · rw [wr_out (Or.inl h1), h k hk', List.getElem_append_left h1, List.getElem_append_left h1]
  · by_cases h2 : k - P.length < Y.length
    · rw [wr_in (by omega) h2, List.getElem_append_right (by omega), List.getElem_append_left h2]
    · rw [wr_out (Or.inr (by omega)), h k hk', List.getElem_append_right (by omega), List.getElem_append_right (by omega), List.getElem_append_right (by omega), List.getElem_append_right (by omega)]
      simp only [hl]
theorem X_ownRuns {n0 : Nat} {la : Nat → Nat → Int64} {L : List Int32} {rc rv : Nat → Int32} {rb : Nat → Nat → Int32} (hn : n0 ≤ 200) (h : XOut rc rv rb 3 L) : ∃ rc' rv' rb', p_X2_pushOwnRuns (nI n0) rc rv rb la = some (rc', rv', rb') ∧ XOut rc' rv' rb' 3 (L ++ (litB (lN (runsB (la 0) 1 n0 n0 0).length) 4 ++ runsB (la 0) 1 n0 n0 0)) ∧ FrR 3 rc rv rb rc' rv' rb' := by
  obtain ⟨c0, p1, p2, p3⟩ := XOut_cnt h
  obtain ⟨a1, b1, d1, e1, g1, f1⟩ := X_lit (N := 4) (w := lN 0) (by omega) h
  obtain ⟨a2, b2, d2, e2, g2, f2⟩ := X_runs (q := 0) (w := 1) (la := la) (by omega) hn g1
  obtain ⟨c2, q1, q2, q3⟩ := XOut_cnt g2
  have h3 : rlen 3 = 12000 := rfl
  have hz := litB_len (lN 0) 4
  have hy := litB_len (lN (runsB (la 0) 1 n0 n0 0).length) 4
  unfold p_X2_pushOwnRuns
  rw [e1, bdS3, e2, bdS3]
  unfold p_X3_tellLength
  rw [p2, q2]
  by_cases hov : (L ++ litB (lN 0) 4 ++ runsB (la 0) 1 n0 n0 0).length ≤ rlen 3
  · have hc2 := q3 hov
    simp only [List.length_append] at hov hc2
    have hc0 := p3 (by omega)
    subst hc0
    obtain ⟨rb3, e3, f3, g3⟩ := X_tell_L (r := 3) (c := c2) (P := L.length) (N := (runsB (la 0) 1 n0 n0 0).length) (rc := a2) (f := d2 3) q2 q1 (by omega) (by omega) 4 fu 0 d2 (by omega) (by omega) (by rw [fu_eq]; omega) (by rw [List.take_zero, wr_nil])
    have ec : nI c2 - nI L.length - nI 4 = nI (runsB (la 0) 1 n0 n0 0).length := by
      rw [subI (by omega), subI (by omega)]
      congr 1
      omega
    refine ⟨a2, b2, rb3, ?_, ?_, ?_⟩
    · rw [ec, e3]
      rfl
    · rcases g2 with ⟨m1, m2, m3, m4⟩ | ⟨m1, -⟩
      · refine Or.inl ⟨by simp only [List.length_append]; omega, by rw [q2]; congr 1; simp only [List.length_append]; omega, m3, ?_⟩
        rw [g3]
        rw [List.append_assoc] at m4
        exact m4.mid (by omega)
      · simp only [List.length_append] at m1
        omega
    · exact fun q hq => ⟨(f1.tr f2 q hq).1, (f1.tr f2 q hq).2.1, (f3 q hq).trans (f1.tr f2 q hq).2.2⟩
  · obtain ⟨rb3, e3, f3⟩ := X_tell_any_L (r := 3) (c := c2) (P := c0) (rc := a2) (x := nI c2 - nI c0 - nI 4) q2 q1 (by omega) 4 fu 0 d2 (by omega) (by omega) (by rw [fu_eq]; omega)
    refine ⟨a2, b2, rb3, ?_, ?_, ?_⟩
    · rw [e3]
      rfl
    · rcases g2 with ⟨m1, -⟩ | ⟨m1, m2⟩
      · exact absurd m1 hov
      · refine Or.inr ⟨?_, m2⟩
        simp only [List.length_append] at m1 ⊢
        omega
    · exact fun q hq => ⟨(f1.tr f2 q hq).1, (f1.tr f2 q hq).2.1, (f3 q hq).trans (f1.tr f2 q hq).2.2⟩
