theorem pwF_sh {f : Nat → Int64} {e : Nat} : ∀ (fuel i acc : Nat), pwF f (e + 1) fuel (i + 1) acc = pwF (fun t => f (t + 1)) e fuel i acc := by
  intro fuel
  induction fuel with
  | zero => intro i acc; rfl
  | succ fuel ih =>
    intro i acc
    unfold pwF
    by_cases h : i < e
    · rw [if_pos h, if_pos (by omega), ih]
    · rw [if_neg h, if_neg (by omega)]
theorem X_steps_L {q n0 ints : Nat} {g : Nat → Int64} {kx : (Nat → Nat → Int64) → Option ((Nat → Int32) × (Nat → Int32) × (Nat → Nat → Int32) × (Nat → Nat → Int64))} (hn : n0 ≤ 200) (hint : ints ≤ 1) : ∀ (i n : Nat) (la : Nat → Nat → Int64), i < n0 → i < n → (∀ j, j ≤ i → la q j = g j) → (∀ j, i < j → j < n0 → la q j = dstep ints g (j - 1)) → ∃ la', itr2 (p_X3_pushDifferences_L53 q (nI ints) kx) n (nI i) la = kx la' ∧ ∀ t, t + 1 < n0 → la' q (t + 1) = dstep ints g t := by
  intro i
  induction i with
  | zero =>
    intro n la h1 h2 h3 h4
    cases n with
    | zero => omega
    | succ n =>
      refine ⟨la, ?_, fun t ht => by have := h4 (t + 1) (by omega) ht; simpa using this⟩
      show p_X3_pushDifferences_L53 q (nI ints) kx _ (nI 0) la = _
      rw [p_X3_pushDifferences_L53, if_neg (by decide)]
  | succ i ih =>
    intro n la h1 h2 h3 h4
    cases n with
    | zero => omega
    | succ n =>
      have hd : la q (i + 1) - la q i = g (i + 1) - g i := by rw [h3 _ (Nat.le_refl _), h3 i (by omega)]
      obtain ⟨la', e1, g1⟩ := ih n (up la q (up (la q) (i + 1) (dstep ints g i))) (by omega) (by omega)
        (fun j hj => by rw [up_s, up_n (by omega)]; exact h3 j (by omega))
        (fun j hj hjn => by
          rw [up_s]
          unfold up
          by_cases e : j = i + 1
          · rw [if_pos e, e]; rfl
          · rw [if_neg e]; exact h4 j (by omega) hjn)
      refine ⟨la', ?_, g1⟩
      show p_X3_pushDifferences_L53 q (nI ints) kx _ (nI (i + 1)) la = _
      rw [p_X3_pushDifferences_L53, if_pos (by rw [ltI (by omega) (by omega)]; omega), subI (by omega), Nat.add_sub_cancel, inbI (by omega), gdD (by omega), inbI (by omega), gdD (by omega), gdD (by omega), ixI (by omega), ixI (by omega), hd, pk_m1]
      unfold dstep at e1
      by_cases h0 : ints = 0
      · subst h0
        rw [if_pos rfl]
        rw [if_pos rfl] at e1
        exact e1
      · rw [if_neg (by rw [eqI (by omega) (by omega)]; omega), gdD (by omega)]
        rw [if_neg h0] at e1
        exact e1
theorem X_least_L {q e : Nat} {la : Nat → Nat → Int64} {kx : Int64 → Option (Int64 × (Nat → Nat → Int64))} (he : e + 1 ≤ 200) : ∀ (f n i : Nat) (acc : Int64), e - i ≤ f → i ≤ e → f < n → itr2 (p_X3_lowerToLeast_L26 q (nI (e + 1)) la kx) n acc (nI (i + 1)) = kx (leastF (fun t => la q (t + 1)) e f i acc) := by
  intro f
  induction f with
  | zero =>
    intro n i acc h1 h2 h3
    cases n with
    | zero => omega
    | succ n =>
      show p_X3_lowerToLeast_L26 q (nI (e + 1)) la kx _ acc (nI (i + 1)) = _
      rw [p_X3_lowerToLeast_L26, if_neg (show ¬ nI (i + 1) < nI (e + 1) by rw [ltI (by omega) (by omega)]; omega)]
      rfl
  | succ f ih =>
    intro n i acc h1 h2 h3
    cases n with
    | zero => omega
    | succ n =>
      show p_X3_lowerToLeast_L26 q (nI (e + 1)) la kx _ acc (nI (i + 1)) = _
      rw [p_X3_lowerToLeast_L26, leastF]
      by_cases hi : i < e
      · rw [if_pos (show nI (i + 1) < nI (e + 1) by rw [ltI (by omega) (by omega)]; omega), if_pos hi, if_pos (by rw [ltI (by omega) (by omega)]; omega), inbI (by omega), gdD (by omega), ixI (by omega), addI]
        exact ih n (i + 1) _ (by omega) (by omega) (by omega)
      · rw [if_neg (show ¬ nI (i + 1) < nI (e + 1) by rw [ltI (by omega) (by omega)]; omega), if_neg hi]
theorem X_lower_L {q a e ints : Nat} {st : Nat → Int64} {mm : Int64} (he : e + 1 ≤ 200) (hint : ints ≤ 1) : ∀ (m n i : Nat) (la : Nat → Nat → Int64), e - i = m → a ≤ i → i ≤ e → m < n → (∀ t, a ≤ t → t < i → la q (t + 1) = low ints st mm t) → (∀ t, i ≤ t → la q (t + 1) = st t) → ∃ la', itr2 (p_X3_lowerToLeast_L63 q (nI (e + 1)) (nI ints) mm) n (nI (i + 1)) la = some (mm, la') ∧ (∀ t, a ≤ t → t < e → la' q (t + 1) = low ints st mm t) ∧ (∀ t, e ≤ t → la' q (t + 1) = st t) := by
  intro m
  induction m with
  | zero =>
    intro n i la h1 h2 h3 h4 h5 h6
    cases n with
    | zero => omega
    | succ n =>
      refine ⟨la, ?_, fun t h7 h8 => h5 t h7 (by omega), fun t h7 => h6 t (by omega)⟩
      show p_X3_lowerToLeast_L63 q (nI (e + 1)) (nI ints) mm _ (nI (i + 1)) la = _
      rw [p_X3_lowerToLeast_L63, if_neg (show ¬ nI (i + 1) < nI (e + 1) by rw [ltI (by omega) (by omega)]; omega)]
  | succ m ih =>
    intro n i la h1 h2 h3 h4 h5 h6
    cases n with
    | zero => omega
    | succ n =>
      obtain ⟨la', e1, g1, g2⟩ := ih n (i + 1) (up la q (up (la q) (i + 1) (low ints st mm i))) (by omega) (by omega) (by omega) (by omega) (fun t h7 h8 => by
        rw [up_s]
        unfold up
        by_cases e : t = i
        · rw [if_pos (by omega), e]
        · rw [if_neg (by omega), h5 t h7 (by omega)]) (fun t h7 => by
        rw [up_s, up_n (by omega)]
        exact h6 t (by omega))
      refine ⟨la', ?_, g1, g2⟩
      show p_X3_lowerToLeast_L63 q (nI (e + 1)) (nI ints) mm _ (nI (i + 1)) la = _
      rw [p_X3_lowerToLeast_L63, if_pos (show nI (i + 1) < nI (e + 1) by rw [ltI (by omega) (by omega)]; omega), if_pos (by rw [ltI (by omega) (by omega)]; omega), inbI (by omega), gdD (by omega), ixI (by omega), h6 i (Nat.le_refl _), gdD (by omega), addI]
      unfold low at e1
      by_cases h0 : ints = 0
      · subst h0
        rw [if_pos rfl]
        rw [if_pos rfl] at e1
        exact e1
      · rw [if_neg (by rw [eqI (by omega) (by omega)]; omega), gdD (by omega)]
        rw [if_neg h0] at e1
        exact e1
theorem X_lowerToLeast {q a e ints : Nat} {st : Nat → Int64} {la : Nat → Nat → Int64} (ha : a < e) (he : e + 1 ≤ 200) (h128 : e ≤ a + 128) (hint : ints ≤ 1) (hst : ∀ t, a ≤ t → la q (t + 1) = st t) : ∃ la', p_X3_lowerToLeast q (nI (a + 1)) (nI (e + 1)) (nI ints) la = some (least st a e, la') ∧ (∀ t, a ≤ t → t < e → la' q (t + 1) = low ints st (least st a e) t) ∧ (∀ t, e ≤ t → la' q (t + 1) = st t) := by
  have e0 : leastF (fun t => la q (t + 1)) e 128 a (la q (a + 1)) = least st a e := by
    unfold least
    rw [hst a (Nat.le_refl _)]
    exact leastF_cong 128 a _ (fun t h1 _ => hst t h1)
  obtain ⟨la', e1, g1, g2⟩ := X_lower_L (q := q) (a := a) (e := e) (ints := ints) (st := st) (mm := least st a e) he hint (e - a) fu a la (by omega) (by omega) (by omega) (by rw [fu_eq]; omega) (fun t h5 h6 => by omega) hst
  refine ⟨la', ?_, g1, g2⟩
  unfold p_X3_lowerToLeast
  rw [if_neg (by rw [ltI (by omega) (by omega)]; omega), if_pos (by rw [ltI (by omega) (by omega)]; omega), inbI (by omega), gdD (by omega), ixI (by omega), imaxI (by omega) (by omega), Nat.max_eq_left (by omega), X_least_L he 128 fu a _ (by omega) (by omega) (by rw [fu_eq]; omega), e0]
  exact e1
theorem X_wds_L {r q a e : Nat} {la : Nat → Nat → Int64} {lo : Nat → Int64} {kx : (Nat → Int32) → (Nat → Int32) → (Nat → Nat → Int32) → Option ((Nat → Int32) × (Nat → Int32) × (Nat → Nat → Int32) × (Nat → Nat → Int64))} {L : List Int32} (he : e + 1 ≤ 200) (ha : a ≤ 200) (hlo : ∀ t, a ≤ t → t < e → la q (t + 1) = lo t) : ∀ (m n p : Nat) (rc rv : Nat → Int32) (rb : Nat → Nat → Int32), 4 - p = m → p ≤ 4 → m < n → XOut rc rv rb r (L ++ wdsN lo a e p) → ∃ rc' rv' rb', itr4 (p_X3_pushBlock_L22 r q (nI (a + 1)) (nI (e + 1)) la kx) n (nI p) rc rv rb = kx rc' rv' rb' ∧ XOut rc' rv' rb' r (L ++ wdsN lo a e 4) ∧ FrR r rc rv rb rc' rv' rb' := by
  intro m
  induction m with
  | zero =>
    intro n p rc rv rb h1 h2 h3 h
    have : p = 4 := by omega
    subst this
    cases n with
    | zero => omega
    | succ n =>
      refine ⟨rc, rv, rb, ?_, h, FrR.rf⟩
      show p_X3_pushBlock_L22 r q (nI (a + 1)) (nI (e + 1)) la kx _ (nI 4) rc rv rb = _
      rw [p_X3_pushBlock_L22, if_neg (by decide)]
  | succ m ih =>
    intro n p rc rv rb h1 h2 h3 h
    cases n with
    | zero => omega
    | succ n =>
      have ew : pw (la q) (a + 1 + 32 * p) (e + 1) = pw lo (a + 32 * p) e := by
        unfold pw
        rw [show a + 1 + 32 * p = a + 32 * p + 1 by omega, pwF_sh]
        exact pwF_cong 32 _ _ (fun j h5 h6 => hlo j (by omega) h6)
      obtain ⟨rc1, rv1, rb1, e1, g1, f1⟩ := XOut_push (nI (pw lo (a + 32 * p) e)) h
      rw [List.append_assoc] at g1
      obtain ⟨rc2, rv2, rb2, e2, g2, f2⟩ := ih n (p + 1) rc1 rv1 rb1 (by omega) (by omega) (by omega) g1
      refine ⟨rc2, rv2, rb2, ?_, g2, f1.tr f2⟩
      show p_X3_pushBlock_L22 r q (nI (a + 1)) (nI (e + 1)) la kx _ (nI p) rc rv rb = _
      rw [p_X3_pushBlock_L22, if_pos (by rw [ltI (by omega) (by omega)]; omega), mulI, addI, Nat.mul_comm p 32, X_pw he (by omega), bdS1, ew, e1, bdS3, addI]
      exact e2
theorem X_pks_L {r q a e : Nat} {la : Nat → Nat → Int64} {lo : Nat → Int64} {L : List Int32} (he : e + 1 ≤ 200) (ha : a ≤ 200) (hlo : ∀ t, a ≤ t → t < e → la q (t + 1) = lo t) : ∀ (m n p : Nat) (rc rv : Nat → Int32) (rb : Nat → Nat → Int32), 4 - p = m → p ≤ 4 → m < n → XOut rc rv rb r (L ++ pksN lo a e p) → ∃ rc' rv' rb', itr4 (p_X3_pushBlock_L53 r q (nI (a + 1)) (nI (e + 1)) la) n (nI p) rc rv rb = some (rc', rv', rb', la) ∧ XOut rc' rv' rb' r (L ++ pksN lo a e 4) ∧ FrR r rc rv rb rc' rv' rb' := by
  intro m
  induction m with
  | zero =>
    intro n p rc rv rb h1 h2 h3 h
    have : p = 4 := by omega
    subst this
    cases n with
    | zero => omega
    | succ n =>
      refine ⟨rc, rv, rb, ?_, h, FrR.rf⟩
      show p_X3_pushBlock_L53 r q (nI (a + 1)) (nI (e + 1)) la _ (nI 4) rc rv rb = _
      rw [p_X3_pushBlock_L53, if_neg (by decide)]
  | succ m ih =>
    intro n p rc rv rb h1 h2 h3 h
    cases n with
    | zero => omega
    | succ n =>
      show ∃ rc' rv' rb', p_X3_pushBlock_L53 r q (nI (a + 1)) (nI (e + 1)) la _ (nI p) rc rv rb = _ ∧ _
      rw [p_X3_pushBlock_L53, if_pos (by rw [ltI (by omega) (by omega)]; omega), mulI, addI, Nat.mul_comm p 32]
      have ew : pw (la q) (a + 1 + 32 * p) (e + 1) = pw lo (a + 32 * p) e := by
        unfold pw
        rw [show a + 1 + 32 * p = a + 32 * p + 1 by omega, pwF_sh]
        exact pwF_cong 32 _ _ (fun j h5 h6 => hlo j (by omega) h6)
      by_cases hp : a + 32 * p < e
      · obtain ⟨rc1, rv1, rb1, e1, g1, f1⟩ := X_pack (r := r) (q := q) (lim := e + 1) (w := pw lo (a + 32 * p) e) (i0 := a + 1 + 32 * p) (cnt := 32) (la := la) (g := fun j => if a + 32 * p + j < e then lo (a + 32 * p + j) else lN 0) (pw_le _ _ _) (by omega) (by omega) (fun j _ => by
          by_cases hj : a + 32 * p + j < e
          · rw [if_pos hj, if_pos (by omega), show a + 1 + 32 * p + j = a + 32 * p + j + 1 by omega, hlo _ (by omega) hj]
          · rw [if_neg hj, if_neg (by omega)]) h
        rw [List.append_assoc] at g1
        obtain ⟨rc2, rv2, rb2, e2, g2, f2⟩ := ih n (p + 1) rc1 rv1 rb1 (by omega) (by omega) (by omega) (by rw [pksN, if_pos hp]; exact g1)
        refine ⟨rc2, rv2, rb2, ?_, g2, f1.tr f2⟩
        rw [if_pos (by rw [ltI (by omega) (by omega)]; omega), X_pw he (by omega), bdS1, ew, e1, bdS3, addI]
        exact e2
      · obtain ⟨rc2, rv2, rb2, e2, g2, f2⟩ := ih n (p + 1) rc rv rb (by omega) (by omega) (by omega) (by rw [pksN, if_neg hp, List.append_nil]; exact h)
        refine ⟨rc2, rv2, rb2, ?_, g2, f2⟩
        rw [if_neg (by rw [ltI (by omega) (by omega)]; omega), addI]
        exact e2
theorem X_zigged (v : Int64) : p_X5_zigged v = some (zz v) := rfl
theorem X_blk {r q a e ints : Nat} {st : Nat → Int64} {la : Nat → Nat → Int64} {L : List Int32} {rc rv : Nat → Int32} {rb : Nat → Nat → Int32} (ha : a < e) (he : e + 1 ≤ 200) (h128 : e ≤ a + 128) (hint : ints ≤ 1) (hst : ∀ t, a ≤ t → la q (t + 1) = st t) (h : XOut rc rv rb r L) : ∃ rc' rv' rb' la', p_X3_pushBlock r q (nI (a + 1)) (nI (e + 1)) (nI ints) rc rv rb la = some (rc', rv', rb', la') ∧ XOut rc' rv' rb' r (L ++ blkB ints st a e) ∧ FrR r rc rv rb rc' rv' rb' ∧ (∀ t, e ≤ t → la' q (t + 1) = st t) := by
  obtain ⟨la', e0, g0, g0'⟩ := X_lowerToLeast ha he h128 hint hst
  obtain ⟨rc1, rv1, rb1, e1, g1, f1⟩ := X_var (v := zz (least st a e)) h
  obtain ⟨rc3, rv3, rb3, e3, g3, f3⟩ := X_wds_L (r := r) (q := q) (a := a) (e := e) (la := la') (lo := low ints st (least st a e)) (kx := fun rc_16 rv_17 rb_18 => itr4 (p_X3_pushBlock_L53 r q (nI (a + 1)) (nI (e + 1)) la') fu (nI 0) rc_16 rv_17 rb_18) he (by omega) g0 4 fu 0 rc1 rv1 rb1 (by omega) (by omega) (by rw [fu_eq]; omega) (by simpa [wdsN] using g1)
  obtain ⟨rc4, rv4, rb4, e4, g4, f4⟩ := X_pks_L (r := r) (q := q) (a := a) (e := e) (la := la') (lo := low ints st (least st a e)) he (by omega) g0 4 fu 0 rc3 rv3 rb3 (by omega) (by omega) (by rw [fu_eq]; omega) (by simpa [pksN] using g3)
  refine ⟨rc4, rv4, rb4, la', ?_, by unfold blkB; simpa [List.append_assoc] using g4, (f1.tr f3).tr f4, g0'⟩
  unfold p_X3_pushBlock
  rw [e0, bdS2, X_zigged, bdS1, e1, bdS3]
  exact e3.trans e4
theorem X_blks_L {r q n0 ints : Nat} {st : Nat → Int64} (hint : ints ≤ 1) (hn1 : 1 ≤ n0) (hn : n0 ≤ 200) : ∀ (f n a : Nat) (L : List Int32) (rc rv : Nat → Int32) (rb : Nat → Nat → Int32) (la : Nat → Nat → Int64), (n0 - 1) ≤ a + 128 * f → a ≤ 400 → f < n → (∀ t, a ≤ t → la q (t + 1) = st t) → XOut rc rv rb r L → ∃ rc' rv' rb' la', itr5 (p_X3_pushDifferences_L97 r q (nI n0) (nI ints)) n (nI (a + 1)) rc rv rb la = some (rc', rv', rb', la') ∧ XOut rc' rv' rb' r (L ++ blksB ints st (n0 - 1) f a) ∧ FrR r rc rv rb rc' rv' rb' := by
  intro f
  induction f with
  | zero =>
    intro n a L rc rv rb la h1 h2 h3 h4 h
    cases n with
    | zero => omega
    | succ n =>
      refine ⟨rc, rv, rb, la, ?_, by simpa [blksB] using h, FrR.rf⟩
      show p_X3_pushDifferences_L97 r q (nI n0) (nI ints) _ (nI (a + 1)) rc rv rb la = _
      rw [p_X3_pushDifferences_L97, if_neg (by rw [ltI (by omega) (by omega)]; omega)]
  | succ f ih =>
    intro n a L rc rv rb la h1 h2 h3 h4 h
    cases n with
    | zero => omega
    | succ n =>
      show ∃ rc' rv' rb' la', p_X3_pushDifferences_L97 r q (nI n0) (nI ints) _ (nI (a + 1)) rc rv rb la = _ ∧ _
      rw [p_X3_pushDifferences_L97, blksB]
      by_cases ha : a < n0 - 1
      · obtain ⟨rc1, rv1, rb1, la1, e1, g1, f1, k1⟩ := X_blk (r := r) (q := q) (a := a) (e := min (a + 128) (n0 - 1)) (ints := ints) (st := st) (la := la) (by omega) (by omega) (by omega) hint h4 h
        obtain ⟨rc2, rv2, rb2, la2, e2, g2, f2⟩ := ih n (a + 128) _ rc1 rv1 rb1 la1 (by omega) (by omega) (by omega) (fun t ht => k1 t (by omega)) g1
        rw [if_pos (by rw [ltI (by omega) (by omega)]; omega), addI, iminI (by omega) (by omega), iminI (by omega) (by omega), if_pos ha, show min (min (a + 1 + 128) n0) 200 = min (a + 128) (n0 - 1) + 1 by omega, e1, bdS4]
        exact ⟨rc2, rv2, rb2, la2, by rw [show a + 1 + 128 = a + 128 + 1 by omega]; exact e2, by simpa [List.append_assoc] using g2, f1.tr f2⟩
      · rw [if_neg (by rw [ltI (by omega) (by omega)]; omega), if_neg ha]
        exact ⟨rc, rv, rb, la, rfl, by simpa using h, FrR.rf⟩
theorem X_diff {r q n0 ints : Nat} {la : Nat → Nat → Int64} {L : List Int32} {rc rv : Nat → Int32} {rb : Nat → Nat → Int32} (hint : ints ≤ 1) (hn : n0 ≤ 200) (h : XOut rc rv rb r L) : ∃ rc' rv' rb' la', p_X3_pushDifferences r q (nI n0) (nI ints) rc rv rb la = some (rc', rv', rb', la') ∧ XOut rc' rv' rb' r (L ++ diffB (la q) n0 ints) ∧ FrR r rc rv rb rc' rv' rb' := by
  unfold diffB
  obtain ⟨rc1, rv1, rb1, e1, g1, f1⟩ := X_var (v := lN 128) h
  obtain ⟨rc2, rv2, rb2, e2, g2, f2⟩ := X_var (v := lN 4) g1
  obtain ⟨rc3, rv3, rb3, e3, g3, f3⟩ := X_var (v := lN n0) g2
  unfold p_X3_pushDifferences
  rw [e1, bdS3, e2, bdS3, i2lI (by omega), e3, bdS3]
  by_cases h0 : n0 = 0
  · subst h0
    obtain ⟨rc4, rv4, rb4, e4, g4, f4⟩ := X_var (v := zz (lN 0)) g3
    refine ⟨rc4, rv4, rb4, la, ?_, ?_, ((f1.tr f2).tr f3).tr f4⟩
    · rw [if_neg (by decide), p_X3_pushDifferences_J36, p_X3_pushDifferences_J37, X_zigged, bdS1, e4, bdS3]
      have ef : ∃ m, fu = m + 2 := ⟨1048574, rfl⟩
      obtain ⟨m, ef⟩ := ef
      rw [ef]
      show p_X3_pushDifferences_L53 q (nI ints) _ _ (imin (nI 0) (nI 200) - nI 1) la = _
      rw [p_X3_pushDifferences_L53, if_neg (by decide)]
      show p_X3_pushDifferences_L97 r q (nI 0) (nI ints) _ (nI 1) rc4 rv4 rb4 la = _
      rw [p_X3_pushDifferences_L97, if_neg (by decide)]
    · have eb : blksB ints (dstep ints (la q)) (0 - 1) 2 0 = [] := by rw [blksB, if_neg (by omega)]
      rw [eb, if_pos rfl]
      simpa [List.append_assoc] using g4
  · obtain ⟨rc4, rv4, rb4, e4, g4, f4⟩ := X_var (v := zz (la q 0)) g3
    obtain ⟨la', e5, g5⟩ := X_steps_L (q := q) (n0 := n0) (ints := ints) (g := la q) (kx := fun la_24 => itr5 (p_X3_pushDifferences_L97 r q (nI n0) (nI ints)) fu (nI 1) rc4 rv4 rb4 la_24) hn hint (n0 - 1) fu la (by omega) (by rw [fu_eq]; omega) (fun j _ => rfl) (fun j h5 h6 => by omega)
    obtain ⟨rc6, rv6, rb6, la6, e6, g6, f6⟩ := X_blks_L (r := r) (q := q) (n0 := n0) (ints := ints) (st := fun t => la' q (t + 1)) hint (by omega) hn 2 fu 0 _ rc4 rv4 rb4 la' (by omega) (by omega) (by rw [fu_eq]; omega) (fun t _ => rfl) g4
    have ec : blksB ints (fun t => la' q (t + 1)) (n0 - 1) 2 0 = blksB ints (dstep ints (la q)) (n0 - 1) 2 0 := blksB_cong (fun t ht => g5 t (by omega)) 2 0
    rw [ec] at g6
    refine ⟨rc6, rv6, rb6, la6, ?_, ?_, (((f1.tr f2).tr f3).tr f4).tr f6⟩
    · rw [if_pos (by rw [ltI (by omega) (by omega)]; omega), if_pos (by decide), inbI (by omega), gdD (by omega), ixI (by omega), p_X3_pushDifferences_J37, X_zigged, bdS1, e4, bdS3, iminI (by omega) (by omega), Nat.min_eq_left (by omega), subI (by omega)]
      exact e5.trans e6
    · rw [if_neg h0]
      simpa [List.append_assoc] using g6
