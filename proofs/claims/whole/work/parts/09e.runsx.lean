theorem iminI {a b : Nat} (ha : a < 2 ^ 31) (hb : b < 2 ^ 31) : imin (nI a) (nI b) = nI (min a b) := by
  unfold imin
  by_cases h : b < a
  · rw [if_pos (by rw [ltI hb ha]; exact h), Nat.min_eq_right (by omega)]
  · rw [if_neg (by rw [ltI hb ha]; exact h), Nat.min_eq_left (by omega)]
theorem imaxI {a b : Nat} (ha : a < 2 ^ 31) (hb : b < 2 ^ 31) : imax (nI a) (nI b) = nI (max a b) := by
  unfold imax
  by_cases h : a < b
  · rw [if_pos (by rw [ltI ha hb]; exact h), Nat.max_eq_right (by omega)]
  · rw [if_neg (by rw [ltI ha hb]; exact h), Nat.max_eq_left (by omega)]
theorem X_wholeGroups {x : Nat} (h : x < 2 ^ 30) : p_X5_wholeGroups (nI x) = some (nI ((x + 7) / 8)) := by
  unfold p_X5_wholeGroups
  rw [addI, subI (by omega), divI (by omega) (by omega) (by omega)]
  rfl
theorem X_grp_L {q a n0 : Nat} {la : Nat → Nat → Int64} (hn : n0 ≤ 200) : ∀ (f n G : Nat), n0 - (a + 8 * G) ≤ f → a + 8 * G ≤ n0 + 8 → f < n → itr1 (p_X3_groupsEnd_L5 q (nI n0) la) n (nI (a + 8 * G)) = some (nI (min (a + 8 * grpE (la q) a n0 f G) n0)) := by
  intro f
  induction f with
  | zero =>
    intro n G h1 h2 h4
    cases n with
    | zero => omega
    | succ n =>
      show p_X3_groupsEnd_L5 q (nI n0) la _ (nI (a + 8 * G)) = _
      rw [p_X3_groupsEnd_L5, if_neg (by rw [ltI (by omega) (by omega)]; omega), iminI (by omega) (by omega)]
      rfl
  | succ f ih =>
    intro n G h1 h2 h4
    cases n with
    | zero => omega
    | succ n =>
      show p_X3_groupsEnd_L5 q (nI n0) la _ (nI (a + 8 * G)) = _
      rw [p_X3_groupsEnd_L5, grpE]
      by_cases h : a + 8 * G < n0
      · have hr := alk_rng (la q) h
        rw [if_pos (by rw [ltI (by omega) (by omega)]; exact h), X_alike h hn, bdS1, if_pos h]
        by_cases h8 : alk (la q) (a + 8 * G) n0 < 8
        · rw [if_pos (by rw [ltI (by omega) (by omega)]; exact h8), if_pos h8, addI, show a + 8 * G + 8 = a + 8 * (G + 1) by omega]
          exact ih n (G + 1) (by omega) (by omega) (by omega)
        · rw [if_neg (by rw [ltI (by omega) (by omega)]; exact h8), if_neg h8, iminI (by omega) (by omega)]
      · rw [if_neg (by rw [ltI (by omega) (by omega)]; exact h), if_neg h, iminI (by omega) (by omega)]
theorem X_runs_L {r q w n0 : Nat} {la : Nat → Nat → Int64} (hw : w ≤ 56) (hn : n0 ≤ 200) : ∀ (f n a run : Nat) (L : List Int32) (rc rv : Nat → Int32) (rb : Nat → Nat → Int32), n0 - a ≤ f → a ≤ n0 + 8 → run ≤ a → f < n → XOut rc rv rb r L → ∃ rc' rv' rb', itr5 (p_X3_pushRuns_L6 r q (nI n0) (nI w) la) n (nI a) (nI run) rc rv rb = some (rc', rv', rb') ∧ XOut rc' rv' rb' r (L ++ runsB (la q) w n0 f a) ∧ FrR r rc rv rb rc' rv' rb' := by
  intro f
  induction f with
  | zero =>
    intro n a run L rc rv rb h1 h2 hr0 h3 h
    cases n with
    | zero => omega
    | succ n =>
      refine ⟨rc, rv, rb, ?_, by simpa [runsB] using h, FrR.rf⟩
      show p_X3_pushRuns_L6 r q (nI n0) (nI w) la _ (nI a) (nI run) rc rv rb = _
      rw [p_X3_pushRuns_L6, if_neg (show ¬ (nI a < nI n0) by rw [ltI (by omega) (by omega)]; omega)]
      split <;> rfl
  | succ f ih =>
    intro n a run L rc rv rb h1 h2 hr0 h3 h
    cases n with
    | zero => omega
    | succ n =>
      show ∃ rc' rv' rb', p_X3_pushRuns_L6 r q (nI n0) (nI w) la _ (nI a) (nI run) rc rv rb = _ ∧ _
      rw [p_X3_pushRuns_L6, runsB]
      by_cases ha : a < n0
      · have hr := alk_rng (la q) ha
        rw [if_pos (show nI run < nI n0 by rw [ltI (by omega) (by omega)]; omega), if_pos (show nI a < nI n0 by rw [ltI (by omega) (by omega)]; exact ha), if_pos (show nI a < nI 200 by rw [ltI (by omega) (by omega)]; omega), X_alike ha hn, bdS1, if_pos ha]
        by_cases h8 : alk (la q) a n0 < 8
        · have hg := grp_rng (la q) ha
          have eG : p_X3_groupsEnd q (nI a) (nI n0) la = some (nI (min (a + 8 * grp (la q) a n0) n0)) := by
            unfold p_X3_groupsEnd
            rw [addI]
            exact X_grp_L hn n0 fu 1 (by omega) (by omega) (by rw [fu_eq]; omega)
          have e7 : (min (a + 8 * grp (la q) a n0) n0 - a + 7) / 8 = grp (la q) a n0 := by omega
          rw [if_pos (by rw [ltI (by omega) (by omega)]; exact h8), if_pos h8, eG, bdS1, subI (by omega), X_wholeGroups (by omega), bdS1, e7, i2lI (by omega)]
          obtain ⟨rc1, rv1, rb1, e1, g1, f1⟩ := X_var (v := lN 2 * lN (grp (la q) a n0) + lN 1) h
          rw [e1, bdS3, mulI, Nat.mul_comm (grp (la q) a n0) 8]
          obtain ⟨rc2, rv2, rb2, e2, g2, f2⟩ := X_pack (r := r) (q := q) (lim := min (a + 8 * grp (la q) a n0) n0) (w := w) (i0 := a) (cnt := 8 * grp (la q) a n0) (la := la) (g := fun j => if a + j < n0 then la q (a + j) else lN 0) (by omega) (by omega) (by omega) (fun j hj => by
            by_cases hjn : a + j < n0
            · rw [if_pos hjn, if_pos (by omega)]
            · rw [if_neg hjn, if_neg (by omega)]) g1
          rw [e2, bdS3, addI, addI]
          obtain ⟨rc3, rv3, rb3, e3, g3, f3⟩ := ih n (a + 8 * grp (la q) a n0) (run + 1) _ rc2 rv2 rb2 (by omega) (by omega) (by omega) (by omega) g2
          exact ⟨rc3, rv3, rb3, e3, by simpa [List.append_assoc] using g3, (f1.tr f2).tr f3⟩
        · rw [if_neg (by rw [ltI (by omega) (by omega)]; exact h8), if_neg h8, i2lI (by omega)]
          obtain ⟨rc1, rv1, rb1, e1, g1, f1⟩ := X_var (v := lN 2 * lN (alk (la q) a n0)) h
          rw [e1, bdS3, inbI (by omega), gdD (by omega), ixI (by omega), addI, divI (by omega) (by omega) (by omega)]
          obtain ⟨rc2, rv2, rb2, e2, g2, f2⟩ := X_lit (N := (w + 7) / 8) (w := la q a) (by omega) g1
          rw [e2, bdS3, addI, addI]
          obtain ⟨rc3, rv3, rb3, e3, g3, f3⟩ := ih n (a + alk (la q) a n0) (run + 1) _ rc2 rv2 rb2 (by omega) (by omega) (by omega) (by omega) g2
          exact ⟨rc3, rv3, rb3, e3, by simpa [List.append_assoc] using g3, (f1.tr f2).tr f3⟩
      · rw [if_neg (show ¬ (nI a < nI n0) by rw [ltI (by omega) (by omega)]; exact ha), if_neg ha]
        refine ⟨rc, rv, rb, ?_, by simpa using h, FrR.rf⟩
        split <;> rfl
theorem X_runs {r q w n0 : Nat} {la : Nat → Nat → Int64} {L : List Int32} {rc rv : Nat → Int32} {rb : Nat → Nat → Int32} (hw : w ≤ 56) (hn : n0 ≤ 200) (h : XOut rc rv rb r L) : ∃ rc' rv' rb', p_X3_pushRuns r q (nI n0) (nI w) rc rv rb la = some (rc', rv', rb') ∧ XOut rc' rv' rb' r (L ++ runsB (la q) w n0 n0 0) ∧ FrR r rc rv rb rc' rv' rb' := by
  unfold p_X3_pushRuns
  exact X_runs_L hw hn n0 fu 0 0 L rc rv rb (by omega) (by omega) (by omega) (by rw [fu_eq]; omega) h
