/-! RUNS as they are written -/
def alkE (g : Nat → Int64) (a n : Nat) : Nat → Nat → Nat
  | 0, j => j
  | f + 1, j => if j < n then (if g j = g a then alkE g a n f (j + 1) else j) else j
def alk (g : Nat → Int64) (a n : Nat) : Nat := alkE g a n n (a + 1) - a
theorem alkE_rng (g : Nat → Int64) (a n : Nat) : ∀ (f j : Nat), j ≤ n → j ≤ alkE g a n f j ∧ alkE g a n f j ≤ n := by
  intro f
  induction f with
  | zero => intro j h; exact ⟨Nat.le_refl _, h⟩
  | succ f ih =>
    intro j h
    unfold alkE
    split
    · split
      · have := ih (j + 1) (by omega)
        omega
      · omega
    · omega
theorem alk_rng (g : Nat → Int64) {a n : Nat} (h : a < n) : 1 ≤ alk g a n ∧ a + alk g a n ≤ n := by
  have := alkE_rng g a n n (a + 1) (by omega)
  unfold alk
  omega
theorem alkE_cong {g g' : Nat → Int64} {a n : Nat} (ha : a < n) (hg : ∀ i, i < n → g i = g' i) : ∀ (f j : Nat), alkE g a n f j = alkE g' a n f j := by
  intro f
  induction f with
  | zero => intro j; rfl
  | succ f ih =>
    intro j
    unfold alkE
    by_cases h : j < n
    · rw [if_pos h, if_pos h, hg j h, hg a ha, ih]
    · rw [if_neg h, if_neg h]
theorem alk_cong {g g' : Nat → Int64} {a n : Nat} (ha : a < n) (hg : ∀ i, i < n → g i = g' i) : alk g a n = alk g' a n := by
  unfold alk
  rw [alkE_cong ha hg]
theorem M_alike_L {a n0 : Nat} {mn : Nat → Int64} (ha : a < n0) (hn : n0 ≤ 500) : ∀ (f n j : Nat), n0 - j ≤ f → a ≤ j → j ≤ n0 → f < n → itr1 (p_X6_alikeFrom_L2 (nI a) (nI n0) mn) n (nI j) = some (nI (alkE mn a n0 f j - a)) := by
  intro f
  induction f with
  | zero =>
    intro n j h1 h2 h3 h4
    cases n with
    | zero => omega
    | succ n =>
      show p_X6_alikeFrom_L2 (nI a) (nI n0) mn _ (nI j) = _
      rw [p_X6_alikeFrom_L2]
      simp (disch := omega) only [ltI, eqI, addI, subI, mulI, divI, ixI, inbI, i2lI, l2iL, ltL, eqL, addL, mulL, subL, gdD, if_pos, if_neg, if_true, if_false, bdS1, bdS2, bdS3, bdS4, bdS5, bdS6, bdS7, bdS8, bdS9, bdS10, bdS11, bdS12, bdS13, moN, moS, alkE]
  | succ f ih =>
    intro n j h1 h2 h3 h4
    cases n with
    | zero => omega
    | succ n =>
      show p_X6_alikeFrom_L2 (nI a) (nI n0) mn _ (nI j) = _
      rw [p_X6_alikeFrom_L2, alkE]
      by_cases h : j < n0
      · by_cases hg : mn j = mn a
        · rw [if_pos h, if_pos hg, ← ih n (j + 1) (by omega) (by omega) (by omega) (by omega)]
          simp (disch := omega) only [ltI, eqI, addI, subI, mulI, divI, ixI, inbI, i2lI, l2iL, ltL, eqL, addL, mulL, subL, gdD, if_pos, if_neg, if_true, if_false, bdS1, bdS2, bdS3, bdS4, bdS5, bdS6, bdS7, bdS8, bdS9, bdS10, bdS11, bdS12, bdS13, moN, moS, hg]
        · rw [if_pos h, if_neg hg]
          simp (disch := omega) only [ltI, eqI, addI, subI, mulI, divI, ixI, inbI, i2lI, l2iL, ltL, eqL, addL, mulL, subL, gdD, if_pos, if_neg, if_true, if_false, bdS1, bdS2, bdS3, bdS4, bdS5, bdS6, bdS7, bdS8, bdS9, bdS10, bdS11, bdS12, bdS13, moN, moS, hg]
      · rw [if_neg h]
        simp (disch := omega) only [ltI, eqI, addI, subI, mulI, divI, ixI, inbI, i2lI, l2iL, ltL, eqL, addL, mulL, subL, gdD, if_pos, if_neg, if_true, if_false, bdS1, bdS2, bdS3, bdS4, bdS5, bdS6, bdS7, bdS8, bdS9, bdS10, bdS11, bdS12, bdS13, moN, moS]
theorem M_alike {a n0 : Nat} {mn : Nat → Int64} (ha : a < n0) (hn : n0 ≤ 500) : p_X6_alikeFrom (nI a) (nI n0) mn = some (nI (alk mn a n0)) := by
  unfold p_X6_alikeFrom
  rw [M_alike_L ha hn (n0 + 1) fu a (by omega) (by omega) (by omega) (by rw [fu_eq]; omega), alkE, if_pos ha, if_pos rfl]
  rfl
theorem X_alike_L {q a n0 : Nat} {la : Nat → Nat → Int64} (ha : a < n0) (hn : n0 ≤ 200) : ∀ (f n j : Nat), n0 - j ≤ f → a ≤ j → j ≤ n0 → f < n → itr1 (p_X3_equalFrom_L4 q (nI a) (nI n0) la) n (nI j) = some (nI (alkE (la q) a n0 f j - a)) := by
  intro f
  induction f with
  | zero =>
    intro n j h1 h2 h3 h4
    cases n with
    | zero => omega
    | succ n =>
      show p_X3_equalFrom_L4 q (nI a) (nI n0) la _ (nI j) = _
      rw [p_X3_equalFrom_L4]
      simp (disch := omega) only [ltI, eqI, addI, subI, mulI, divI, ixI, inbI, i2lI, l2iL, ltL, eqL, addL, mulL, subL, gdD, if_pos, if_neg, if_true, if_false, bdS1, bdS2, bdS3, bdS4, bdS5, bdS6, bdS7, bdS8, bdS9, bdS10, bdS11, bdS12, bdS13, moN, moS, alkE]
  | succ f ih =>
    intro n j h1 h2 h3 h4
    cases n with
    | zero => omega
    | succ n =>
      show p_X3_equalFrom_L4 q (nI a) (nI n0) la _ (nI j) = _
      rw [p_X3_equalFrom_L4, alkE]
      by_cases h : j < n0
      · by_cases hg : la q j = la q a
        · rw [if_pos h, if_pos hg, ← ih n (j + 1) (by omega) (by omega) (by omega) (by omega)]
          simp (disch := omega) only [ltI, eqI, addI, subI, mulI, divI, ixI, inbI, i2lI, l2iL, ltL, eqL, addL, mulL, subL, gdD, if_pos, if_neg, if_true, if_false, bdS1, bdS2, bdS3, bdS4, bdS5, bdS6, bdS7, bdS8, bdS9, bdS10, bdS11, bdS12, bdS13, moN, moS, hg]
        · rw [if_pos h, if_neg hg]
          simp (disch := omega) only [ltI, eqI, addI, subI, mulI, divI, ixI, inbI, i2lI, l2iL, ltL, eqL, addL, mulL, subL, gdD, if_pos, if_neg, if_true, if_false, bdS1, bdS2, bdS3, bdS4, bdS5, bdS6, bdS7, bdS8, bdS9, bdS10, bdS11, bdS12, bdS13, moN, moS, hg]
      · rw [if_neg h]
        simp (disch := omega) only [ltI, eqI, addI, subI, mulI, divI, ixI, inbI, i2lI, l2iL, ltL, eqL, addL, mulL, subL, gdD, if_pos, if_neg, if_true, if_false, bdS1, bdS2, bdS3, bdS4, bdS5, bdS6, bdS7, bdS8, bdS9, bdS10, bdS11, bdS12, bdS13, moN, moS]
theorem X_alike {q a n0 : Nat} {la : Nat → Nat → Int64} (ha : a < n0) (hn : n0 ≤ 200) : p_X3_equalFrom q (nI a) (nI n0) la = some (nI (alk (la q) a n0)) := by
  unfold p_X3_equalFrom
  rw [addI, X_alike_L ha hn n0 fu (a + 1) (by omega) (by omega) (by omega) (by rw [fu_eq]; omega)]
  rfl
def grpE (g : Nat → Int64) (a n : Nat) : Nat → Nat → Nat
  | 0, G => G
  | f + 1, G => if a + 8 * G < n then (if alk g (a + 8 * G) n < 8 then grpE g a n f (G + 1) else G) else G
def grp (g : Nat → Int64) (a n : Nat) : Nat := grpE g a n n 1
theorem grpE_rng (g : Nat → Int64) (a n : Nat) : ∀ (f G : Nat), G ≤ grpE g a n f G ∧ (a + 8 * (G - 1) < n → a + 8 * (grpE g a n f G - 1) < n) := by
  intro f
  induction f with
  | zero => intro G; exact ⟨Nat.le_refl _, fun h => h⟩
  | succ f ih =>
    intro G
    unfold grpE
    split
    · split
      · have h := ih (G + 1)
        refine ⟨by omega, fun h2 => h.2 (by rw [Nat.add_sub_cancel]; assumption)⟩
      · exact ⟨Nat.le_refl _, fun h => h⟩
    · exact ⟨Nat.le_refl _, fun h => h⟩
theorem grp_rng (g : Nat → Int64) {a n : Nat} (h : a < n) : 1 ≤ grp g a n ∧ a + 8 * (grp g a n - 1) < n := by
  have h2 := grpE_rng g a n n 1
  exact ⟨h2.1, h2.2 (by simpa using h)⟩
theorem grpE_cong {g g' : Nat → Int64} {a n : Nat} (hg : ∀ i, i < n → g i = g' i) : ∀ (f G : Nat), grpE g a n f G = grpE g' a n f G := by
  intro f
  induction f with
  | zero => intro G; rfl
  | succ f ih =>
    intro G
    unfold grpE
    by_cases h : a + 8 * G < n
    · rw [if_pos h, if_pos h, alk_cong h hg, ih]
    · rw [if_neg h, if_neg h]
def runsB (g : Nat → Int64) (w n : Nat) : Nat → Nat → List Int32
  | 0, _ => []
  | f + 1, a => if a < n then (if alk g a n < 8 then varB (lN 2 * lN (grp g a n) + lN 1) ++ packB (fun j => if a + j < n then g (a + j) else lN 0) w (8 * grp g a n) ++ runsB g w n f (a + 8 * grp g a n) else varB (lN 2 * lN (alk g a n)) ++ litB (g a) ((w + 7) / 8) ++ runsB g w n f (a + alk g a n)) else []
theorem runsB_cong {g g' : Nat → Int64} {w n : Nat} (hg : ∀ i, i < n → g i = g' i) : ∀ (f a : Nat), runsB g w n f a = runsB g' w n f a := by
  intro f
  induction f with
  | zero => intro a; rfl
  | succ f ih =>
    intro a
    unfold runsB
    by_cases h : a < n
    · have e1 : grp g a n = grp g' a n := grpE_cong hg n 1
      have e2 : ∀ G, packB (fun j => if a + j < n then g (a + j) else lN 0) w G = packB (fun j => if a + j < n then g' (a + j) else lN 0) w G := fun G => packB_cong (fun i _ => by
        by_cases h2 : a + i < n
        · rw [if_pos h2, if_pos h2, hg _ h2]
        · rw [if_neg h2, if_neg h2])
      rw [if_pos h, if_pos h, alk_cong h hg, e1, e2, ih, ih, hg a h]
    · rw [if_neg h, if_neg h]
theorem runsB_len {g : Nat → Int64} {w n : Nat} (hw : w ≤ 8) : ∀ (f a : Nat), (runsB g w n f a).length ≤ 12 * (n - a) + 80 := by
  intro f
  induction f with
  | zero => intro a; simp [runsB]
  | succ f ih =>
    intro a
    unfold runsB
    by_cases h : a < n
    · rw [if_pos h]
      by_cases h8 : alk g a n < 8
      · have hr := grp_rng g h
        have hv := varB_len (lN 2 * lN (grp g a n) + lN 1)
        have hi := ih (a + 8 * grp g a n)
        have hp := packB_len (fun j => if a + j < n then g (a + j) else lN 0) w (8 * grp g a n)
        have hm : 8 * grp g a n * w / 8 ≤ 8 * grp g a n := by
          have : 8 * grp g a n * w ≤ 8 * grp g a n * 8 := Nat.mul_le_mul_left _ hw
          omega
        rw [if_pos h8, List.length_append, List.length_append, hp]
        by_cases he : a + 8 * grp g a n < n
        · omega
        · have : runsB g w n f (a + 8 * grp g a n) = [] := by
            cases f with
            | zero => rfl
            | succ f => unfold runsB; rw [if_neg he]
          rw [this]
          simp only [List.length_nil]
          omega
      · have hr := alk_rng g h
        have hv := varB_len (lN 2 * lN (alk g a n))
        have hi := ih (a + alk g a n)
        rw [if_neg h8, List.length_append, List.length_append, litB_len]
        omega
    · rw [if_neg h]
      simp
theorem M_grp_L {a n0 : Nat} {mn : Nat → Int64} {kx : Int32 → Option ((Nat → Int32) × Int32)} (hn : n0 ≤ 200) : ∀ (f n G : Nat), n0 - (a + 8 * G) ≤ f → a + 8 * G ≤ n0 + 8 → f < n → itr1 (p_X6_runs_L61 (nI n0) (nI a) mn kx) n (nI G) = kx (nI (grpE mn a n0 f G)) := by
  intro f
  induction f with
  | zero =>
    intro n G h1 h2 h4
    cases n with
    | zero => omega
    | succ n =>
      show p_X6_runs_L61 (nI n0) (nI a) mn kx _ (nI G) = _
      rw [p_X6_runs_L61]
      simp (disch := omega) only [ltI, eqI, addI, subI, mulI, divI, ixI, inbI, i2lI, l2iL, ltL, eqL, addL, mulL, subL, gdD, if_pos, if_neg, if_true, if_false, bdS1, bdS2, bdS3, bdS4, bdS5, bdS6, bdS7, bdS8, bdS9, bdS10, bdS11, bdS12, bdS13, moN, moS, grpE]
  | succ f ih =>
    intro n G h1 h2 h4
    cases n with
    | zero => omega
    | succ n =>
      show p_X6_runs_L61 (nI n0) (nI a) mn kx _ (nI G) = _
      rw [p_X6_runs_L61, grpE]
      by_cases h : a + 8 * G < n0
      · have hr := alk_rng mn h
        rw [mulI, addI, if_pos (by rw [ltI (by omega) (by omega)]; exact h), M_alike h (by omega), bdS1, if_pos h]
        by_cases h8 : alk mn (a + 8 * G) n0 < 8
        · rw [if_pos (by rw [ltI (by omega) (by omega)]; exact h8), if_pos h8, addI]
          exact ih n (G + 1) (by omega) (by omega) (by omega)
        · rw [if_neg (by rw [ltI (by omega) (by omega)]; exact h8), if_neg h8]
      · rw [mulI, addI, if_neg (by rw [ltI (by omega) (by omega)]; exact h), if_neg h]
theorem M_runs_L {w n0 : Nat} {mn : Nat → Int64} (hw : w ≤ 8) (hn : n0 ≤ 200) : ∀ (f n a : Nat) (L : List Int32) (md : Nat → Int32) (mdd : Int32), n0 - a ≤ f → a ≤ n0 + 8 → f < n → L.length + (runsB mn w n0 f a).length ≤ 60000 → MOut md mdd L → ∃ md' mdd', itr3 (p_X6_runs_L2 (nI n0) (nI w) mn) n (nI a) md mdd = some (md', mdd') ∧ MOut md' mdd' (L ++ runsB mn w n0 f a) := by
  intro f
  induction f with
  | zero =>
    intro n a L md mdd h1 h2 h3 hL h
    cases n with
    | zero => omega
    | succ n =>
      refine ⟨md, mdd, ?_, by simpa [runsB] using h⟩
      show p_X6_runs_L2 (nI n0) (nI w) mn _ (nI a) md mdd = _
      rw [p_X6_runs_L2]
      simp (disch := omega) only [ltI, eqI, addI, subI, mulI, divI, ixI, inbI, i2lI, l2iL, ltL, eqL, addL, mulL, subL, gdD, if_pos, if_neg, if_true, if_false, bdS1, bdS2, bdS3, bdS4, bdS5, bdS6, bdS7, bdS8, bdS9, bdS10, bdS11, bdS12, bdS13, moN, moS]
  | succ f ih =>
    intro n a L md mdd h1 h2 h3 hL h
    cases n with
    | zero => omega
    | succ n =>
      show ∃ md' mdd', p_X6_runs_L2 (nI n0) (nI w) mn _ (nI a) md mdd = _ ∧ _
      rw [p_X6_runs_L2, runsB]
      rw [runsB] at hL
      by_cases ha : a < n0
      · have hr := alk_rng mn ha
        rw [if_pos ha] at hL
        rw [if_pos (by rw [ltI (by omega) (by omega)]; exact ha), M_alike ha (by omega), bdS1, if_pos ha]
        by_cases h8 : alk mn a n0 < 8
        · have hg := grp_rng mn ha
          rw [if_pos h8, List.length_append, List.length_append, packB_len] at hL
          rw [if_pos (by rw [ltI (by omega) (by omega)]; exact h8), if_pos h8, M_grp_L hn n0 fu 1 (by omega) (by omega) (by rw [fu_eq]; omega)]
          show ∃ md' mdd', p_X6_runs_J95 (nI n0) (nI w) (nI a) (nI (grp mn a n0)) md mdd mn _ = _ ∧ _
          rw [p_X6_runs_J95, i2lI (by omega)]
          obtain ⟨md1, mdd1, e1, g1⟩ := M_var (v := lN 2 * lN (grp mn a n0) + lN 1) (by omega) h
          have hv := varB_len (lN 2 * lN (grp mn a n0) + lN 1)
          rw [e1, bdS2, mulI]
          obtain ⟨md2, mdd2, e2, g2⟩ := M_pack (lim := n0) (w := w) (i0 := a) (cnt := 8 * grp mn a n0) (mn := mn) (g := fun j => if a + j < n0 then mn (a + j) else lN 0) (by omega) (by omega) (by omega) (fun j _ => rfl) (by rw [Nat.mul_assoc]; exact Nat.mul_mod_right _ _) (by rw [List.length_append]; omega) g1
          rw [e2, bdS2, addI]
          obtain ⟨md3, mdd3, e3, g3⟩ := ih n (a + 8 * grp mn a n0) _ md2 mdd2 (by omega) (by omega) (by omega) (by rw [List.length_append, List.length_append, packB_len]; omega) g2
          exact ⟨md3, mdd3, e3, by simpa [List.append_assoc] using g3⟩
        · rw [if_neg h8, List.length_append, List.length_append, litB_len] at hL
          rw [if_neg (by rw [ltI (by omega) (by omega)]; exact h8), if_neg h8, i2lI (by omega)]
          obtain ⟨md1, mdd1, e1, g1⟩ := M_var (v := lN 2 * lN (alk mn a n0)) (by omega) h
          have hv := varB_len (lN 2 * lN (alk mn a n0))
          rw [e1, bdS2, inbI (by omega), gdD (by omega), ixI (by omega), addI, divI (by omega) (by omega) (by omega)]
          obtain ⟨md2, mdd2, e2, g2⟩ := M_lit (N := (w + 7) / 8) (w := mn a) (by omega) (by rw [List.length_append]; omega) g1
          rw [e2, bdS2, addI]
          obtain ⟨md3, mdd3, e3, g3⟩ := ih n (a + alk mn a n0) _ md2 mdd2 (by omega) (by omega) (by omega) (by rw [List.length_append, List.length_append, litB_len]; omega) g2
          exact ⟨md3, mdd3, e3, by simpa [List.append_assoc] using g3⟩
      · rw [if_neg (by rw [ltI (by omega) (by omega)]; exact ha), if_neg ha]
        exact ⟨md, mdd, rfl, by simpa using h⟩
theorem M_runs {w n0 : Nat} {mn : Nat → Int64} {L : List Int32} {md : Nat → Int32} {mdd : Int32} (hw : w ≤ 8) (hn : n0 ≤ 200) (hL : L.length + (runsB mn w n0 n0 0).length ≤ 60000) (h : MOut md mdd L) : ∃ md' mdd', p_X6_runs (nI n0) (nI w) md mdd mn = some (md', mdd') ∧ MOut md' mdd' (L ++ runsB mn w n0 n0 0) := by
  unfold p_X6_runs
  exact M_runs_L hw hn n0 fu 0 L md mdd (by omega) (by omega) (by rw [fu_eq]; omega) hL h
