/-! numbers packed by their width: bit by bit -/
abbrev PS : Type := Nat × Int32 × List Int32
def pst (x : Int32) (s : PS) : PS := if s.1 + 1 = 8 then (0, nI 0, s.2.2 ++ [b8 (s.2.1 ||| ishl x (nI s.1))]) else (s.1 + 1, s.2.1 ||| ishl x (nI s.1), s.2.2)
def bitOf (x : Int64) (k : Nat) : Int32 := l2i (lushr x (nI k) &&& lN 1)
def pbits (x : Int64) : Nat → PS → PS
  | 0, s => s
  | k + 1, s => pst (bitOf x k) (pbits x k s)
def pnums (g : Nat → Int64) (w : Nat) : Nat → PS → PS
  | 0, s => s
  | j + 1, s => pbits (g j) w (pnums g w j s)
theorem bitOf_0 {k : Nat} (h : k < 64) : bitOf (lN 0) k = nI 0 := by
  have e : lushr (lN 0) (nI k) &&& lN 1 = lN 0 := by
    apply lb_ext
    intro i hi
    rw [lb_and, lb_ushr _ h, lb_zero, lb_zero]
    rfl
  unfold bitOf
  rw [e, l2iL]
def ptot (s : PS) : Nat := 8 * s.2.2.length + s.1
theorem pst_tot (x : Int32) (s : PS) : ptot (pst x s) = ptot s + 1 := by
  unfold pst ptot
  split
  · next h => simp; omega
  · simp; omega
theorem pst_lt (x : Int32) (s : PS) (h : s.1 < 8) : (pst x s).1 < 8 := by
  unfold pst
  split
  · simp
  · simp; omega
theorem pbits_tot (x : Int64) (k : Nat) (s : PS) : ptot (pbits x k s) = ptot s + k := by
  induction k with
  | zero => rfl
  | succ k ih => rw [pbits, pst_tot, ih]; omega
theorem pbits_lt (x : Int64) (k : Nat) (s : PS) (h : s.1 < 8) : (pbits x k s).1 < 8 := by
  induction k with
  | zero => exact h
  | succ k ih => exact pst_lt _ _ ih
theorem pnums_tot (g : Nat → Int64) (w j : Nat) (s : PS) : ptot (pnums g w j s) = ptot s + j * w := by
  induction j with
  | zero => simp [pnums]
  | succ j ih => rw [pnums, pbits_tot, ih, Nat.succ_mul]; omega
theorem pnums_lt (g : Nat → Int64) (w j : Nat) (s : PS) (h : s.1 < 8) : (pnums g w j s).1 < 8 := by
  induction j with
  | zero => exact h
  | succ j ih => exact pbits_lt _ _ _ ih
theorem pnums_cong {g g' : Nat → Int64} {w : Nat} : ∀ (j : Nat) (s : PS), (∀ i, i < j → g i = g' i) → pnums g w j s = pnums g' w j s := by
  intro j
  induction j with
  | zero => intro s _; rfl
  | succ j ih => intro s h; rw [pnums, pnums, ih s (fun i hi => h i (by omega)), h j (by omega)]
/-- what cnt numbers make, when they fill whole bytes -/
def packB (g : Nat → Int64) (w cnt : Nat) : List Int32 := (pnums g w cnt (0, nI 0, [])).2.2
theorem packB_len (g : Nat → Int64) (w cnt : Nat) : (packB g w cnt).length = cnt * w / 8 := by
  have h := pnums_tot g w cnt (0, nI 0, [])
  have h2 := pnums_lt g w cnt (0, nI 0, []) (by simp)
  unfold ptot at h
  simp only [List.length_nil] at h
  unfold packB
  omega
theorem packB_end {g : Nat → Int64} {w cnt : Nat} (h8 : cnt * w % 8 = 0) : (pnums g w cnt (0, nI 0, [])).1 = 0 := by
  have h := pnums_tot g w cnt (0, nI 0, [])
  have h2 := pnums_lt g w cnt (0, nI 0, []) (by simp)
  unfold ptot at h
  simp only [List.length_nil] at h
  omega
theorem packB_cong {g g' : Nat → Int64} {w cnt : Nat} (h : ∀ i, i < cnt → g i = g' i) : packB g w cnt = packB g' w cnt := by
  unfold packB
  rw [pnums_cong cnt _ h]
theorem M_pack_in {lim w : Nat} {i : Nat} {mn : Nat → Int64} {x : Int64} {L : List Int32} {B : Nat} {s0 : PS} {kx : Int32 → Int32 → (Nat → Int32) → Int32 → Option ((Nat → Int32) × Int32)} (hw : w ≤ 64) (hi : i < 500) (hlim : lim < 2 ^ 31) (hx : if i < lim then mn i = x else x = lN 0) (hs : s0.1 < 8) (hB : ptot s0 + w ≤ 8 * B) (hL : L.length + B ≤ 60000) :
    ∀ (m n k : Nat) (md : Nat → Int32) (mdd : Int32), w - k = m → k ≤ w → m < n → MOut md mdd (L ++ (pbits x k s0).2.2) → ∃ md' mdd', itr5 (p_X6_pack_L20 (nI lim) (nI w) (nI i) mn kx) n (nI (pbits x k s0).1) (pbits x k s0).2.1 (nI k) md mdd = kx (nI (pbits x w s0).1) (pbits x w s0).2.1 md' mdd' ∧ MOut md' mdd' (L ++ (pbits x w s0).2.2) := by
  intro m
  induction m with
  | zero =>
    intro n k md mdd h1 h2 h3 h
    have : k = w := by omega
    subst this
    cases n with
    | zero => omega
    | succ n =>
      refine ⟨md, mdd, ?_, h⟩
      show p_X6_pack_L20 (nI lim) (nI k) (nI i) mn kx _ _ _ (nI k) md mdd = _
      rw [p_X6_pack_L20, if_neg (by rw [ltI (by omega) (by omega)]; omega)]
  | succ m ih =>
    intro n k md mdd h1 h2 h3 h
    cases n with
    | zero => omega
    | succ n =>
      show ∃ md' mdd', p_X6_pack_L20 (nI lim) (nI w) (nI i) mn kx _ _ _ (nI k) md mdd = _ ∧ _
      have hk : k < w := by omega
      have e0 : p_X6_pack_L20 (nI lim) (nI w) (nI i) mn kx (itr5 (p_X6_pack_L20 (nI lim) (nI w) (nI i) mn kx) n) (nI (pbits x k s0).1) (pbits x k s0).2.1 (nI k) md mdd = p_X6_pack_J50 (nI (pbits x k s0).1) (pbits x k s0).2.1 (nI k) (bitOf x k) md mdd (itr5 (p_X6_pack_L20 (nI lim) (nI w) (nI i) mn kx) n) := by
        rw [p_X6_pack_L20, if_pos (by rw [ltI (by omega) (by omega)]; omega)]
        by_cases hil : i < lim
        · rw [if_pos hil] at hx
          simp (disch := omega) only [ltI, eqI, addI, subI, mulI, divI, ixI, inbI, i2lI, l2iL, ltL, eqL, addL, mulL, subL, gdD, if_pos, if_neg, if_true, if_false, bdS1, bdS2, bdS3, bdS4, bdS5, bdS6, bdS7, bdS8, bdS9, bdS10, bdS11, bdS12, bdS13, moN, moS]
          rw [hx]
          rfl
        · rw [if_neg hil] at hx
          rw [if_neg (by rw [ltI (by omega) (by omega)]; omega), hx, bitOf_0 (by omega)]
      rw [e0, p_X6_pack_J50]
      have hlt := pbits_lt x k s0 hs
      have htot := pbits_tot x k s0
      by_cases h8 : (pbits x k s0).1 + 1 = 8
      · have hp : pbits x (k + 1) s0 = (0, nI 0, (pbits x k s0).2.2 ++ [b8 ((pbits x k s0).2.1 ||| ishl (bitOf x k) (nI (pbits x k s0).1))]) := by
          rw [pbits, pst, if_pos h8]
        obtain ⟨md1, mdd1, e1, g1⟩ := MOut_byte ((pbits x k s0).2.1 ||| ishl (bitOf x k) (nI (pbits x k s0).1)) h (by
          unfold ptot at htot hB
          rw [List.length_append]
          omega)
        have g2 : MOut md1 mdd1 (L ++ (pbits x (k + 1) s0).2.2) := by rw [hp]; simpa using g1
        obtain ⟨md2, mdd2, e2, g3⟩ := ih n (k + 1) md1 mdd1 (by omega) (by omega) (by omega) g2
        refine ⟨md2, mdd2, ?_, g3⟩
        rw [if_pos (by rw [addI, h8]), e1, bdS2, addI]
        rw [hp] at e2
        exact e2
      · have hp : pbits x (k + 1) s0 = ((pbits x k s0).1 + 1, (pbits x k s0).2.1 ||| ishl (bitOf x k) (nI (pbits x k s0).1), (pbits x k s0).2.2) := by
          rw [pbits, pst, if_neg h8]
        have g2 : MOut md mdd (L ++ (pbits x (k + 1) s0).2.2) := by rw [hp]; exact h
        obtain ⟨md2, mdd2, e2, g3⟩ := ih n (k + 1) md mdd (by omega) (by omega) (by omega) g2
        refine ⟨md2, mdd2, ?_, g3⟩
        rw [if_neg (by rw [addI, eqI (by omega) (by omega)]; exact h8), addI, addI]
        rw [hp] at e2
        exact e2
theorem M_pack_out {lim w i0 cnt : Nat} {mn g : Nat → Int64} {L : List Int32} {B : Nat} {kx : Int32 → Int32 → (Nat → Int32) → Int32 → Option ((Nat → Int32) × Int32)} (hw : w ≤ 64) (hi : i0 + cnt ≤ 500) (hlim : lim < 2 ^ 31) (hg : ∀ j, j < cnt → g j = if i0 + j < lim then mn (i0 + j) else lN 0) (hB : cnt * w ≤ 8 * B) (hL : L.length + B ≤ 60000) :
    ∀ (m n j : Nat) (md : Nat → Int32) (mdd : Int32), cnt - j = m → j ≤ cnt → m < n → MOut md mdd (L ++ (pnums g w j (0, nI 0, [])).2.2) → ∃ md' mdd', itr5 (p_X6_pack_L9 (nI i0) (nI cnt) (nI lim) (nI w) mn kx) n (nI (pnums g w j (0, nI 0, [])).1) (pnums g w j (0, nI 0, [])).2.1 (nI (i0 + j)) md mdd = kx (nI (pnums g w cnt (0, nI 0, [])).1) (pnums g w cnt (0, nI 0, [])).2.1 md' mdd' ∧ MOut md' mdd' (L ++ (pnums g w cnt (0, nI 0, [])).2.2) := by
  intro m
  induction m with
  | zero =>
    intro n j md mdd h1 h2 h3 h
    have : j = cnt := by omega
    subst this
    cases n with
    | zero => omega
    | succ n =>
      refine ⟨md, mdd, ?_, h⟩
      show p_X6_pack_L9 (nI i0) (nI j) (nI lim) (nI w) mn kx _ _ _ (nI (i0 + j)) md mdd = _
      rw [p_X6_pack_L9, if_neg (by rw [addI, ltI (by omega) (by omega)]; omega)]
  | succ m ih =>
    intro n j md mdd h1 h2 h3 h
    cases n with
    | zero => omega
    | succ n =>
      have hj : j < cnt := by omega
      have ht := pnums_tot g w j (0, nI 0, [])
      have hmul : (j + 1) * w ≤ cnt * w := Nat.mul_le_mul_right _ hj
      rw [Nat.succ_mul] at hmul
      obtain ⟨md1, mdd1, e1, g1⟩ := M_pack_in (lim := lim) (w := w) (i := i0 + j) (mn := mn) (x := g j) (L := L) (B := B) (s0 := pnums g w j (0, nI 0, [])) (kx := fun v5_5 v6_6 md_7 mdd_8 => itr5 (p_X6_pack_L9 (nI i0) (nI cnt) (nI lim) (nI w) mn kx) n v5_5 v6_6 (nI (i0 + j) + nI 1) md_7 mdd_8) hw (by omega) hlim
        (by rw [hg j hj]; split <;> rfl) (pnums_lt _ _ _ _ (by simp)) (by rw [ht]; simp only [ptot, List.length_nil]; omega) hL w fu 0 md mdd (by omega) (by omega) (by rw [fu_eq]; omega) h
      obtain ⟨md2, mdd2, e2, g2⟩ := ih n (j + 1) md1 mdd1 (by omega) (by omega) (by omega) g1
      refine ⟨md2, mdd2, ?_, g2⟩
      show p_X6_pack_L9 (nI i0) (nI cnt) (nI lim) (nI w) mn kx _ _ _ (nI (i0 + j)) md mdd = _
      rw [p_X6_pack_L9, if_pos (by rw [addI, ltI (by omega) (by omega)]; omega)]
      refine Eq.trans e1 ?_
      rw [addI]
      exact e2
theorem M_pack {lim w i0 cnt : Nat} {mn g : Nat → Int64} {L : List Int32} {md : Nat → Int32} {mdd : Int32} (hw : w ≤ 64) (hi : i0 + cnt ≤ 500) (hlim : lim < 2 ^ 31) (hg : ∀ j, j < cnt → g j = if i0 + j < lim then mn (i0 + j) else lN 0) (h8 : cnt * w % 8 = 0) (hL : L.length + cnt * w / 8 ≤ 60000) (h : MOut md mdd L) :
    ∃ md' mdd', p_X6_pack (nI i0) (nI cnt) (nI lim) (nI w) md mdd mn = some (md', mdd') ∧ MOut md' mdd' (L ++ packB g w cnt) := by
  obtain ⟨md1, mdd1, e1, g1⟩ := M_pack_out (lim := lim) (w := w) (i0 := i0) (cnt := cnt) (mn := mn) (g := g) (L := L) (B := cnt * w / 8) (kx := fun v5_9 v6_10 md_11 mdd_12 =>
      if (nI 0) < v5_9 then
        bd2 (p_X6_byteTo v6_10 md_11 mdd_12) <| fun md_13 mdd_14 =>
        some (md_13, mdd_14)
      else
        some (md_11, mdd_12)) hw hi hlim hg (by omega) hL cnt fu 0 md mdd (by omega) (by omega) (by rw [fu_eq]; omega) (by simpa [pnums] using h)
  refine ⟨md1, mdd1, ?_, g1⟩
  unfold p_X6_pack
  refine Eq.trans e1 ?_
  rw [packB_end h8]
  simp (disch := omega) only [ltI, eqI, addI, subI, mulI, divI, ixI, inbI, i2lI, l2iL, ltL, eqL, addL, mulL, subL, gdD, if_pos, if_neg, if_true, if_false, bdS1, bdS2, bdS3, bdS4, bdS5, bdS6, bdS7, bdS8, bdS9, bdS10, bdS11, bdS12, bdS13, moN, moS, Nat.lt_irrefl]
