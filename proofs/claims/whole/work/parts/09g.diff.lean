/-! DIFFERENCES as they are written -/
def dstep (ints : Nat) (g : Nat → Int64) (t : Nat) : Int64 := if ints = 0 then g (t + 1) - g t else i2l (l2i (g (t + 1) - g t))
def leastF (st : Nat → Int64) (e : Nat) : Nat → Nat → Int64 → Int64
  | 0, _, acc => acc
  | f + 1, i, acc => if i < e then leastF st e f (i + 1) (lmin acc (st i)) else acc
def least (st : Nat → Int64) (a e : Nat) : Int64 := leastF st e 128 a (st a)
def low (ints : Nat) (st : Nat → Int64) (m : Int64) (t : Nat) : Int64 := if ints = 0 then st t - m else (st t - m) &&& lN 4294967295
def wdsN (lo : Nat → Int64) (a e : Nat) : Nat → List Int32
  | 0 => []
  | p + 1 => wdsN lo a e p ++ [b8 (nI (pw lo (a + 32 * p) e))]
def pksN (lo : Nat → Int64) (a e : Nat) : Nat → List Int32
  | 0 => []
  | p + 1 => pksN lo a e p ++ (if a + 32 * p < e then packB (fun j => if a + 32 * p + j < e then lo (a + 32 * p + j) else lN 0) (pw lo (a + 32 * p) e) 32 else [])
def blkB (ints : Nat) (st : Nat → Int64) (a e : Nat) : List Int32 := varB (zz (least st a e)) ++ (wdsN (low ints st (least st a e)) a e 4 ++ pksN (low ints st (least st a e)) a e 4)
def blksB (ints : Nat) (st : Nat → Int64) (N : Nat) : Nat → Nat → List Int32
  | 0, _ => []
  | f + 1, a => if a < N then blkB ints st a (min (a + 128) N) ++ blksB ints st N f (a + 128) else []
def diffB (g : Nat → Int64) (n ints : Nat) : List Int32 := varB (lN 128) ++ (varB (lN 4) ++ (varB (lN n) ++ (varB (zz (if n = 0 then lN 0 else g 0)) ++ blksB ints (dstep ints g) (n - 1) 2 0)))
theorem wdsN_len (lo : Nat → Int64) (a e p : Nat) : (wdsN lo a e p).length = p := by
  induction p with
  | zero => rfl
  | succ p ih => simp [wdsN, ih]
theorem pksN_len (lo : Nat → Int64) (a e : Nat) : ∀ p, (pksN lo a e p).length ≤ 256 * p ∧ (a < e → (pksN lo a e p).length ≤ 8 * (e - a) + 248) := by
  have hone : ∀ p, (if a + 32 * p < e then packB (fun j => if a + 32 * p + j < e then lo (a + 32 * p + j) else lN 0) (pw lo (a + 32 * p) e) 32 else []).length ≤ if a + 32 * p < e then 256 else 0 := by
    intro p
    split
    · rw [packB_len]
      have := pw_le lo (a + 32 * p) e
      omega
    · simp
  have h3 : ∀ p, (pksN lo a e p).length ≤ 256 * min p ((e - a + 31) / 32) := by
    intro p
    induction p with
    | zero => simp [pksN]
    | succ p ih =>
      rw [pksN, List.length_append]
      have := hone p
      split at this <;> rename_i hp
      · rw [if_pos hp]
        omega
      · rw [if_neg hp]
        simp only [List.length_nil]
        omega
  intro p
  have := h3 p
  exact ⟨by omega, fun _ => by omega⟩
theorem blkB_len {ints : Nat} {st : Nat → Int64} {a e : Nat} (h : a < e) : (blkB ints st a e).length ≤ 8 * (e - a) + 262 := by
  unfold blkB
  have h1 := varB_len (zz (least st a e))
  have h2 := (pksN_len (low ints st (least st a e)) a e 4).2 h
  rw [List.length_append, List.length_append, wdsN_len]
  omega
theorem dstep_cong {g g' : Nat → Int64} {n ints : Nat} (h : ∀ i, i < n → g i = g' i) : ∀ t, t + 1 < n → dstep ints g t = dstep ints g' t := by
  intro t ht
  unfold dstep
  rw [h t (by omega), h (t + 1) ht]
theorem leastF_cong {st st' : Nat → Int64} {e : Nat} : ∀ (f i : Nat) (acc : Int64), (∀ t, i ≤ t → t < e → st t = st' t) → leastF st e f i acc = leastF st' e f i acc := by
  intro f
  induction f with
  | zero => intro i acc _; rfl
  | succ f ih =>
    intro i acc h
    unfold leastF
    by_cases hi : i < e
    · rw [if_pos hi, if_pos hi, h i (Nat.le_refl _) hi, ih _ _ (fun t ht => h t (by omega))]
    · rw [if_neg hi, if_neg hi]
theorem pack_if_cong {lo lo' : Nat → Int64} {s e w c : Nat} (h : ∀ t, s ≤ t → t < e → lo t = lo' t) : packB (fun j => if s + j < e then lo (s + j) else lN 0) w c = packB (fun j => if s + j < e then lo' (s + j) else lN 0) w c := packB_cong (fun j _ => by
  by_cases hj : s + j < e
  · rw [if_pos hj, if_pos hj, h _ (by omega) hj]
  · rw [if_neg hj, if_neg hj])
theorem wdsN_cong {lo lo' : Nat → Int64} {a e : Nat} (h : ∀ t, a ≤ t → t < e → lo t = lo' t) (p : Nat) : wdsN lo a e p = wdsN lo' a e p := by
  induction p with
  | zero => rfl
  | succ p ih =>
    unfold wdsN pw
    rw [ih, pwF_cong 32 _ _ (fun j hj => h j (by omega))]
theorem pksN_cong {lo lo' : Nat → Int64} {a e : Nat} (h : ∀ t, a ≤ t → t < e → lo t = lo' t) (p : Nat) : pksN lo a e p = pksN lo' a e p := by
  induction p with
  | zero => rfl
  | succ p ih =>
    unfold pksN pw
    rw [ih, pwF_cong 32 _ _ (fun j hj => h j (by omega)), pack_if_cong (fun t ht => h t (by omega))]
theorem blkB_cong {ints : Nat} {st st' : Nat → Int64} {a e : Nat} (ha : a < e) (h : ∀ t, a ≤ t → t < e → st t = st' t) : blkB ints st a e = blkB ints st' a e := by
  have e1 : least st a e = least st' a e := by
    unfold least
    rw [h a (Nat.le_refl _) ha, leastF_cong 128 a _ h]
  have e2 : ∀ t, a ≤ t → t < e → low ints st (least st' a e) t = low ints st' (least st' a e) t := by
    intro t h1 h2
    unfold low
    rw [h t h1 h2]
  unfold blkB
  rw [e1, wdsN_cong e2, pksN_cong e2]
theorem blksB_cong {ints : Nat} {st st' : Nat → Int64} {N : Nat} (h : ∀ t, t < N → st t = st' t) : ∀ (f a : Nat), blksB ints st N f a = blksB ints st' N f a := by
  intro f
  induction f with
  | zero => intro a; rfl
  | succ f ih =>
    intro a
    unfold blksB
    by_cases ha : a < N
    · rw [if_pos ha, if_pos ha, blkB_cong (by omega) (fun t _ ht => h t (by omega)), ih]
    · rw [if_neg ha, if_neg ha]
theorem diffB_cong {g g' : Nat → Int64} {n ints : Nat} (h : ∀ i, i < n → g i = g' i) : diffB g n ints = diffB g' n ints := by
  unfold diffB
  rw [blksB_cong (N := n - 1) (fun t ht => dstep_cong h t (by omega))]
  by_cases h0 : n = 0
  · rw [if_pos h0, if_pos h0]
  · rw [if_neg h0, if_neg h0, h 0 (by omega)]
-- the reference
theorem M_steps_L {n0 ints : Nat} {mn : Nat → Int64} {kx : (Nat → Int64) → Option ((Nat → Int32) × Int32 × (Nat → Int64) × (Nat → Int64))} (hn : n0 ≤ 200) (hi : ints ≤ 1) : ∀ (m n i : Nat) (mst : Nat → Int64), n0 - i = m → 1 ≤ i ∧ i ≤ n0 + 1 → m < n → (∀ t, t + 1 < i → mst t = dstep ints mn t) → ∃ mst', itr2 (p_X6_differences_L40 (nI n0) (nI ints) mn kx) n (nI i) mst = kx mst' ∧ ∀ t, t + 1 < n0 → mst' t = dstep ints mn t := by
  intro m
  induction m with
  | zero =>
    intro n i mst h1 h2 h3 h
    cases n with
    | zero => omega
    | succ n =>
      refine ⟨mst, ?_, fun t ht => h t (by omega)⟩
      show p_X6_differences_L40 (nI n0) (nI ints) mn kx _ (nI i) mst = _
      rw [p_X6_differences_L40, if_neg (by rw [ltI (by omega) (by omega)]; omega)]
  | succ m ih =>
    intro n i mst h1 h2 h3 h
    cases n with
    | zero => omega
    | succ n =>
      show ∃ mst', p_X6_differences_L40 (nI n0) (nI ints) mn kx _ (nI i) mst = _ ∧ _
      have hnew : ∀ x, x = dstep ints mn (i - 1) → ∀ t, t + 1 < i + 1 → up mst (i - 1) x t = dstep ints mn t := by
        intro x hx t ht
        unfold up
        by_cases e : t = i - 1
        · rw [if_pos e, hx, e]
        · rw [if_neg e, h t (by omega)]
      rw [p_X6_differences_L40, if_pos (by rw [ltI (by omega) (by omega)]; omega)]
      by_cases h0 : ints = 0
      · subst h0
        obtain ⟨mst', e1, g1⟩ := ih n (i + 1) (up mst (i - 1) (mn i - mn (i - 1))) (by omega) (by omega) (by omega) (hnew _ (by unfold dstep; rw [if_pos rfl, show i - 1 + 1 = i by omega]))
        refine ⟨mst', ?_, g1⟩
        rw [if_pos rfl, subI (by omega), inbI (by omega), gdD (by omega), inbI (by omega), gdD (by omega), gdD (by omega), ixI (by omega), ixI (by omega), addI]
        exact e1
      · have h1' : ints = 1 := by omega
        subst h1'
        obtain ⟨mst', e1, g1⟩ := ih n (i + 1) (up mst (i - 1) (i2l (l2i (mn i) - l2i (mn (i - 1))))) (by omega) (by omega) (by omega) (hnew _ (by unfold dstep; rw [if_neg (by omega), show i - 1 + 1 = i by omega]; unfold l2i; rw [Int64.toInt32_sub]))
        refine ⟨mst', ?_, g1⟩
        rw [if_neg (by rw [eqI (by omega) (by omega)]; omega), subI (by omega), inbI (by omega), gdD (by omega), inbI (by omega), gdD (by omega), gdD (by omega), ixI (by omega), ixI (by omega), addI]
        exact e1
theorem M_least_L {e : Nat} {mst : Nat → Int64} {kx : Int64 → Option ((Nat → Int32) × Int32 × (Nat → Int64) × (Nat → Int64))} (he : e ≤ 400) : ∀ (f n i : Nat) (acc : Int64), e - i ≤ f → i ≤ e → f < n → itr2 (p_X6_differences_L143 (nI e) mst kx) n acc (nI i) = kx (leastF mst e f i acc) := by
  intro f
  induction f with
  | zero =>
    intro n i acc h1 h2 h3
    cases n with
    | zero => omega
    | succ n =>
      show p_X6_differences_L143 (nI e) mst kx _ acc (nI i) = _
      rw [p_X6_differences_L143, if_neg (by rw [ltI (by omega) (by omega)]; omega)]
      rfl
  | succ f ih =>
    intro n i acc h1 h2 h3
    cases n with
    | zero => omega
    | succ n =>
      show p_X6_differences_L143 (nI e) mst kx _ acc (nI i) = _
      rw [p_X6_differences_L143, leastF]
      by_cases hi : i < e
      · rw [if_pos (by rw [ltI (by omega) (by omega)]; exact hi), if_pos hi, inbI (by omega), gdD (by omega), gdD (by omega), ixI (by omega), addI]
        unfold lmin
        by_cases hl : mst i < acc
        · rw [if_pos hl, if_pos hl]
          exact ih n (i + 1) _ (by omega) (by omega) (by omega)
        · rw [if_neg hl, if_neg hl]
          exact ih n (i + 1) _ (by omega) (by omega) (by omega)
      · rw [if_neg (by rw [ltI (by omega) (by omega)]; exact hi), if_neg hi]
theorem M_lower_L {a e ints : Nat} {mst : Nat → Int64} {mm : Int64} {kx : (Nat → Int64) → Option ((Nat → Int32) × Int32 × (Nat → Int64) × (Nat → Int64))} (he : e ≤ 400) (hint : ints ≤ 1) : ∀ (m n i : Nat) (mn : Nat → Int64), e - i = m → a ≤ i → i ≤ e → m < n → (∀ t, a ≤ t → t < i → mn t = low ints mst mm t) → ∃ mn', itr2 (p_X6_differences_L192 (nI ints) (nI e) mm mst kx) n (nI i) mn = kx mn' ∧ ∀ t, a ≤ t → t < e → mn' t = low ints mst mm t := by
  intro m
  induction m with
  | zero =>
    intro n i mn h1 h2 h3 h4 h
    cases n with
    | zero => omega
    | succ n =>
      refine ⟨mn, ?_, fun t h5 h6 => h t h5 (by omega)⟩
      show p_X6_differences_L192 (nI ints) (nI e) mm mst kx _ (nI i) mn = _
      rw [p_X6_differences_L192, if_neg (by rw [ltI (by omega) (by omega)]; omega)]
  | succ m ih =>
    intro n i mn h1 h2 h3 h4 h
    cases n with
    | zero => omega
    | succ n =>
      obtain ⟨mn', e1, g1⟩ := ih n (i + 1) (up mn i (low ints mst mm i)) (by omega) (by omega) (by omega) (by omega) (fun t h5 h6 => by
        unfold up
        by_cases e : t = i
        · rw [if_pos e, e]
        · rw [if_neg e, h t h5 (by omega)])
      refine ⟨mn', ?_, g1⟩
      show p_X6_differences_L192 (nI ints) (nI e) mm mst kx _ (nI i) mn = _
      rw [p_X6_differences_L192, if_pos (by rw [ltI (by omega) (by omega)]; omega)]
      by_cases h0 : ints = 0
      · subst h0
        rw [if_pos rfl, inbI (by omega), gdD (by omega), gdD (by omega), ixI (by omega), addI]
        exact e1
      · rw [if_neg (by rw [eqI (by omega) (by omega)]; omega), inbI (by omega), gdD (by omega), gdD (by omega), ixI (by omega), addI]
        unfold low at e1
        rw [if_neg h0] at e1
        exact e1
theorem M_wds_L {a e : Nat} {mn : Nat → Int64} {kx : (Nat → Int32) → Int32 → Option ((Nat → Int32) × Int32 × (Nat → Int64) × (Nat → Int64))} {L : List Int32} (he : e ≤ 400) (ha : a ≤ 400) (hL : L.length + 4 ≤ 60000) : ∀ (m n p : Nat) (md : Nat → Int32) (mdd : Int32), 4 - p = m → p ≤ 4 → m < n → MOut md mdd (L ++ wdsN mn a e p) → ∃ md' mdd', itr3 (p_X6_differences_L246 (nI a) (nI e) mn kx) n (nI p) md mdd = kx md' mdd' ∧ MOut md' mdd' (L ++ wdsN mn a e 4) := by
  intro m
  induction m with
  | zero =>
    intro n p md mdd h1 h2 h3 h
    have : p = 4 := by omega
    subst this
    cases n with
    | zero => omega
    | succ n =>
      refine ⟨md, mdd, ?_, h⟩
      show p_X6_differences_L246 (nI a) (nI e) mn kx _ (nI 4) md mdd = _
      rw [p_X6_differences_L246, if_neg (by rw [ltI (by omega) (by omega)]; omega)]
  | succ m ih =>
    intro n p md mdd h1 h2 h3 h
    cases n with
    | zero => omega
    | succ n =>
      have hw := wdsN_len mn a e p
      obtain ⟨md1, mdd1, e1, g1⟩ := MOut_byte (nI (pw mn (a + 32 * p) e)) h (by rw [List.length_append]; omega)
      rw [List.append_assoc] at g1
      obtain ⟨md2, mdd2, e2, g2⟩ := ih n (p + 1) md1 mdd1 (by omega) (by omega) (by omega) g1
      refine ⟨md2, mdd2, ?_, g2⟩
      show p_X6_differences_L246 (nI a) (nI e) mn kx _ (nI p) md mdd = _
      rw [p_X6_differences_L246, if_pos (by rw [ltI (by omega) (by omega)]; omega), mulI, addI, M_pw (by omega) (by omega), bdS1, e1, bdS2, addI]
      exact e2
theorem M_pks_L {a e : Nat} {mn : Nat → Int64} {kx : (Nat → Int32) → Int32 → Option ((Nat → Int32) × Int32 × (Nat → Int64) × (Nat → Int64))} {L : List Int32} (he : e ≤ 200) (ha : a ≤ 200) (hL : L.length + (pksN mn a e 4).length ≤ 60000) : ∀ (m n p : Nat) (md : Nat → Int32) (mdd : Int32), 4 - p = m → p ≤ 4 → m < n → MOut md mdd (L ++ pksN mn a e p) → ∃ md' mdd', itr3 (p_X6_differences_L278 (nI a) (nI e) mn kx) n (nI p) md mdd = kx md' mdd' ∧ MOut md' mdd' (L ++ pksN mn a e 4) := by
  have mono : ∀ p, p ≤ 4 → (pksN mn a e p).length ≤ (pksN mn a e 4).length := by
    have h : ∀ d p, (pksN mn a e p).length ≤ (pksN mn a e (p + d)).length := by
      intro d
      induction d with
      | zero => intro p; exact Nat.le_refl _
      | succ d ih => intro p; rw [← Nat.add_assoc, pksN, List.length_append]; have := ih p; omega
    intro p hp
    have := h (4 - p) p
    rwa [show p + (4 - p) = 4 by omega] at this
  intro m
  induction m with
  | zero =>
    intro n p md mdd h1 h2 h3 h
    have : p = 4 := by omega
    subst this
    cases n with
    | zero => omega
    | succ n =>
      refine ⟨md, mdd, ?_, h⟩
      show p_X6_differences_L278 (nI a) (nI e) mn kx _ (nI 4) md mdd = _
      rw [p_X6_differences_L278, if_neg (by rw [ltI (by omega) (by omega)]; omega)]
  | succ m ih =>
    intro n p md mdd h1 h2 h3 h
    cases n with
    | zero => omega
    | succ n =>
      show ∃ md' mdd', p_X6_differences_L278 (nI a) (nI e) mn kx _ (nI p) md mdd = _ ∧ _
      rw [p_X6_differences_L278, if_pos (by rw [ltI (by omega) (by omega)]; omega), mulI, addI]
      have hmo := mono (p + 1) (by omega)
      rw [pksN] at hmo
      by_cases hp : a + 32 * p < e
      · rw [if_pos hp] at hmo
        obtain ⟨md1, mdd1, e1, g1⟩ := M_pack (lim := e) (w := pw mn (a + 32 * p) e) (i0 := a + 32 * p) (cnt := 32) (mn := mn) (g := fun j => if a + 32 * p + j < e then mn (a + 32 * p + j) else lN 0) (pw_le _ _ _) (by omega) (by omega) (fun j _ => rfl) (by omega) (by
          rw [List.length_append] at hmo ⊢
          rw [packB_len] at hmo
          omega) h
        rw [List.append_assoc] at g1
        obtain ⟨md2, mdd2, e2, g2⟩ := ih n (p + 1) md1 mdd1 (by omega) (by omega) (by omega) (by rw [pksN, if_pos hp]; exact g1)
        refine ⟨md2, mdd2, ?_, g2⟩
        rw [if_pos (by rw [ltI (by omega) (by omega)]; exact hp), M_pw (by omega) (by omega), bdS1, e1, bdS2, addI]
        exact e2
      · obtain ⟨md2, mdd2, e2, g2⟩ := ih n (p + 1) md mdd (by omega) (by omega) (by omega) (by rw [pksN, if_neg hp, List.append_nil]; exact h)
        refine ⟨md2, mdd2, ?_, g2⟩
        rw [if_neg (by rw [ltI (by omega) (by omega)]; exact hp), addI]
        exact e2
