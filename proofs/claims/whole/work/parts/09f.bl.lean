/-! how many bits a number needs -/
def blD (v : Int64) : Nat → Nat
  | 0 => 0
  | k + 1 => if lb v k = true then k + 1 else blD v k
def bl (v : Int64) : Nat := blD v 64
theorem blD_le (v : Int64) (k : Nat) : blD v k ≤ k := by
  induction k with
  | zero => exact Nat.le_refl _
  | succ k ih => unfold blD; split <;> omega
theorem bl_le (v : Int64) : bl v ≤ 64 := blD_le v 64
theorem blD_hi (v : Int64) : ∀ (k i : Nat), blD v k ≤ i → i < k → lb v i = false := by
  intro k
  induction k with
  | zero => intro i _ h; omega
  | succ k ih =>
    intro i h1 h2
    unfold blD at h1
    split at h1
    · omega
    · next hk =>
      by_cases e : i = k
      · subst e; exact Bool.eq_false_iff.mpr hk
      · exact ih i h1 (by omega)
theorem bl_hi {v : Int64} {i : Nat} (h : bl v ≤ i) : lb v i = false := by
  by_cases h2 : i < 64
  · exact blD_hi v 64 i h h2
  · exact lb_big v (by omega)
theorem blD_top (v : Int64) : ∀ (k : Nat), blD v k ≠ 0 → lb v (blD v k - 1) = true := by
  intro k
  induction k with
  | zero => intro h; exact absurd rfl h
  | succ k ih =>
    intro h
    unfold blD at h ⊢
    split
    · next hk => simpa using hk
    · next hk => rw [if_neg hk] at h; exact ih h
theorem bl_top {v : Int64} (h : bl v ≠ 0) : lb v (bl v - 1) = true := blD_top v 64 h
theorem bl_uniq {v : Int64} {k : Nat} (h1 : ∀ i, k ≤ i → lb v i = false) (h2 : k ≠ 0 → lb v (k - 1) = true) : bl v = k := by
  have a : bl v ≤ k := by
    by_cases h : bl v = 0
    · omega
    · have := bl_top h
      apply Nat.le_of_not_lt
      intro hlt
      rw [h1 (bl v - 1) (by omega)] at this
      cases this
  have b : k ≤ bl v := by
    by_cases h : k = 0
    · omega
    · have := h2 h
      apply Nat.le_of_not_lt
      intro hlt
      rw [bl_hi (v := v) (i := k - 1) (by omega)] at this
      cases this
  omega
theorem bl_or (x y : Int64) : bl (x ||| y) = max (bl x) (bl y) := by
  apply bl_uniq
  · intro i h
    rw [lb_or, bl_hi (v := x) (by omega), bl_hi (v := y) (by omega)]
    rfl
  · intro h
    rw [lb_or]
    by_cases h2 : bl y ≤ bl x
    · rw [Nat.max_eq_left h2, bl_top (by omega)]
      rfl
    · rw [Nat.max_eq_right (by omega), bl_top (v := y) (by omega), Bool.or_true]
theorem bl_0 : bl (lN 0) = 0 := bl_uniq (fun i _ => lb_zero i) (fun h => absurd rfl h)
theorem sh0_iff {v : Int64} {k : Nat} (hk : k < 64) : lushr v (nI k) = lN 0 ↔ bl v ≤ k := by
  constructor
  · intro h
    by_cases h0 : bl v = 0
    · omega
    · apply Nat.le_of_not_lt
      intro hlt
      have h2 := bl_top h0
      have h3 : lb (lushr v (nI k)) (bl v - 1 - k) = false := by rw [h, lb_zero]
      rw [lb_ushr v hk, show k + (bl v - 1 - k) = bl v - 1 by omega, h2] at h3
      cases h3
  · intro h
    apply lb_ext
    intro i _
    rw [lb_ushr v hk, lb_zero, bl_hi (by omega)]
theorem X_bitsOf_L {v : Int64} : ∀ (m n k : Nat), bl v - k = m → k ≤ bl v → m < n → itr1 (p_X5_bitsOf_L2 v) n (nI k) = some (nI (bl v)) := by
  intro m
  have hle := bl_le v
  induction m with
  | zero =>
    intro n k h1 h2 h3
    have : k = bl v := by omega
    subst this
    cases n with
    | zero => omega
    | succ n =>
      show p_X5_bitsOf_L2 v _ (nI (bl v)) = _
      rw [p_X5_bitsOf_L2]
      by_cases h : bl v < 64
      · rw [if_pos (by rw [ltI (by omega) (by omega)]; exact h), if_pos ((sh0_iff h).mpr (Nat.le_refl _))]
      · rw [if_neg (by rw [ltI (by omega) (by omega)]; exact h)]
  | succ m ih =>
    intro n k h1 h2 h3
    cases n with
    | zero => omega
    | succ n =>
      show p_X5_bitsOf_L2 v _ (nI k) = _
      rw [p_X5_bitsOf_L2, if_pos (by rw [ltI (by omega) (by omega)]; omega), if_neg (fun q => absurd ((sh0_iff (by omega)).mp q) (by omega)), addI]
      exact ih n (k + 1) (by omega) (by omega) (by omega)
theorem X_bitsOf (v : Int64) : p_X5_bitsOf v = some (nI (bl v)) := by
  have := bl_le v
  exact X_bitsOf_L (bl v) fu 0 (by omega) (by omega) (by rw [fu_eq]; omega)
theorem M_widthOf_L {v : Int64} : ∀ (m n k : Nat) (x : Int64), bl v - k = m → k ≤ bl v → m < n → (∀ i, lb x i = lb v (k + i)) → itr2 p_X6_widthOf_L4 n (nI k) x = some (nI (bl v)) := by
  intro m
  have hle := bl_le v
  induction m with
  | zero =>
    intro n k x h1 h2 h3 hx
    have : k = bl v := by omega
    subst this
    cases n with
    | zero => omega
    | succ n =>
      have hz : x = lN 0 := lb_ext (fun i _ => by rw [hx, lb_zero, bl_hi (by omega)])
      show p_X6_widthOf_L4 _ (nI (bl v)) x = _
      rw [p_X6_widthOf_L4, if_pos hz]
  | succ m ih =>
    intro n k x h1 h2 h3 hx
    cases n with
    | zero => omega
    | succ n =>
      show p_X6_widthOf_L4 _ (nI k) x = _
      rw [p_X6_widthOf_L4, if_neg, addI]
      · refine ih n (k + 1) _ (by omega) (by omega) (by omega) (fun i => ?_)
        rw [lb_ushr _ (by omega), hx, show k + (1 + i) = k + 1 + i by omega]
      · intro e
        have h5 := hx (bl v - 1 - k)
        rw [e, lb_zero, show k + (bl v - 1 - k) = bl v - 1 by omega, bl_top (by omega)] at h5
        cases h5
theorem M_widthOf (v : Int64) : p_X6_widthOf v = some (nI (bl v)) := by
  have := bl_le v
  unfold p_X6_widthOf
  exact M_widthOf_L (bl v) fu 0 v (by omega) (by omega) (by rw [fu_eq]; omega) (fun i => by rw [Nat.zero_add])
/-- the width of a part: places s .. s + 31, ahead of e -/
def pwF (lo : Nat → Int64) (e : Nat) : Nat → Nat → Nat → Nat
  | 0, _, acc => acc
  | f + 1, i, acc => if i < e then pwF lo e f (i + 1) (max acc (bl (lo i))) else acc
def pw (lo : Nat → Int64) (s e : Nat) : Nat := pwF lo e 32 s 0
theorem pwF_le (lo : Nat → Int64) (e : Nat) : ∀ (f i acc : Nat), acc ≤ 64 → pwF lo e f i acc ≤ 64 := by
  intro f
  induction f with
  | zero => intro i acc h; exact h
  | succ f ih =>
    intro i acc h
    unfold pwF
    have := bl_le (lo i)
    split
    · exact ih _ _ (by omega)
    · exact h
theorem pw_le (lo : Nat → Int64) (s e : Nat) : pw lo s e ≤ 64 := pwF_le lo e 32 s 0 (by omega)
theorem pwF_cong {lo lo' : Nat → Int64} {e : Nat} : ∀ (f i acc : Nat), (∀ j, i ≤ j → j < e → lo j = lo' j) → pwF lo e f i acc = pwF lo' e f i acc := by
  intro f
  induction f with
  | zero => intro i acc _; rfl
  | succ f ih =>
    intro i acc h
    unfold pwF
    by_cases hi : i < e
    · rw [if_pos hi, if_pos hi, h i (Nat.le_refl _) hi, ih _ _ (fun j hj => h j (by omega))]
    · rw [if_neg hi, if_neg hi]
theorem M_pw_L {s e : Nat} {mn : Nat → Int64} (he : e ≤ 500) (hs : s ≤ 1000) : ∀ (f n i acc : Nat), i + f = s + 32 → acc ≤ 64 → f < n → itr2 (p_X6_partWidth_L5 (nI s) (nI e) mn) n (nI acc) (nI i) = some (nI (pwF mn e f i acc)) := by
  intro f
  induction f with
  | zero =>
    intro n i acc h1 h2 h3
    cases n with
    | zero => omega
    | succ n =>
      show p_X6_partWidth_L5 (nI s) (nI e) mn _ (nI acc) (nI i) = _
      rw [p_X6_partWidth_L5, if_neg (by rw [addI, ltI (by omega) (by omega)]; omega)]
      rfl
  | succ f ih =>
    intro n i acc h1 h2 h3
    cases n with
    | zero => omega
    | succ n =>
      have hb := bl_le (mn i)
      show p_X6_partWidth_L5 (nI s) (nI e) mn _ (nI acc) (nI i) = _
      rw [p_X6_partWidth_L5, pwF, if_pos (by rw [addI, ltI (by omega) (by omega)]; omega)]
      by_cases hi : i < e
      · rw [if_pos (by rw [ltI (by omega) (by omega)]; exact hi), if_pos hi, inbI (by omega), gdD (by omega), ixI (by omega), M_widthOf, bdS1, bdS1, gdD (by omega)]
        by_cases hm : acc < bl (mn i)
        · rw [if_pos (by rw [ltI (by omega) (by omega)]; exact hm), addI, Nat.max_eq_right (by omega)]
          exact ih n (i + 1) _ (by omega) (by omega) (by omega)
        · rw [if_neg (by rw [ltI (by omega) (by omega)]; exact hm), addI, Nat.max_eq_left (by omega)]
          exact ih n (i + 1) _ (by omega) (by omega) (by omega)
      · rw [if_neg (by rw [ltI (by omega) (by omega)]; exact hi), if_neg hi]
theorem M_pw {s e : Nat} {mn : Nat → Int64} (he : e ≤ 500) (hs : s ≤ 1000) : p_X6_partWidth (nI s) (nI e) mn = some (nI (pw mn s e)) := by
  unfold p_X6_partWidth
  exact M_pw_L he hs 32 fu s 0 (by omega) (by omega) (by rw [fu_eq]; omega)
theorem X_pw_L {q s e : Nat} {la : Nat → Nat → Int64} (he : e ≤ 200) (hs : s ≤ 1000) : ∀ (f n i : Nat) (acc : Int64), i + f = s + 32 → f < n → itr2 (p_X3_partWidth_L9 q (nI s) (nI e) la) n acc (nI i) = some (nI (pwF (la q) e f i (bl acc))) := by
  intro f
  induction f with
  | zero =>
    intro n i acc h1 h3
    cases n with
    | zero => omega
    | succ n =>
      show p_X3_partWidth_L9 q (nI s) (nI e) la _ acc (nI i) = _
      rw [p_X3_partWidth_L9, if_neg (by rw [addI, ltI (by omega) (by omega)]; omega), X_bitsOf]
      rfl
  | succ f ih =>
    intro n i acc h1 h3
    cases n with
    | zero => omega
    | succ n =>
      show p_X3_partWidth_L9 q (nI s) (nI e) la _ acc (nI i) = _
      rw [p_X3_partWidth_L9, pwF, if_pos (by rw [addI, ltI (by omega) (by omega)]; omega)]
      by_cases hi : i < e
      · rw [if_pos (show nI i < nI e by rw [ltI (by omega) (by omega)]; exact hi), if_pos hi, if_pos (by rw [ltI (by omega) (by omega)]; omega), inbI (by omega), gdD (by omega), ixI (by omega), addI, ← bl_or]
        exact ih n (i + 1) _ (by omega) (by omega)
      · rw [if_neg (show ¬ nI i < nI e by rw [ltI (by omega) (by omega)]; exact hi), if_neg hi, X_bitsOf]
        rfl
theorem X_pw {q s e : Nat} {la : Nat → Nat → Int64} (he : e ≤ 200) (hs : s ≤ 1000) : p_X3_partWidth q (nI s) (nI e) la = some (nI (pw (la q) s e)) := by
  unfold p_X3_partWidth
  rw [imaxI (by omega) (by omega), Nat.max_eq_left (by omega), X_pw_L he hs 32 fu s (lN 0) (by omega) (by rw [fu_eq]; omega), bl_0]
  rfl
