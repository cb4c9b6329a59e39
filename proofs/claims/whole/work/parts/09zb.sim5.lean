/-! told -/
def vat (vals : List AV) (i : Nat) : AV := vals[i]?.getD none
theorem vat_at {vals : List AV} {i : Nat} (h : i < vals.length) : vat vals i = vals[i] := by
  unfold vat
  rw [List.getElem?_eq_getElem h]
  rfl
def absF (vals : List AV) : Nat → Nat
  | 0 => 0
  | i + 1 => absF vals i + (1 - th (vat vals i))
def un (vals : List AV) (i : Nat) : Nat := if vat vals i = none ∨ vat vals i ∈ vals.take i then 0 else 1
def unF (vals : List AV) : Nat → Nat
  | 0 => 0
  | i + 1 => unF vals i + un vals i
theorem X_absent_L {c : Nat} {xc : Nat → Int32} {xt : Nat → Nat → Int32} {xn : Nat → Nat → Int64} {xl : Nat → Nat → Int32} {vals : List AV} (hl : vals.length ≤ 200) (hc : xc c = nI vals.length) (hv : ∀ (j : Nat) (h : j < vals.length), XV xt xn xl c j vals[j]) : ∀ (m n i : Nat), vals.length - i = m → i ≤ vals.length → m < n → itr2 (p_X0_countAbsent_L4 c xc xt) n (nI (absF vals i)) (nI i) = some (nI (absF vals vals.length)) := by
  intro m
  induction m with
  | zero =>
    intro n i h1 h2 h3
    have : i = vals.length := by omega
    subst this
    cases n with
    | zero => omega
    | succ n =>
      show p_X0_countAbsent_L4 c xc xt _ _ (nI vals.length) = _
      rw [p_X0_countAbsent_L4, hc, if_neg (by rw [ltI (by omega) (by omega)]; omega)]
  | succ m ih =>
    intro n i h1 h2 h3
    cases n with
    | zero => omega
    | succ n =>
      have hi : i < vals.length := by omega
      have := ih n (i + 1) (by omega) (by omega) (by omega)
      show p_X0_countAbsent_L4 c xc xt _ _ (nI i) = _
      rw [p_X0_countAbsent_L4, hc, if_pos (by rw [ltI (by omega) (by omega)]; omega), X_isThere (hv i hi).1 (th_le _) (by omega), bdS1, addI, addI, addI]
      rw [absF, vat_at hi] at this
      cases ha : vals[i] with
      | none => rw [ha] at this; rw [if_pos th0]; exact this
      | some q => rw [ha] at this; rw [if_neg (th1 q)]; exact this
theorem X_unl_L {c K : Nat} {xk xc : Nat → Int32} {xt : Nat → Nat → Int32} {xn : Nat → Nat → Int64} {xl : Nat → Nat → Int32} {vals : List AV} (hl : vals.length ≤ 200) (hc : xc c = nI vals.length) (hK : xk c = nI K) (hK3 : K ≤ 3) (hv : ∀ (j : Nat) (h : j < vals.length), XV xt xn xl c j vals[j]) (hw : ∀ a ∈ vals, wfv K a) : ∀ (m n i : Nat), vals.length - i = m → i ≤ vals.length → m < n → itr2 (p_X0_countUnlike_L4 c xk xc xt xn xl) n (nI (unF vals i)) (nI i) = some (nI (unF vals vals.length)) := by
  intro m
  induction m with
  | zero =>
    intro n i h1 h2 h3
    have : i = vals.length := by omega
    subst this
    cases n with
    | zero => omega
    | succ n =>
      show p_X0_countUnlike_L4 c xk xc xt xn xl _ _ (nI vals.length) = _
      rw [p_X0_countUnlike_L4, hc, if_neg (by rw [ltI (by omega) (by omega)]; omega)]
  | succ m ih =>
    intro n i h1 h2 h3
    cases n with
    | zero => omega
    | succ n =>
      have hi : i < vals.length := by omega
      have := ih n (i + 1) (by omega) (by omega) (by omega)
      rw [unF] at this
      unfold un at this
      rw [vat_at hi] at this
      show p_X0_countUnlike_L4 c xk xc xt xn xl _ _ (nI i) = _
      rw [p_X0_countUnlike_L4, hc, if_pos (by rw [ltI (by omega) (by omega)]; omega), X_isThere (hv i hi).1 (th_le _) (by omega), bdS1, addI, addI, addI]
      cases ha : vals[i] with
      | none =>
        rw [ha, if_pos (Or.inl rfl)] at this
        rw [if_pos th0]
        exact this
      | some q =>
        obtain ⟨j, hj, q1, q2, q3, q4⟩ := X_first hl hi hK hK3 hv hw
        rw [if_neg (th1 q), q1, bdS1]
        by_cases e : j = i
        · subst e
          rw [if_neg (by
            rintro (h | h)
            · rw [ha] at h; cases h
            · obtain ⟨t, ht, hti, e2⟩ := mem_take.mp h
              exact q4 t ht hti e2)] at this
          rw [if_pos rfl]
          exact this
        · rw [if_pos (Or.inr (mem_take.mpr ⟨j, hj, by omega, q3⟩))] at this
          rw [if_neg (by rw [eqI (by omega) (by omega)]; exact e)]
          exact this
theorem M_seen_L {c i K : Nat} {mt : Nat → Int32} {mv : Nat → Int64} {mx : Nat → Int32} {vals : List AV} {kx : Int32 → Option Int32} (hc : c < 4) (hl : vals.length ≤ 200) (hi : i < vals.length) (hv : MCol mt mv mx c vals) (hw : ∀ a ∈ vals, wfv K a) : ∀ (m n k : Nat), i - k = m → k ≤ i → m + 1 < n → (∀ (t : Nat) (h : t < vals.length), t < k → vals[t] ≠ vals[i]) → itr2 (p_X6_told_L127 (nI c) (nI i) (nI (200 * c + i)) mt mv mx kx) n (nI 1) (nI k) = kx (nI (if vals[i] ∈ vals.take i then 0 else 1)) := by
  intro m
  induction m with
  | zero =>
    intro n k h1 h2 h3 h4
    have : k = i := by omega
    subst this
    cases n with
    | zero => omega
    | succ n =>
      show p_X6_told_L127 (nI c) (nI k) (nI (200 * c + k)) mt mv mx kx _ (nI 1) (nI k) = _
      rw [p_X6_told_L127, if_neg (by rw [ltI (by omega) (by omega)]; omega), if_neg (by
        intro h
        obtain ⟨t, ht, hti, e2⟩ := mem_take.mp h
        exact h4 t ht hti e2)]
  | succ m ih =>
    intro n k h1 h2 h3 h4
    cases n with
    | zero => omega
    | succ n =>
      have hk : k < vals.length := by omega
      show p_X6_told_L127 (nI c) (nI i) (nI (200 * c + i)) mt mv mx kx _ (nI 1) (nI k) = _
      rw [p_X6_told_L127, if_pos (by rw [ltI (by omega) (by omega)]; omega), if_neg (show ¬ nI 1 = nI 0 by decide), mulI, addI, M_areLike (by omega) (by omega) (hw _ (List.getElem_mem hk)) (hw _ (List.getElem_mem hi)) (hv k hk) (hv i hi), bdS1, addI]
      by_cases e : vals[k] = vals[i]
      · rw [if_pos e, if_neg (show ¬ nI 1 = nI 0 by decide), if_pos (mem_take.mpr ⟨k, hk, by omega, e⟩)]
        cases n with
        | zero => omega
        | succ n =>
          show p_X6_told_L127 (nI c) (nI i) (nI (200 * c + i)) mt mv mx kx _ (nI 0) (nI (k + 1)) = _
          rw [p_X6_told_L127]
          by_cases h7 : k + 1 < i
          · rw [if_pos (by rw [ltI (by omega) (by omega)]; exact h7), if_pos rfl]
          · rw [if_neg (by rw [ltI (by omega) (by omega)]; exact h7)]
      · rw [if_neg e, if_pos rfl]
        refine ih n (k + 1) (by omega) (by omega) (by omega) (fun t p ht => ?_)
        by_cases htk : t = k
        · subst htk; exact e
        · exact h4 t p (by omega)
theorem M_told_L {c K : Nat} {mm mt : Nat → Int32} {mv : Nat → Int64} {mx : Nat → Int32} {vals : List AV} {kx : Int32 → Int32 → Option Int32} (hc : c < 4) (hl : vals.length ≤ 200) (hn : mm c = nI vals.length) (hv : MCol mt mv mx c vals) (hw : ∀ a ∈ vals, wfv K a) : ∀ (m n i : Nat), vals.length - i = m → i ≤ vals.length → m < n → itr3 (p_X6_told_L76 (nI c) mm mt mv mx kx) n (nI (absF vals i)) (nI (unF vals i)) (nI i) = kx (nI (absF vals vals.length)) (nI (unF vals vals.length)) := by
  intro m
  induction m with
  | zero =>
    intro n i h1 h2 h3
    have : i = vals.length := by omega
    subst this
    cases n with
    | zero => omega
    | succ n =>
      show p_X6_told_L76 (nI c) mm mt mv mx kx _ _ _ (nI vals.length) = _
      rw [p_X6_told_L76, inbI (by omega), gdD (by omega), ixI (by omega), hn, if_neg (by rw [ltI (by omega) (by omega)]; omega)]
  | succ m ih =>
    intro n i h1 h2 h3
    cases n with
    | zero => omega
    | succ n =>
      have hi : i < vals.length := by omega
      have := ih n (i + 1) (by omega) (by omega) (by omega)
      rw [unF, absF] at this
      unfold un at this
      rw [vat_at hi] at this
      show p_X6_told_L76 (nI c) mm mt mv mx kx _ _ _ (nI i) = _
      rw [p_X6_told_L76, inbI (by omega), gdD (by omega), ixI (by omega), hn, if_pos (by rw [ltI (by omega) (by omega)]; omega), mulI, addI, inbI (by omega), gdD (by omega), ixI (by omega), (hv i hi).1, p_X6_told_J113, p_X6_told_J113, inbI (by omega), gdD (by omega), gdD (by omega), ixI (by omega), (hv i hi).1, addI, addI]
      cases ha : vals[i] with
      | none =>
        rw [ha, if_pos (Or.inl rfl)] at this
        rw [if_pos th0]
        have e0 : ∀ kk : Int32 → Option Int32, itr2 (p_X6_told_L127 (nI c) (nI i) (nI (200 * c + i)) mt mv mx kk) fu (nI (th none)) (nI 0) = kk (nI 0) := by
          intro kk
          rw [fu_eq]
          show p_X6_told_L127 (nI c) (nI i) (nI (200 * c + i)) mt mv mx kk _ (nI 0) (nI 0) = _
          rw [p_X6_told_L127]
          by_cases h7 : 0 < i
          · rw [if_pos (by rw [ltI (by omega) (by omega)]; exact h7), if_pos rfl]
          · rw [if_neg (by rw [ltI (by omega) (by omega)]; exact h7)]
        rw [e0, p_X6_told_J169, if_pos rfl, addI, addI]
        exact this
      | some q =>
        have es := fun kk : Int32 → Option Int32 => M_seen_L (kx := kk) hc hl hi hv hw i fu 0 (by omega) (by omega) (by rw [fu_eq]; omega) (fun t _ ht => by omega)
        rw [ha] at this es
        rw [if_neg (th1 q), show nI (th (some q)) = nI 1 from rfl, es, p_X6_told_J169, addI, addI, addI]
        by_cases e : some q ∈ vals.take i
        · rw [if_pos (Or.inr e)] at this
          rw [if_pos e, if_pos rfl]
          exact this
        · rw [if_neg (by
            rintro (h | h)
            · cases h
            · exact e h)] at this
          rw [if_neg e, if_neg (show ¬ nI 1 = nI 0 by decide)]
          exact this
theorem sim_told {xk xo xc : Nat → Int32} {xt : Nat → Nat → Int32} {xn : Nat → Nat → Int64} {xl : Nat → Nat → Int32} {mk mo mm mt : Nat → Int32} {mv : Nat → Int64} {mx : Nat → Int32} (h : Cols xk xo xc xt xn xl mk mo mm mt mv mx) (v1 v2 : Int32) : ∃ r, p_X5_told v1 v2 xk xo xc xt xn xl = some r ∧ p_X6_told v1 v2 mk mo mm mt mv mx = some r := by
  unfold p_X5_told p_X6_told
  rcases colAt v1 with ⟨c, hc, rfl, e1, e2⟩ | ⟨e1, e2⟩
  · obtain ⟨K, O, vals, w, x, m⟩ := h c hc
    have hn := w.n
    have hO := w.o
    rw [e1, e2, bdS1, bdS1, moS, gdD (by omega), if_neg (show ¬ nI 1 = nI 0 by decide)]
    rcases splitI v2 with hneg | ⟨j, hj, rfl⟩
    · have hne : ∀ k, k < 2 ^ 31 → v2 ≠ nI k := fun k hk e => by
        rw [e, ltI (by omega) (by omega)] at hneg
        omega
      rw [M_in_neg hneg 0 _ (by omega), bdS1, if_pos rfl, if_neg (hne 0 (by omega)), if_neg (hne 1 (by omega)), if_neg (hne 2 (by omega)), if_neg (hne 3 (by omega)), if_neg (hne 4 (by omega))]
      exact ⟨_, rfl, rfl⟩
    · rw [M_in_nat (by omega) (by omega) (by omega), bdS1]
      by_cases h4 : j ≤ 4
      · have eA : p_X0_countAbsent c xc xt = some (nI (absF vals vals.length)) := X_absent_L (xl := xl) hn x.n x.v vals.length fu 0 (by omega) (by omega) (by rw [fu_eq]; omega)
        have eU : p_X0_countUnlike c xk xc xt xn xl = some (nI (unF vals vals.length)) := X_unl_L hn x.n x.k w.k x.v w.w vals.length fu 0 (by omega) (by omega) (by rw [fu_eq]; omega)
        have eM := fun kx : Int32 → Int32 → Option Int32 => M_told_L (kx := kx) hc hn m.n m.v w.w vals.length fu 0 (by omega) (by omega) (by rw [fu_eq]; omega)
        have eM' : ∀ kx : Int32 → Int32 → Option Int32, itr3 (p_X6_told_L76 (nI c) mm mt mv mx kx) fu (nI 0) (nI 0) (nI 0) = kx (nI (absF vals vals.length)) (nI (unF vals vals.length)) := eM
        rw [if_pos (show 0 ≤ j ∧ j ≤ 4 by omega), if_neg (show ¬ nI 1 = nI 0 by decide), eA, eU, eM', bdS1, bdS1, x.k, x.o, x.n, inbI (by omega), gdD (by omega), gdD (by omega), gdD (by omega), ixI (by omega), m.k, m.o, m.n]
        have hj5 : j = 0 ∨ j = 1 ∨ j = 2 ∨ j = 3 ∨ j = 4 := by omega
        rcases hj5 with rfl | rfl | rfl | rfl | rfl
        · exact ⟨_, rfl, rfl⟩
        · have hO2 : O = 0 ∨ O = 1 := by omega
          rcases hO2 with rfl | rfl
          · exact ⟨_, rfl, rfl⟩
          · exact ⟨_, rfl, rfl⟩
        · exact ⟨_, rfl, rfl⟩
        · exact ⟨_, rfl, rfl⟩
        · exact ⟨_, rfl, rfl⟩
      · rw [if_neg (show ¬ (0 ≤ j ∧ j ≤ 4) by omega), if_pos rfl, if_neg (by rw [eqI (by omega) (by omega)]; omega), if_neg (by rw [eqI (by omega) (by omega)]; omega), if_neg (by rw [eqI (by omega) (by omega)]; omega), if_neg (by rw [eqI (by omega) (by omega)]; omega), if_neg (by rw [eqI (by omega) (by omega)]; omega)]
        exact ⟨_, rfl, rfl⟩
  · rw [e1, e2, bdS1, bdS1, moN, if_pos rfl]
    exact ⟨_, rfl, rfl⟩
