/-! a text's letters, read -/
def fl (mf : Nat → Int32) (p a : Nat) : List Int32 := (List.range a).map (fun k => b8 (mf (p + k) &&& nI 255))
theorem fl_len (mf : Nat → Int32) (p a : Nat) : (fl mf p a).length = a := by simp [fl]
theorem fl_at {mf : Nat → Int32} {p a k : Nat} (h : k < (fl mf p a).length) : (fl mf p a)[k] = b8 (mf (p + k) &&& nI 255) := by simp [fl]
theorem b8L_fl (mf : Nat → Int32) (p a : Nat) : b8L (fl mf p a) := by
  intro x hx
  obtain ⟨k, _, rfl⟩ := List.mem_map.mp hx
  exact b8_b8' _
theorem get_row {rc : Nat → Int32} {rb : Nat → Nat → Int32} {mf : Nat → Int32} {e S i : Nat} (hs : Src rb mf e) (hS : rc 1 = nI S) (heS : e ≤ S) (hS2 : S ≤ 12000) (hi : i < e) : p_X3_get 1 (nI i) rc rb = some (mf i &&& nI 255) := by
  have he := hs.1
  have r1 : rlen 1 = 12000 := rfl
  unfold p_X3_get
  rw [hS, r1, if_neg (by rw [ltI (by omega) (by omega)]; omega), if_pos (by rw [ltI (by omega) (by omega)]; omega), if_pos (by rw [ltI (by omega) (by omega)]; omega), inbI (by omega), gdD (by omega), ixI (by omega), hs.2 i hi]
theorem X_ptext_L {c n0 p a e S : Nat} {xc rc : Nat → Int32} {xl : Nat → Nat → Int32} {rb : Nat → Nat → Int32} {mf : Nat → Int32} {kx : (Nat → Nat → Int32) → Option ((Nat → Int32) × (Nat → Nat → Int32) × (Nat → Nat → Int64) × (Nat → Nat → Int32))} (hs : Src rb mf e) (hS : rc 1 = nI S) (heS : e ≤ S) (hS2 : S ≤ 12000) (hn : xc c = nI n0) (h : n0 < 200) (ha : a ≤ 40) (hpa : p + a ≤ e) : ∀ (m n k : Nat), a - k = m → k ≤ a → m < n → itr2 (p_X0_pushText_L31 c 1 (nI p) (nI a) xc rc rb kx) n (nI k) (up xl c (wr (xl c) (n0 * 40) ((fl mf p a).take k))) = kx (up xl c (wr (xl c) (n0 * 40) (fl mf p a))) := by
  have he := hs.1
  intro m
  induction m with
  | zero =>
    intro n k h1 h2 h3
    have : k = a := by omega
    subst this
    cases n with
    | zero => omega
    | succ n =>
      rw [List.take_of_length_le (by rw [fl_len]; omega)]
      show p_X0_pushText_L31 c 1 (nI p) (nI k) xc rc rb kx _ (nI k) _ = _
      rw [p_X0_pushText_L31, if_neg (by rw [ltI (by omega) (by omega)]; omega)]
  | succ m ih =>
    intro n k h1 h2 h3
    cases n with
    | zero => omega
    | succ n =>
      have hk : k < (fl mf p a).length := by rw [fl_len]; omega
      show p_X0_pushText_L31 c 1 (nI p) (nI a) xc rc rb kx _ (nI k) _ = _
      rw [p_X0_pushText_L31, if_pos (by rw [ltI (by omega) (by omega)]; omega), addI, get_row hs hS heS hS2 (show p + k < e by omega), bdS1, hn, mulI, addI, inbI (by omega), gdD (by omega), ixI (by omega), up_up, up_s, addI, ← fl_at hk]
      have e2 : n0 * 40 + k = n0 * 40 + ((fl mf p a).take k).length := by rw [List.length_take, fl_len]; omega
      rw [e2, wr_snoc, take_snoc hk]
      exact ih n (k + 1) (by omega) (by omega) (by omega)
theorem X_ntext {c n0 p a e S : Nat} {xc rc : Nat → Int32} {xt : Nat → Nat → Int32} {xn : Nat → Nat → Int64} {xl : Nat → Nat → Int32} {rb : Nat → Nat → Int32} {mf : Nat → Int32} (hs : Src rb mf e) (hS : rc 1 = nI S) (heS : e ≤ S) (hS2 : S ≤ 12000) (hn : xc c = nI n0) (h : n0 < 200) (ha : a ≤ 40) (hpa : p + a ≤ e) : p_X4_nextText c (nI a) xc xt xn xl rc rb (some 1) (nI p) (nI e) (nI 0) = some (up xc c (nI (n0 + 1)), up xt c (up (xt c) n0 (nI 1)), up xn c (up (xn c) n0 (lN a)), up xl c (wr (xl c) (n0 * 40) (fl mf p a)), nI (p + a)) := by
  have he := hs.1
  have e := X_ptext_L (xl := xl) (kx := fun xl_4 => some (up xc c (nI (n0 + 1)), up xt c (up (xt c) n0 (nI 1)), up xn c (up (xn c) n0 (lN a)), xl_4)) hs hS heS hS2 hn h ha hpa a fu 0 (by omega) (by omega) (by rw [fu_eq]; omega)
  rw [List.take_zero, wr_nil, up_id] at e
  have ep : p_X0_pushText c 1 (nI p) (nI a) xc xt xn xl rc rb = some (up xc c (nI (n0 + 1)), up xt c (up (xt c) n0 (nI 1)), up xn c (up (xn c) n0 (lN a)), up xl c (wr (xl c) (n0 * 40) (fl mf p a))) := by
    unfold p_X0_pushText
    simp only [hn]
    simp (disch := omega) only [ltI, eqI, addI, subI, mulI, divI, ixI, inbI, i2lI, l2iL, ltL, eqL, addL, mulL, subL, gdD, if_pos, if_neg, if_true, if_false, bdS1, bdS2, bdS3, bdS4, bdS5, bdS6, bdS7, bdS8, bdS9, bdS10, bdS11, bdS12, bdS13, moN, moS, h]
    exact e
  unfold p_X4_nextText p_X4_left
  rw [if_pos rfl, moS, gdD (by omega), if_neg (by rw [ltI (by omega) (by omega)]; omega), subI (by omega), bdS1, if_neg (by rw [ltI (by omega) (by omega)]; omega), ep, bdS4, addI]
abbrev LM : Type := Int32 × (Nat → Int32) × (Nat → Int32) × (Nat → Int64) × (Nat → Int32) × Int32 × Int32 × Int32
theorem M_ltr_L {c n0 p a e : Nat} {rb : Nat → Nat → Int32} {mf mx : Nat → Int32} {kx : (Nat → Int32) → Int32 → Int32 → Int32 → Option LM} (hs : Src rb mf e) (hc : c < 7) (h : n0 < 200) (ha : a ≤ 40) (hpa : p + a ≤ e) : ∀ (m n k : Nat), a - k = m → k ≤ a → m < n → itr5 (p_X6_readLetters_L12 (nI c) (nI a) (nI n0) mf (nI e) kx) n (nI k) (wr mx (40 * (200 * c + n0)) ((fl mf p a).take k)) (nI (p + k)) (nI 0) (nI 0) = kx (wr mx (40 * (200 * c + n0)) (fl mf p a)) (nI (p + a)) (nI 0) (nI 0) := by
  have he := hs.1
  intro m
  induction m with
  | zero =>
    intro n k h1 h2 h3
    have : k = a := by omega
    subst this
    cases n with
    | zero => omega
    | succ n =>
      rw [List.take_of_length_le (by rw [fl_len]; omega)]
      show p_X6_readLetters_L12 (nI c) (nI k) (nI n0) mf (nI e) kx _ (nI k) _ (nI (p + k)) (nI 0) (nI 0) = _
      rw [p_X6_readLetters_L12, if_neg (by rw [ltI (by omega) (by omega)]; omega)]
  | succ m ih =>
    intro n k h1 h2 h3
    cases n with
    | zero => omega
    | succ n =>
      have hk : k < (fl mf p a).length := by rw [fl_len]; omega
      have en : p_X6_next mf (nI (p + k)) (nI e) (nI 0) (nI 0) = some (mf (p + k) &&& nI 255, nI (p + k + 1), nI 0, nI 0) := by
        unfold p_X6_next
        rw [if_pos (by rw [ltI (by omega) (by omega)]; omega), addI, subI (by omega), Nat.add_sub_cancel, inbI (by omega), gdD (by omega), ixI (by omega)]
      show p_X6_readLetters_L12 (nI c) (nI a) (nI n0) mf (nI e) kx _ (nI k) _ (nI (p + k)) (nI 0) (nI 0) = _
      rw [p_X6_readLetters_L12, if_pos (show nI k < nI a by rw [ltI (by omega) (by omega)]; omega), if_pos (show nI 0 = nI 0 from rfl), en, bdS4, mulI, addI, mulI, addI, inbI (by omega), gdD (by omega), ixI (by omega), addI, ← fl_at hk]
      have e2 : 40 * (200 * c + n0) + k = 40 * (200 * c + n0) + ((fl mf p a).take k).length := by rw [List.length_take, fl_len]; omega
      rw [e2, wr_snoc, take_snoc hk]
      exact ih n (k + 1) (by omega) (by omega) (by omega)
theorem M_ltr {c n0 p a e : Nat} {rb : Nat → Nat → Int32} {mf mm mt : Nat → Int32} {mv : Nat → Int64} {mx : Nat → Int32} (hs : Src rb mf e) (hc : c < 7) (hm : mm c = nI n0) (h : n0 < 200) (ha : a ≤ 40) (hpa : p + a ≤ e) : p_X6_readLetters (nI c) (nI a) mm mt mv mx mf (nI p) (nI e) (nI 0) (nI 0) = some (nI 1, up mm c (nI (n0 + 1)), up mt (200 * c + n0) (nI 1), up mv (200 * c + n0) (lN a), wr mx (40 * (200 * c + n0)) (l40 (fl mf p a)), nI (p + a), nI 0, nI 0) := by
  unfold p_X6_readLetters
  have e1 := M_ltr_L (mx := wr mx (40 * (200 * c + n0)) (l40 [])) (kx := fun mx_13 ma_14 mb_15 mba_16 => p_X6_readLetters_J54 (up mm c (nI (n0 + 1))) (up mt (200 * c + n0) (nI 1)) (up mv (200 * c + n0) (lN a)) mx_13 ma_14 mb_15 mba_16) hs hc h ha hpa a fu 0 (by omega) (by omega) (by rw [fu_eq]; omega)
  rw [List.take_zero, wr_nil, wr_l40 (by rw [fl_len]; exact ha)] at e1
  rw [i2lI (by omega), M_adds hc h hm (by omega), bdS5]
  refine e1.trans ?_
  rw [p_X6_readLetters_J54, if_pos rfl]
