/-! a page's values, whatever their code; texts by their lengths -/
abbrev VX : Type := (Nat → Int32) × (Nat → Nat → Int32) × (Nat → Nat → Int64) × (Nat → Nat → Int32) × (Nat → Nat → Int64) × Int32 × Int32 × Int32 × Int32 × (Nat → Int32)
def VOut (pre : Nat → AV) (B K N p e : Nat) (xk xo : Nat → Int32) (rpv : Int32) (la : Nat → Nat → Int64) (xc : Nat → Int32) (xt : Nat → Nat → Int32) (xn : Nat → Nat → Int64) (xl : Nat → Nat → Int32) (mm mt : Nat → Int32) (mv : Nat → Int64) (mx : Nat → Int32) (x : Option VX) (m : Option VM) : Prop :=
  (∃ ts p' xc' xt' xn' xl' la' swd' mm' mt' mv' mx' mn' c b mw', ts.length = N ∧ p ≤ p' ∧ p' ≤ e ∧ RS pre 4 B 6 K ts xc' xt' xn' xl' mm' mt' mv' mx' ∧ FrX 4 xc xt xn xl xc' xt' xn' xl' ∧ FrN 6 mm mt mv mx mm' mt' mv' mx' ∧ FrA 2 la la' ∧ x = p_X1_readData_J169 (nI B) xk xo xc' xt' xn' xl' la' (nI p') (nI e) (nI 0) (nI 0) swd' rpv ∧ m = some (nI 1, mm', mt', mv', mx', mn', nI p', nI e, nI 0, nI 0, c, b, mw')) ∨
  (∃ xc' xt' xn' xl' la' sx sn swd' mm' mt' mv' mx' mn' sm me d q c b mw', d ≠ nI 0 ∧ FrX 4 xc xt xn xl xc' xt' xn' xl' ∧ FrN 6 mm mt mv mx mm' mt' mv' mx' ∧ x = some (xc', xt', xn', xl', la', sx, sn, d, q, swd') ∧ m = some (nI 0, mm', mt', mv', mx', mn', sm, me, d, q, c, b, mw'))
theorem d_169 {v1 : Int32} {xk xo xc : Nat → Int32} {xt : Nat → Nat → Int32} {xn : Nat → Nat → Int64} {xl : Nat → Nat → Int32} {la : Nat → Nat → Int64} {ssp sen d q : Int32} {swd : Nat → Int32} {rpv : Int32} (hd : d ≠ nI 0) : p_X1_readData_J169 v1 xk xo xc xt xn xl la ssp sen d q swd rpv = some (xc, xt, xn, xl, la, ssp, sen, d, q, swd) := by
  rw [p_X1_readData_J169, d_sound hd, bdS1, if_pos rfl, ite_self]
def sumF (f : Nat → Nat) : Nat → Nat → Nat
  | 0, _ => 0
  | k + 1, j => f j + sumF f k (j + 1)
def lnF (mn : Nat → Int64) (t : Nat) : Nat := ix (l2i (mn t))
theorem lnF_of {mn : Nat → Int64} {t l : Nat} (h : mn t = lN l) (hl : l ≤ 40) : lnF mn t = l := by
  unfold lnF
  rw [h, l2iL, ixI (by omega)]
theorem L_good_L {N : Nat} {la : Nat → Nat → Int64} {mn : Nat → Int64} {β γ : Type} {k91 : Int64 → Int32 → Option (((Nat → Int32) × (Nat → Nat → Int32) × (Nat → Nat → Int64) × (Nat → Nat → Int32) × (Nat → Nat → Int64) × Int32 × Int32 × Int32 × (Nat → Int32)))} {k70 : Int64 → Int32 → Option (Int32 × (Nat → Int32) × (Nat → Int32) × (Nat → Int64) × (Nat → Int32) × (Nat → Int64) × Int32 × Int32 × Int32 × Int32 × Int32 × (Nat → Int32))} (hk : Lk 2 N la mn) (hN : N ≤ 200) : ∀ (m n j : Nat) (sum : Int64) (fl : Nat), N - j = m → j ≤ N → m < n → fl ≤ 1 → ∃ sum' fl', fl' ≤ 1 ∧ (fl' = 1 → fl = 1 ∧ (∀ t, j ≤ t → t < N → ∃ l, l ≤ 40 ∧ mn t = lN l) ∧ ∀ s : Nat, sum = lN s → sum' = lN (s + sumF (lnF mn) (N - j) j)) ∧ itr3 (p_X1_readLengths_L21 (nI N) la k91) n sum (nI fl) (nI j) = k91 sum' (nI fl') ∧ itr3 (p_X6_readTexts_L19 (nI N) mn k70) n sum (nI fl) (nI j) = k70 sum' (nI fl') := by
  have n1 : ¬ nI 1 = nI 0 := by decide
  intro m
  induction m with
  | zero =>
    intro n j sum fl h1 h2 h3 hf
    have : j = N := by omega
    subst this
    cases n with
    | zero => omega
    | succ n =>
      refine ⟨sum, fl, hf, fun h => ⟨h, fun t ht1 ht2 => by omega, fun s hs => by rw [h1]; exact hs⟩, ?_, ?_⟩
      · show p_X1_readLengths_L21 (nI j) la k91 _ sum (nI fl) (nI j) = _
        rw [p_X1_readLengths_L21, if_neg (by rw [ltI (by omega) (by omega)]; omega)]
      · show p_X6_readTexts_L19 (nI j) mn k70 _ sum (nI fl) (nI j) = _
        rw [p_X6_readTexts_L19, if_neg (by rw [ltI (by omega) (by omega)]; omega)]
  | succ m ih =>
    intro n j sum fl h1 h2 h3 hf
    cases n with
    | zero => omega
    | succ n =>
      have hX : itr3 (p_X1_readLengths_L21 (nI N) la k91) (n + 1) sum (nI fl) (nI j) = p_X1_readLengths_L21 (nI N) la k91 (fun a b c => itr3 (p_X1_readLengths_L21 (nI N) la k91) n a b c) sum (nI fl) (nI j) := rfl
      have hM : itr3 (p_X6_readTexts_L19 (nI N) mn k70) (n + 1) sum (nI fl) (nI j) = p_X6_readTexts_L19 (nI N) mn k70 (fun a b c => itr3 (p_X6_readTexts_L19 (nI N) mn k70) n a b c) sum (nI fl) (nI j) := rfl
      have x73 : ∀ s0 : Int32, p_X1_readLengths_J73 sum (nI j) s0 la (fun a b c => itr3 (p_X1_readLengths_L21 (nI N) la k91) n a b c) = itr3 (p_X1_readLengths_L21 (nI N) la k91) n (sum + mn j) s0 (nI (j + 1)) := by
        intro s0
        rw [p_X1_readLengths_J73, inbI (by omega), gdD (by omega), ixI (by omega), hk j (by omega), addI]
      have m52 : ∀ s0 : Int32, p_X6_readTexts_J52 sum (nI j) s0 mn (fun a b c => itr3 (p_X6_readTexts_L19 (nI N) mn k70) n a b c) = itr3 (p_X6_readTexts_L19 (nI N) mn k70) n (sum + mn j) s0 (nI (j + 1)) := by
        intro s0
        rw [p_X6_readTexts_J52, inbI (by omega), gdD (by omega), ixI (by omega), addI]
      rw [hX, hM, p_X1_readLengths_L21, p_X6_readTexts_L19, if_pos (show nI j < nI N by rw [ltI (by omega) (by omega)]; omega), if_pos (show nI j < nI 200 by rw [ltI (by omega) (by omega)]; omega), if_pos (show nI j < nI N by rw [ltI (by omega) (by omega)]; omega), p_X1_readLengths_J72, p_X6_readTexts_J51, x73, x73, m52, m52, inbI (by omega), gdD (by omega), gdD (by omega), inbI (by omega), gdD (by omega), ixI (by omega), hk j (by omega), M_in]
      have bad : ∃ sum' fl', fl' ≤ 1 ∧ (fl' = 1 → fl = 1 ∧ (∀ t, j ≤ t → t < N → ∃ l, l ≤ 40 ∧ mn t = lN l) ∧ ∀ s : Nat, sum = lN s → sum' = lN (s + sumF (lnF mn) (N - j) j)) ∧ itr3 (p_X1_readLengths_L21 (nI N) la k91) n (sum + mn j) (nI 0) (nI (j + 1)) = k91 sum' (nI fl') ∧ itr3 (p_X6_readTexts_L19 (nI N) mn k70) n (sum + mn j) (nI 0) (nI (j + 1)) = k70 sum' (nI fl') := by
        obtain ⟨s2, f2, r1, r2, r3, r4⟩ := ih n (j + 1) (sum + mn j) 0 (by omega) (by omega) (by omega) (by omega)
        exact ⟨s2, f2, r1, fun h => by have := (r2 h).1; omega, r3, r4⟩
      by_cases f0 : fl = 0
      · subst f0
        rw [if_pos (show nI 0 = nI 0 from rfl), if_pos (show nI 0 = nI 0 from rfl)]
        exact bad
      · have f1 : fl = 1 := by omega
        subst f1
        rw [if_neg n1, if_neg n1, bdS1, lN_toInt (show 0 < 2 ^ 31 by omega), lN_toInt (show 40 < 2 ^ 31 by omega)]
        rcases splitL (mn j) with hneg | ⟨l, hl, he⟩
        · have : (mn j).toInt < 0 := by
            have := Int64.lt_iff_toInt_lt.mp hneg
            rw [lN_toInt (by omega)] at this
            omega
          rw [if_pos hneg, if_neg (show ¬ (((0 : Nat) : Int) ≤ (mn j).toInt ∧ (mn j).toInt ≤ ((40 : Nat) : Int)) by omega), if_pos (show nI 0 = nI 0 from rfl)]
          exact bad
        · have e1 : (mn j).toInt = (l : Int) := by rw [he]; exact pk_lT hl
          rw [if_neg (show ¬ mn j < lN 0 by rw [he, ltL (by omega) (by omega)]; omega)]
          by_cases h40 : 40 < l
          · rw [if_pos (show lN 40 < mn j by rw [he, ltL (by omega) (by omega)]; exact h40), if_neg (show ¬ (((0 : Nat) : Int) ≤ (mn j).toInt ∧ (mn j).toInt ≤ ((40 : Nat) : Int)) by omega), if_pos (show nI 0 = nI 0 from rfl)]
            exact bad
          · rw [if_neg (show ¬ lN 40 < mn j by rw [he, ltL (by omega) (by omega)]; exact h40), if_pos (show (((0 : Nat) : Int) ≤ (mn j).toInt ∧ (mn j).toInt ≤ ((40 : Nat) : Int)) by omega), if_neg n1]
            obtain ⟨s2, f2, r1, r2, r3, r4⟩ := ih n (j + 1) (sum + mn j) 1 (by omega) (by omega) (by omega) (by omega)
            refine ⟨s2, f2, r1, fun h => ⟨rfl, fun t ht1 ht2 => ?_, fun s hs => ?_⟩, r3, r4⟩
            · by_cases e : t = j
              · rw [e]; exact ⟨l, by omega, he⟩
              · exact (r2 h).2.1 t (by omega) ht2
            · have e2 : N - j = (N - (j + 1)) + 1 := by omega
              rw [(r2 h).2.2 (s + l) (by rw [hs, he, addL]), e2]
              show _ = lN (s + (lnF mn j + sumF (lnF mn) (N - (j + 1)) (j + 1)))
              rw [lnF_of he (by omega), Nat.add_assoc]
/-- the letters of texts whose lengths are known to fit -/
theorem L_texts_L {pre : Nat → AV} {B N e S : Nat} {rc : Nat → Int32} {rb : Nat → Nat → Int32} {la : Nat → Nat → Int64} {mf : Nat → Int32} {mn : Nat → Int64} {mbl mby : Int32} {mw swd : Nat → Int32} (hs : Src rb mf e) (hS : rc 1 = nI S) (heS : e ≤ S) (hS2 : S ≤ 12000) (hN : B + N ≤ 200) (hk : Lk 2 N la mn) (hl : ∀ t, t < N → ∃ l, l ≤ 40 ∧ mn t = lN l) : ∀ (m n p : Nat) (ts : List TV) (xc : Nat → Int32) (xt : Nat → Nat → Int32) (xn : Nat → Nat → Int64) (xl : Nat → Nat → Int32) (mm mt : Nat → Int32) (mv : Nat → Int64) (mx : Nat → Int32), N - ts.length = m → ts.length ≤ N → m + 1 < n → p + sumF (lnF mn) (N - ts.length) ts.length ≤ e → RS pre 4 B 6 2 ts xc xt xn xl mm mt mv mx →
    ∃ ts' p' xc' xt' xn' xl' mm' mt' mv' mx', ts'.length = N ∧ p ≤ p' ∧ p' ≤ e ∧ RS pre 4 B 6 2 ts' xc' xt' xn' xl' mm' mt' mv' mx' ∧ FrX 4 xc xt xn xl xc' xt' xn' xl' ∧ FrN 6 mm mt mv mx mm' mt' mv' mx' ∧ itr6 (p_X1_readLengths_L133 (nI N) rc rb la (some 1) (nI e) (nI 0) (nI 0) swd) n (nI ts.length) xc xt xn xl (nI p) = some (xc', xt', xn', xl', la, nI p', nI 0, nI 0, swd) ∧ itr8 (p_X6_readTexts_L101 (nI N) mf mn (nI e) mbl mby mw) n (nI ts.length) mm mt mv mx (nI p) (nI 0) (nI 0) = some (nI 1, mm', mt', mv', mx', mn, nI p', nI 0, nI 0, mbl, mby, mw) := by
  have he := hs.1
  have es : p_X4_isSound (nI 0) = some (nI 1) := rfl
  have n1 : ¬ nI 1 = nI 0 := by decide
  intro m
  induction m with
  | zero =>
    intro n p ts xc xt xn xl mm mt mv mx h1 h2 h3 hp hr
    cases n with
    | zero => omega
    | succ n =>
      refine ⟨ts, p, xc, xt, xn, xl, mm, mt, mv, mx, by omega, by omega, by omega, hr, FrX.rf, FrN.rf, ?_, ?_⟩
      · show p_X1_readLengths_L133 (nI N) rc rb la (some 1) (nI e) (nI 0) (nI 0) swd _ (nI ts.length) xc xt xn xl (nI p) = _
        rw [p_X1_readLengths_L133, if_neg (by rw [ltI (by omega) (by omega)]; omega)]
      · show p_X6_readTexts_L101 (nI N) mf mn (nI e) mbl mby mw _ (nI ts.length) mm mt mv mx (nI p) (nI 0) (nI 0) = _
        rw [p_X6_readTexts_L101, if_neg (by rw [ltI (by omega) (by omega)]; omega)]
  | succ m ih =>
    intro n p ts xc xt xn xl mm mt mv mx h1 h2 h3 hp hr
    cases n with
    | zero => omega
    | succ n =>
      obtain ⟨l, hl40, hle⟩ := hl ts.length (by omega)
      have e2 : N - ts.length = (N - (ts.length + 1)) + 1 := by omega
      rw [e2] at hp
      have hp2 : p + (lnF mn ts.length + sumF (lnF mn) (N - (ts.length + 1)) (ts.length + 1)) ≤ e := hp
      rw [lnF_of hle hl40] at hp2
      have ht : TVok 2 (lN l, fl mf p l) := ⟨by rw [fl_len]; exact hl40, b8L_fl _ _ _, by rw [if_pos rfl, fl_len]⟩
      have hr2 := hr.put ht
      have hlen : (ts ++ [(lN l, fl mf p l)]).length = ts.length + 1 := by simp
      have hgo := ih n (p + l) (ts ++ [(lN l, fl mf p l)]) _ _ _ _ _ _ _ _ (by omega) (by omega) (by omega) (by rw [hlen]; omega) hr2
      rw [hlen] at hgo
      obtain ⟨ts2, p2, xc2, xt2, xn2, xl2, mm2, mt2, mv2, mx2, r1, r2, r3, r4, r5, r6, r7, r8⟩ := hgo
      refine ⟨ts2, p2, xc2, xt2, xn2, xl2, mm2, mt2, mv2, mx2, r1, by omega, r3, r4, FrX.tr (fun d hd => ⟨up_n hd, up_n hd, up_n hd, up_n hd⟩) r5, FrN.tr (FrN.put (some (lN l, fl mf p l)) (by omega)) r6, ?_, ?_⟩
      · show p_X1_readLengths_L133 (nI N) rc rb la (some 1) (nI e) (nI 0) (nI 0) swd _ (nI ts.length) xc xt xn xl (nI p) = _
        rw [p_X1_readLengths_L133, if_pos (by rw [ltI (by omega) (by omega)]; omega), if_pos (by rw [ltI (by omega) (by omega)]; omega), es, bdS1, if_neg n1, inbI (by omega), gdD (by omega), ixI (by omega), hk ts.length (by omega), hle, l2iL, X_ntext hs hS heS hS2 hr.1 (by omega) hl40 (by omega), bdS5, addI]
        exact r7
      · show p_X6_readTexts_L101 (nI N) mf mn (nI e) mbl mby mw _ (nI ts.length) mm mt mv mx (nI p) (nI 0) (nI 0) = _
        rw [p_X6_readTexts_L101, if_pos (by rw [ltI (by omega) (by omega)]; omega), inbI (by omega), gdD (by omega), ixI (by omega), hle, l2iL, M_ltr hs (by omega) hr.2.1 (by omega) hl40 (by omega), bdS8, if_neg n1, addI]
        exact r8
