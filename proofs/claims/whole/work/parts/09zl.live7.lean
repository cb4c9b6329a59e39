abbrev K217 : Type := (Nat → Nat → Int64) → Int32 → Int32 → Int32 → Option DX
theorem d_L168 {r s en : Nat} {rb : Nat → Nat → Int32} {sen : Int32} {swd : Nat → Int32} {kz : K217} {la : Nat → Nat → Int64} {sx d q : Int32} (hd : d ≠ nI 0) : ∀ (m n k : Nat), 4 - k = m → k ≤ 4 → m < n → itr5 (p_X4_nextDifferences_L168 r (nI s) (nI en) rb (some 1) sen swd kz) n (nI k) la sx d q = kz la sx d q := by
  intro m
  induction m with
  | zero =>
    intro n k h1 h2 h3
    have : k = 4 := by omega
    subst this
    cases n with
    | zero => omega
    | succ n =>
      show p_X4_nextDifferences_L168 r (nI s) (nI en) rb (some 1) sen swd kz _ (nI 4) la sx d q = _
      rw [p_X4_nextDifferences_L168, if_neg (by decide)]
  | succ m ih =>
    intro n k h1 h2 h3
    cases n with
    | zero => omega
    | succ n =>
      show p_X4_nextDifferences_L168 r (nI s) (nI en) rb (some 1) sen swd kz _ (nI k) la sx d q = _
      rw [p_X4_nextDifferences_L168, if_pos (by rw [ltI (by omega) (by omega)]; omega), inbI (by omega), gdD (by omega), d_packed hd, bdS4, addI, ih n (k + 1) (by omega) (by omega) (by omega), ite_self]
theorem L_parts {r s en ints : Nat} {rb : Nat → Nat → Int32} {mf : Nat → Int32} {e : Nat} {L : Int64} {swd mw : Nat → Int32} {kz : K217} {kx : K346} (hs : Src rb mf e) (hi : ints ≤ 1) (h1s : 1 ≤ s) (hse : s < en) (hen : en ≤ 200) (h128 : en ≤ s + 128) (hwd : WD 4 swd mw) : ∀ (m n k p : Nat) (la : Nat → Nat → Int64) (mn : Nat → Int64) (mbl mby : Int32), 4 - k = m → k ≤ 4 → m + 1 < n → p ≤ e → LkI ints r s la mn → AC ints L r s (min (s + 32 * k) en) la mn →
    (∃ la' mn' p' c' mby', p ≤ p' ∧ p' ≤ e ∧ FrA r la la' ∧ LkI ints r s la' mn' ∧ AC ints L r s en la' mn' ∧ itr5 (p_X4_nextDifferences_L168 r (nI s) (nI en) rb (some 1) (nI e) swd kz) n (nI k) la (nI p) (nI 0) (nI 0) = kz la' (nI p') (nI 0) (nI 0) ∧ itr8 (p_X6_readDifferences_L222 (nI ints) (nI s) (nI en) L mf (nI e) mw kx) n (mn (min (s + 32 * k) en - 1)) (nI k) mn (nI p) (nI 0) (nI 0) mbl mby = kx (mn' (en - 1)) mn' (nI p') (nI 0) (nI 0) c' mby') ∨
    (∃ la' sx v mn' sm d q cm bm, d ≠ nI 0 ∧ FrA r la la' ∧ itr5 (p_X4_nextDifferences_L168 r (nI s) (nI en) rb (some 1) (nI e) swd kz) n (nI k) la (nI p) (nI 0) (nI 0) = kz la' sx d q ∧ itr8 (p_X6_readDifferences_L222 (nI ints) (nI s) (nI en) L mf (nI e) mw kx) n (mn (min (s + 32 * k) en - 1)) (nI k) mn (nI p) (nI 0) (nI 0) mbl mby = kx v mn' sm d q cm bm) := by
  intro m
  induction m with
  | zero =>
    intro n k p la mn mbl mby h1 h2 h3 hp hk hac
    have : k = 4 := by omega
    subst this
    cases n with
    | zero => omega
    | succ n =>
      have em : min (s + 32 * 4) en = en := by omega
      rw [em] at hac ⊢
      left
      refine ⟨la, mn, p, mbl, mby, by omega, hp, FrA.rf, hk, hac, ?_, ?_⟩
      · show p_X4_nextDifferences_L168 r (nI s) (nI en) rb (some 1) (nI e) swd kz _ (nI 4) la (nI p) (nI 0) (nI 0) = _
        rw [p_X4_nextDifferences_L168, if_neg (by decide)]
      · show p_X6_readDifferences_L222 (nI ints) (nI s) (nI en) L mf (nI e) mw kx _ _ (nI 4) mn (nI p) (nI 0) (nI 0) mbl mby = _
        rw [p_X6_readDifferences_L222, if_neg (by decide)]
  | succ m ih =>
    intro n k p la mn mbl mby h1 h2 h3 hp hk hac
    cases n with
    | zero => omega
    | succ n =>
      obtain ⟨w, w1, w2, w3⟩ := hwd k (by omega)
      have hX : itr5 (p_X4_nextDifferences_L168 r (nI s) (nI en) rb (some 1) (nI e) swd kz) (n + 1) (nI k) la (nI p) (nI 0) (nI 0) = p_X4_nextDifferences_L168 r (nI s) (nI en) rb (some 1) (nI e) swd kz (fun a b c d f => itr5 (p_X4_nextDifferences_L168 r (nI s) (nI en) rb (some 1) (nI e) swd kz) n a b c d f) (nI k) la (nI p) (nI 0) (nI 0) := rfl
      have hM : itr8 (p_X6_readDifferences_L222 (nI ints) (nI s) (nI en) L mf (nI e) mw kx) (n + 1) (mn (min (s + 32 * k) en - 1)) (nI k) mn (nI p) (nI 0) (nI 0) mbl mby = p_X6_readDifferences_L222 (nI ints) (nI s) (nI en) L mf (nI e) mw kx (fun a b c d f g h i => itr8 (p_X6_readDifferences_L222 (nI ints) (nI s) (nI en) L mf (nI e) mw kx) n a b c d f g h i) (mn (min (s + 32 * k) en - 1)) (nI k) mn (nI p) (nI 0) (nI 0) mbl mby := rfl
      rw [hX, hM, p_X4_nextDifferences_L168, p_X6_readDifferences_L222, if_pos (show nI k < nI 4 by rw [ltI (by omega) (by omega)]; omega), if_pos (show nI k < nI 4 by rw [ltI (by omega) (by omega)]; omega), if_pos (show nI 0 = nI 0 from rfl), mulI, mulI, addI, addI, addI, Nat.mul_comm k 32]
      -- what the reference does after this part
      have hkd : ∀ (v : Int64) (mn1 : Nat → Int64) (sm d q cm bm : Int32), d ≠ nI 0 → itr8 (p_X6_readDifferences_L222 (nI ints) (nI s) (nI en) L mf (nI e) mw kx) n v (nI (k + 1)) mn1 sm d q cm bm = kx v mn1 sm d q cm bm := by
        intro v mn1 sm d q cm bm hd
        cases n with
        | zero => omega
        | succ n =>
          show p_X6_readDifferences_L222 (nI ints) (nI s) (nI en) L mf (nI e) mw kx _ v (nI (k + 1)) mn1 sm d q cm bm = _
          rw [p_X6_readDifferences_L222, if_neg hd, ite_self]
      by_cases ha : s + 32 * k < en
      · have em : min (s + 32 * k + 0) en = min (s + 32 * k) en := by omega
        have em2 : min (s + 32 * (k + 1)) en = min (s + 32 * k + 32) en := by omega
        rw [if_pos (show nI (s + 32 * k) < nI en by rw [ltI (by omega) (by omega)]; exact ha), inbI (by omega), gdD (by omega), ixI (by omega), w2]
        rcases L_part (r := r) (s := s) (en := en) (k := k) (w := w) (ints := ints) (L := L) (mw := mw) (kx := fun v4_53 mn_54 ma_55 mb_56 mba_57 mbl_58 mby_59 => itr8 (p_X6_readDifferences_L222 (nI ints) (nI s) (nI en) L mf (nI e) mw kx) n v4_53 (nI (k + 1)) mn_54 ma_55 mb_56 mba_57 mbl_58 mby_59) hs hi h1s hen (by omega) w1 w3 ha 32 fu 0 p 0 (nI 0) mby la mn (by omega) (by omega) (by rw [fu_eq]; omega) hp ⟨by omega, fun h => absurd rfl h⟩ hk (by rw [em]; exact hac) with ⟨la1, mn1, p1, c1, by1, q1, q2, q3, q4, q5, q6, q7⟩ | ⟨la1, sx, v, mn1, sm, d, q, cm, bm, hd, q3, q6, q7⟩
        · rw [em] at q7
          have q6' : p_X4_nextPacked r (nI (s + 32 * k)) (nI en) (nI 32) (nI w) rb la (some 1) (nI p) (nI e) (nI 0) (nI 0) = some (la1, nI p1, nI 0, nI 0) := q6
          have q7' := q7
          rw [show nI (s + 32 * k + 0) = nI (s + 32 * k) from rfl] at q7'
          have hgo := ih n (k + 1) p1 la1 mn1 (nI c1) by1 (by omega) (by omega) (by omega) q2 q4 (by rw [em2]; exact q5)
          rw [em2] at hgo
          rw [q6', bdS4, q7']
          rcases hgo with ⟨la2, mn2, p2, c2, by2, r1, r2, r3, r4, r5, r6, r7⟩ | ⟨la2, sx, v, mn2, sm, d, q, cm, bm, hd, r3, r6, r7⟩
          · exact Or.inl ⟨la2, mn2, p2, c2, by2, by omega, r2, q3.tr r3, r4, r5, r6, r7⟩
          · exact Or.inr ⟨la2, sx, v, mn2, sm, d, q, cm, bm, hd, q3.tr r3, r6, r7⟩
        · rw [em] at q7
          have q6' : p_X4_nextPacked r (nI (s + 32 * k)) (nI en) (nI 32) (nI w) rb la (some 1) (nI p) (nI e) (nI 0) (nI 0) = some (la1, sx, d, q) := q6
          have q7' := q7
          rw [show nI (s + 32 * k + 0) = nI (s + 32 * k) from rfl] at q7'
          rw [q6', bdS4, q7', d_L168 hd (4 - (k + 1)) n (k + 1) rfl (by omega) (by omega), hkd _ _ _ _ _ _ _ hd]
          exact Or.inr ⟨la1, sx, v, mn1, sm, d, q, cm, bm, hd, q3, rfl, rfl⟩
      · have em : min (s + 32 * k) en = en := by omega
        have em2 : min (s + 32 * (k + 1)) en = en := by omega
        rw [em] at hac ⊢
        have e250 : itr8 (p_X6_readDifferences_L250 (nI ints) (nI s) (nI en) L (nI k) mf (nI e) mw (fun v4_53 mn_54 ma_55 mb_56 mba_57 mbl_58 mby_59 => itr8 (p_X6_readDifferences_L222 (nI ints) (nI s) (nI en) L mf (nI e) mw kx) n v4_53 (nI (k + 1)) mn_54 ma_55 mb_56 mba_57 mbl_58 mby_59)) fu (mn (en - 1)) (nI (s + 32 * k)) mn (nI p) (nI 0) (nI 0) (nI 0) mby = itr8 (p_X6_readDifferences_L222 (nI ints) (nI s) (nI en) L mf (nI e) mw kx) n (mn (en - 1)) (nI (k + 1)) mn (nI p) (nI 0) (nI 0) (nI 0) mby := by
          rw [fu_eq]
          show p_X6_readDifferences_L250 (nI ints) (nI s) (nI en) L (nI k) mf (nI e) mw _ _ (mn (en - 1)) (nI (s + 32 * k)) mn (nI p) (nI 0) (nI 0) (nI 0) mby = _
          rw [p_X6_readDifferences_L250, mulI, addI, addI, if_neg (show ¬ nI (s + 32 * k) < nI en by rw [ltI (by omega) (by omega)]; exact ha), ite_self]
        have e250' := e250
        rw [if_neg (show ¬ nI (s + 32 * k) < nI en by rw [ltI (by omega) (by omega)]; exact ha)]
        have hgo := ih n (k + 1) p la mn (nI 0) mby (by omega) (by omega) (by omega) hp hk (by rw [em2]; exact hac)
        rw [em2] at hgo
        have hxk : itr5 (p_X4_nextDifferences_L168 r (nI s) (nI en) rb (some 1) (nI e) swd kz) n (nI (k + 1)) la (nI p) (nI 0) (nI 0) = kz la (nI p) (nI 0) (nI 0) := by
          cases n with
          | zero => omega
          | succ n =>
            show p_X4_nextDifferences_L168 r (nI s) (nI en) rb (some 1) (nI e) swd kz _ (nI (k + 1)) la (nI p) (nI 0) (nI 0) = _
            rw [p_X4_nextDifferences_L168, mulI, addI, if_neg (show ¬ nI (s + (k + 1) * 32) < nI en by rw [ltI (by omega) (by omega)]; omega), ite_self]
        rw [hxk] at hgo
        have e250'' : itr8 (p_X6_readDifferences_L250 (nI ints) (nI s) (nI en) L (nI k) mf (nI e) mw (fun v4_53 mn_54 ma_55 mb_56 mba_57 mbl_58 mby_59 => itr8 (p_X6_readDifferences_L222 (nI ints) (nI s) (nI en) L mf (nI e) mw kx) n v4_53 (nI k + nI 1) mn_54 ma_55 mb_56 mba_57 mbl_58 mby_59)) fu (mn (en - 1)) (nI (s + 32 * k)) mn (nI p) (nI 0) (nI 0) (nI 0) mby = itr8 (p_X6_readDifferences_L222 (nI ints) (nI s) (nI en) L mf (nI e) mw kx) n (mn (en - 1)) (nI (k + 1)) mn (nI p) (nI 0) (nI 0) (nI 0) mby := by
          rw [addI]
          exact e250
        first
          | rw [e250]; exact hgo
          | rw [e250'']; exact hgo
/-- the class adds the steps up afterwards -/
theorem X_sum_L {r s en ints : Nat} {L : Int64} {kz : (Nat → Nat → Int64) → Option DX} (hi : ints ≤ 1) (h1s : 1 ≤ s) (hen : en ≤ 200) : ∀ (m n t : Nat) (la : Nat → Nat → Int64), en - t = m → s ≤ t → t ≤ en → m < n → ∃ la', itr2 (p_X4_nextDifferences_L221 r (nI ints) (nI en) L kz) n (nI t) la = kz la' ∧ FrA r la la' ∧ ∀ mn, AC ints L r t en la mn → Lk r t la mn → Lk r en la' mn := by
  intro m
  induction m with
  | zero =>
    intro n t la h1 h2 h3 h4
    have : t = en := by omega
    subst this
    cases n with
    | zero => omega
    | succ n =>
      refine ⟨la, ?_, FrA.rf, fun mn _ hk => hk⟩
      show p_X4_nextDifferences_L221 r (nI ints) (nI t) L kz _ (nI t) la = _
      rw [p_X4_nextDifferences_L221, if_neg (by rw [ltI (by omega) (by omega)]; omega)]
  | succ m ih =>
    intro n t la h1 h2 h3 h4
    cases n with
    | zero => omega
    | succ n =>
      obtain ⟨la', e1, f1, g1⟩ := ih n (t + 1) (up la r (up (la r) t (acc ints L (la r (t - 1)) (la r t)))) (by omega) (by omega) (by omega) (by omega)
      refine ⟨la', ?_, FrA.tr (fun q hq => up_n hq) f1, fun mn hac hk => g1 mn ?_ ?_⟩
      · show p_X4_nextDifferences_L221 r (nI ints) (nI en) L kz _ (nI t) la = _
        rw [p_X4_nextDifferences_L221, if_pos (by rw [ltI (by omega) (by omega)]; omega), if_pos (by rw [ltI (by omega) (by omega)]; omega), subI (show 1 ≤ t by omega), inbI (by omega), gdD (by omega), inbI (by omega), gdD (by omega), gdD (by omega), gdD (by omega), ixI (by omega), ixI (by omega), addI, ← e1]
        unfold acc
        by_cases i0 : ints = 0
        · rw [if_pos (show nI ints = nI 0 by rw [i0]), if_pos i0]
        · rw [if_neg (show ¬ nI ints = nI 0 by rw [eqI (by omega) (by omega)]; exact i0), if_neg i0]
      · intro j hj1 hj2
        rw [up_s, up_n (show j ≠ t by omega)]
        exact hac j (by omega) hj2
      · intro j hj
        rw [up_s]
        by_cases e : j = t
        · subst e
          rw [up_s, hac j (Nat.le_refl _) (by omega), hk (j - 1) (by omega)]
        · rw [up_n e]
          exact hk j (by omega)
