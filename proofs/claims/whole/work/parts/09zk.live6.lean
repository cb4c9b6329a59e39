def acc (ints : Nat) (L prev x : Int64) : Int64 := if ints = 0 then prev + L + x else i2l (l2i (prev + L + x))
def AC (ints : Nat) (L : Int64) (r s i : Nat) (la : Nat → Nat → Int64) (mn : Nat → Int64) : Prop := ∀ t, s ≤ t → t < i → mn t = acc ints L (mn (t - 1)) (la r t)
theorem AC.put {ints r s i lim : Nat} {L v : Int64} {la : Nat → Nat → Int64} {mn : Nat → Int64} (h : AC ints L r s i la mn) (hs : 1 ≤ s) (hsi : s ≤ i) (hi : i < lim) : AC ints L r s (i + 1) (stA la r i lim v) (up mn i (acc ints L (mn (i - 1)) v)) := by
  intro t h1 h2
  unfold stA
  rw [if_pos hi, up_s]
  by_cases e : t = i
  · subst e
    rw [up_s, up_s, up_n (show t - 1 ≠ t by omega)]
  · rw [up_n e, up_n e, up_n (show t - 1 ≠ i by omega)]
    exact h t h1 (by omega)
theorem Lk.putn {r s i lim : Nat} {v x : Int64} {la : Nat → Nat → Int64} {mn : Nat → Int64} (h : Lk r s la mn) (hsi : s ≤ i) : Lk r s (stA la r i lim v) (up mn i x) := by
  intro t ht
  unfold stA
  rw [up_n (show t ≠ i by omega)]
  split
  · rw [up_s, up_n (show t ≠ i by omega)]
    exact h t ht
  · exact h t ht
def isI (x : Int64) : Prop := i2l (l2i x) = x
theorem isI_i (x : Int64) : isI (i2l (l2i x)) := by
  unfold isI i2l l2i
  rw [Int32.toInt32_toInt64]
/-- so far alike, and of ints all are ints -/
def LkI (ints r s : Nat) (la : Nat → Nat → Int64) (mn : Nat → Int64) : Prop := Lk r s la mn ∧ (ints ≠ 0 → ∀ t, t < s → isI (mn t))
theorem LkI.putn {ints r s i lim : Nat} {v x : Int64} {la : Nat → Nat → Int64} {mn : Nat → Int64} (h : LkI ints r s la mn) (hsi : s ≤ i) : LkI ints r s (stA la r i lim v) (up mn i x) :=
  ⟨h.1.putn hsi, fun h0 t ht => by rw [up_n (show t ≠ i by omega)]; exact h.2 h0 t ht⟩
abbrev K346 : Type := Int64 → (Nat → Int64) → Int32 → Int32 → Int32 → Int32 → Int32 → Option DM
theorem L_part {r s en k w ints : Nat} {rb : Nat → Nat → Int32} {mf : Nat → Int32} {e : Nat} {L : Int64} {mw : Nat → Int32} {kx : K346} (hs : Src rb mf e) (hi : ints ≤ 1) (h1s : 1 ≤ s) (hen : en ≤ 200) (hk4 : k < 4) (hw : w ≤ 64) (hmw : mw k = nI w) (ha : s + 32 * k < en) : ∀ (m n j p c : Nat) (v6 mby : Int32) (la : Nat → Nat → Int64) (mn : Nat → Int64), 32 - j = m → j ≤ 32 → m + 1 < n → p ≤ e → PB c v6 mby → LkI ints r s la mn → AC ints L r s (min (s + 32 * k + j) en) la mn →
    (∃ la' mn' p' c' mby', p ≤ p' ∧ p' ≤ e ∧ FrA r la la' ∧ LkI ints r s la' mn' ∧ AC ints L r s (min (s + 32 * k + 32) en) la' mn' ∧ itr7 (p_X4_nextPacked_L9 r (nI (s + 32 * k)) (nI en) (nI 32) (nI w) rb (some 1) (nI e)) n v6 (nI c) (nI (s + 32 * k + j)) la (nI p) (nI 0) (nI 0) = some (la', nI p', nI 0, nI 0) ∧ itr8 (p_X6_readDifferences_L250 (nI ints) (nI s) (nI en) L (nI k) mf (nI e) mw kx) n (mn (min (s + 32 * k + j) en - 1)) (nI (s + 32 * k + j)) mn (nI p) (nI 0) (nI 0) (nI c) mby = kx (mn' (min (s + 32 * k + 32) en - 1)) mn' (nI p') (nI 0) (nI 0) (nI c') mby') ∨
    (∃ la' sx v mn' sm d q cm bm, d ≠ nI 0 ∧ FrA r la la' ∧ itr7 (p_X4_nextPacked_L9 r (nI (s + 32 * k)) (nI en) (nI 32) (nI w) rb (some 1) (nI e)) n v6 (nI c) (nI (s + 32 * k + j)) la (nI p) (nI 0) (nI 0) = some (la', sx, d, q) ∧ itr8 (p_X6_readDifferences_L250 (nI ints) (nI s) (nI en) L (nI k) mf (nI e) mw kx) n (mn (min (s + 32 * k + j) en - 1)) (nI (s + 32 * k + j)) mn (nI p) (nI 0) (nI 0) (nI c) mby = kx v mn' sm d q cm bm) := by
  intro m
  induction m with
  | zero =>
    intro n j p c v6 mby la mn h1 h2 h3 hp hc hk hac
    have : j = 32 := by omega
    subst this
    cases n with
    | zero => omega
    | succ n =>
      left
      refine ⟨la, mn, p, c, mby, by omega, hp, FrA.rf, hk, hac, X_L9_end (by omega), ?_⟩
      show p_X6_readDifferences_L250 (nI ints) (nI s) (nI en) L (nI k) mf (nI e) mw kx _ _ (nI (s + 32 * k + 32)) mn (nI p) (nI 0) (nI 0) (nI c) mby = _
      rw [p_X6_readDifferences_L250, mulI, addI, addI, if_neg (by rw [ltI (by omega) (by omega)]; omega)]
  | succ m ih =>
    intro n j p c v6 mby la mn h1 h2 h3 hp hc hk hac
    cases n with
    | zero => omega
    | succ n =>
      cases n with
      | zero => omega
      | succ n =>
        have hM : ∀ pv, itr8 (p_X6_readDifferences_L250 (nI ints) (nI s) (nI en) L (nI k) mf (nI e) mw kx) (n + 1 + 1) pv (nI (s + 32 * k + j)) mn (nI p) (nI 0) (nI 0) (nI c) mby = p_X6_readDifferences_L250 (nI ints) (nI s) (nI en) L (nI k) mf (nI e) mw kx (fun a b c d f g h i => itr8 (p_X6_readDifferences_L250 (nI ints) (nI s) (nI en) L (nI k) mf (nI e) mw kx) (n + 1) a b c d f g h i) pv (nI (s + 32 * k + j)) mn (nI p) (nI 0) (nI 0) (nI c) mby := fun pv => rfl
        -- the reference goes to kx at once when it has a fault
        have mdead : ∀ (pv : Int64) (i : Int32) (mn1 : Nat → Int64) (sm d q cm bm : Int32), d ≠ nI 0 → itr8 (p_X6_readDifferences_L250 (nI ints) (nI s) (nI en) L (nI k) mf (nI e) mw kx) (n + 1) pv i mn1 sm d q cm bm = kx pv mn1 sm d q cm bm := by
          intro pv i mn1 sm d q cm bm hd
          show p_X6_readDifferences_L250 (nI ints) (nI s) (nI en) L (nI k) mf (nI e) mw kx _ pv i mn1 sm d q cm bm = _
          rw [p_X6_readDifferences_L250, if_neg hd, ite_self, ite_self]
        rw [hM, p_X6_readDifferences_L250, mulI, addI, addI, addI, if_pos (show nI (s + 32 * k + j) < nI (s + 32 * k + 32) by rw [ltI (by omega) (by omega)]; omega), if_pos (show nI (s + 32 * k) < nI en by rw [ltI (by omega) (by omega)]; exact ha), if_pos (show nI 0 = nI 0 from rfl), inbI (by omega), gdD (by omega), ixI (by omega), hmw]
        rcases X_L9 (r := r) (a := s + 32 * k) (lim := en) (cnt := 32) (w := w) (j := j) (n := n) (la := la) hs hw hen (by omega) (by omega) hp hc with ⟨v', c', p', v6', mby', q1, q2, q3, q4, q5⟩ | ⟨la', sx, vm, sm, d, q, cm, bm, hd, q3, q4, q5⟩
        · rw [q4, bdS6]
          by_cases hlt : s + 32 * k + j < en
          · have em : min (s + 32 * k + j) en = s + 32 * k + j := by omega
            have em2 : min (s + 32 * k + (j + 1)) en = s + 32 * k + j + 1 := by omega
            rw [em] at hac ⊢
            have hac2 := hac.put (v := v') h1s (by omega) hlt
            have hk2 := hk.putn (i := s + 32 * k + j) (lim := en) (v := v') (x := acc ints L (mn (s + 32 * k + j - 1)) v') (by omega)
            have hgo := ih (n + 1) (j + 1) p' c' v6' mby' (stA la r (s + 32 * k + j) en v') (up mn (s + 32 * k + j) (acc ints L (mn (s + 32 * k + j - 1)) v')) (by omega) (by omega) (by omega) q2 q3 hk2 (by rw [em2]; exact hac2)
            rw [em2, Nat.add_sub_cancel, up_s] at hgo
            have hval : (if nI ints = nI 0 then gd (inb (nI (s + 32 * k + j)) 500) (itr8 (p_X6_readDifferences_L250 (nI ints) (nI s) (nI en) L (nI k) mf (nI e) mw kx) (n + 1) (mn (s + 32 * k + j - 1) + L + v') (nI (s + 32 * k + j + 1)) (up mn (ix (nI (s + 32 * k + j))) (mn (s + 32 * k + j - 1) + L + v')) (nI p') (nI 0) (nI 0) (nI c') mby') else gd (inb (nI (s + 32 * k + j)) 500) (itr8 (p_X6_readDifferences_L250 (nI ints) (nI s) (nI en) L (nI k) mf (nI e) mw kx) (n + 1) (i2l (l2i (mn (s + 32 * k + j - 1) + L + v'))) (nI (s + 32 * k + j + 1)) (up mn (ix (nI (s + 32 * k + j))) (i2l (l2i (mn (s + 32 * k + j - 1) + L + v')))) (nI p') (nI 0) (nI 0) (nI c') mby')) = itr8 (p_X6_readDifferences_L250 (nI ints) (nI s) (nI en) L (nI k) mf (nI e) mw kx) (n + 1) (acc ints L (mn (s + 32 * k + j - 1)) v') (nI (s + 32 * k + (j + 1))) (up mn (s + 32 * k + j) (acc ints L (mn (s + 32 * k + j - 1)) v')) (nI p') (nI 0) (nI 0) (nI c') mby' := by
              rw [inbI (by omega), gdD (by omega), gdD (by omega), ixI (by omega)]
              unfold acc
              by_cases i0 : ints = 0
              · rw [if_pos (show nI ints = nI 0 by rw [i0]), if_pos i0]
                rfl
              · rw [if_neg (show ¬ nI ints = nI 0 by rw [eqI (by omega) (by omega)]; exact i0), if_neg i0]
                rfl
            rw [if_pos (show nI (s + 32 * k + j) < nI en by rw [ltI (by omega) (by omega)]; exact hlt)]
            rw [hval]
            rcases hgo with ⟨la2, mn2, p2, c2, by2, r1, r2, r3, r4, r5, r6, r7⟩ | ⟨la2, sx, v, mn2, sm, d, q, cm, bm, hd, r3, r6, r7⟩
            · exact Or.inl ⟨la2, mn2, p2, c2, by2, by omega, r2, stA_fr.tr r3, r4, r5, q5.trans r6, r7⟩
            · exact Or.inr ⟨la2, sx, v, mn2, sm, d, q, cm, bm, hd, stA_fr.tr r3, q5.trans r6, r7⟩
          · have em : min (s + 32 * k + j) en = en := by omega
            have em2 : min (s + 32 * k + (j + 1)) en = en := by omega
            have e3 : stA la r (s + 32 * k + j) en v' = la := by unfold stA; rw [if_neg hlt]
            rw [e3] at q5
            rw [em] at hac ⊢
            have hgo := ih (n + 1) (j + 1) p' c' v6' mby' la mn (by omega) (by omega) (by omega) q2 q3 hk (by rw [em2]; exact hac)
            rw [em2] at hgo
            rw [if_neg (show ¬ nI (s + 32 * k + j) < nI en by rw [ltI (by omega) (by omega)]; exact hlt)]
            rcases hgo with ⟨la2, mn2, p2, c2, by2, r1, r2, r3, r4, r5, r6, r7⟩ | ⟨la2, sx, v, mn2, sm, d, q, cm, bm, hd, r3, r6, r7⟩
            · exact Or.inl ⟨la2, mn2, p2, c2, by2, by omega, r2, r3, r4, r5, q5.trans r6, r7⟩
            · exact Or.inr ⟨la2, sx, v, mn2, sm, d, q, cm, bm, hd, r3, q5.trans r6, r7⟩
        · right
          rw [q4, bdS6, mdead _ _ _ _ _ _ _ _ hd, mdead _ _ _ _ _ _ _ _ hd, mdead _ _ _ _ _ _ _ _ hd, inbI (by omega)]
          by_cases hlt : s + 32 * k + j < en
          · rw [if_pos (show nI (s + 32 * k + j) < nI en by rw [ltI (by omega) (by omega)]; exact hlt), gdD (by omega), gdD (by omega)]
            split
            · exact ⟨la', sx, _, _, sm, d, q, cm, bm, hd, q3, q5, rfl⟩
            · exact ⟨la', sx, _, _, sm, d, q, cm, bm, hd, q3, q5, rfl⟩
          · rw [if_neg (show ¬ nI (s + 32 * k + j) < nI en by rw [ltI (by omega) (by omega)]; exact hlt)]
            exact ⟨la', sx, _, _, sm, d, q, cm, bm, hd, q3, q5, rfl⟩
