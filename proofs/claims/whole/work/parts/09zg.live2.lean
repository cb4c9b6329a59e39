/-! packed numbers -/
theorem ishr_nI : ∀ b, b < 256 → ∀ k, k < 9 → ishr (nI b) (nI k) = nI (b >>> k) := by decide +kernel
theorem ishr_1 : ∀ b, b < 256 → ishr (nI b) (nI 1) = nI (b >>> 1) := fun b hb => ishr_nI b hb 1 (by omega)
def PB (c : Nat) (v6 mby : Int32) : Prop := c ≤ 8 ∧ (c ≠ 0 → ∃ b, b < 256 ∧ mby = nI b ∧ v6 = nI (b >>> (8 - c)))
theorem shr_lt {b k : Nat} (h : b < 256) : b >>> k < 256 := by
  rw [Nat.shiftRight_eq_div_pow]
  exact Nat.lt_of_le_of_lt (Nat.div_le_self _ _) h
abbrev NP : Type := (Nat → Nat → Int64) × Int32 × Int32 × Int32
theorem d_L31 {w : Nat} {rb : Nat → Nat → Int32} {srow : Option Nat} {ssp sen str stp : Int32} {kx : Int32 → Int32 → Int64 → Int32 → Int32 → Int32 → Option NP} (hd : str ≠ nI 0) (hw : w < 2 ^ 30) : ∀ (m n k : Nat) (v6 v7 : Int32) (v9 : Int64), w - k = m → k ≤ w → m < n → ∃ a b c, itr7 (p_X4_nextPacked_L31 (nI w) rb srow sen kx) n v6 v7 v9 (nI k) ssp str stp = kx a b c ssp str stp := by
  intro m
  induction m with
  | zero =>
    intro n k v6 v7 v9 h1 h2 h3
    cases n with
    | zero => omega
    | succ n =>
      refine ⟨v6, v7, v9, ?_⟩
      show p_X4_nextPacked_L31 (nI w) rb srow sen kx _ v6 v7 v9 (nI k) ssp str stp = _
      rw [p_X4_nextPacked_L31, if_neg (by rw [ltI (by omega) (by omega)]; omega)]
  | succ m ih =>
    intro n k v6 v7 v9 h1 h2 h3
    cases n with
    | zero => omega
    | succ n =>
      show ∃ a b c, p_X4_nextPacked_L31 (nI w) rb srow sen kx _ v6 v7 v9 (nI k) ssp str stp = _
      rw [p_X4_nextPacked_L31, if_pos (by rw [ltI (by omega) (by omega)]; omega), d_next hd, bdS4, p_X4_nextPacked_J53, p_X4_nextPacked_J53, addI]
      split
      · exact ih n (k + 1) _ _ _ (by omega) (by omega) (by omega)
      · exact ih n (k + 1) _ _ _ (by omega) (by omega) (by omega)
abbrev MP : Type := Int64 × Int32 × Int32 × Int32 × Int32 × Int32
theorem L_bits {w : Nat} {rb : Nat → Nat → Int32} {mf : Nat → Int32} {e : Nat} {kx : Int32 → Int32 → Int64 → Int32 → Int32 → Int32 → Option NP} (hs : Src rb mf e) (hw : w ≤ 64) : ∀ (m n k p c : Nat) (v6 mby : Int32) (v : Int64), w - k = m → k ≤ w → m + 1 < n → p ≤ e → PB c v6 mby →
    (∃ v' c' p' v6' mby', p ≤ p' ∧ p' ≤ e ∧ PB c' v6' mby' ∧ itr7 (p_X4_nextPacked_L31 (nI w) rb (some 1) (nI e) kx) n v6 (nI c) v (nI k) (nI p) (nI 0) (nI 0) = kx v6' (nI c') v' (nI p') (nI 0) (nI 0) ∧ itr7 (p_X6_readPacked_L5 (nI w) mf (nI e)) n v (nI k) (nI p) (nI 0) (nI 0) (nI c) mby = some (v', nI p', nI 0, nI 0, nI c', mby')) ∨
    (∃ a b x sx vm sm d q cm bm, d ≠ nI 0 ∧ itr7 (p_X4_nextPacked_L31 (nI w) rb (some 1) (nI e) kx) n v6 (nI c) v (nI k) (nI p) (nI 0) (nI 0) = kx a b x sx d q ∧ itr7 (p_X6_readPacked_L5 (nI w) mf (nI e)) n v (nI k) (nI p) (nI 0) (nI 0) (nI c) mby = some (vm, sm, d, q, cm, bm)) := by
  have he := hs.1
  intro m
  induction m with
  | zero =>
    intro n k p c v6 mby v h1 h2 h3 hp hc
    cases n with
    | zero => omega
    | succ n =>
      left
      refine ⟨v, c, p, v6, mby, by omega, hp, hc, ?_, ?_⟩
      · show p_X4_nextPacked_L31 (nI w) rb (some 1) (nI e) kx _ v6 (nI c) v (nI k) (nI p) (nI 0) (nI 0) = _
        rw [p_X4_nextPacked_L31, if_neg (by rw [ltI (by omega) (by omega)]; omega)]
      · show p_X6_readPacked_L5 (nI w) mf (nI e) _ v (nI k) (nI p) (nI 0) (nI 0) (nI c) mby = _
        rw [p_X6_readPacked_L5, if_neg (by rw [ltI (by omega) (by omega)]; omega)]
  | succ m ih =>
    intro n k p c v6 mby v h1 h2 h3 hp hc
    cases n with
    | zero => omega
    | succ n =>
      have hc8 := hc.1
      -- a bit out of a byte with c + 1 bits left
      have step : ∀ (b c1 p1 : Nat), b < 256 → c1 < 8 → p1 ≤ e → p ≤ p1 →
          (∃ v' c' p' v6' mby', p ≤ p' ∧ p' ≤ e ∧ PB c' v6' mby' ∧ p_X4_nextPacked_J53 (nI (b >>> (8 - (c1 + 1)))) (nI (c1 + 1)) v (nI k) (nI p1) (nI 0) (nI 0) (fun a b c d f g h => itr7 (p_X4_nextPacked_L31 (nI w) rb (some 1) (nI e) kx) n a b c d f g h) = kx v6' (nI c') v' (nI p') (nI 0) (nI 0) ∧ p_X6_readPacked_J39 v (nI k) (nI p1) (nI 0) (nI 0) (nI (c1 + 1)) (nI b) (fun a b c d f g h => itr7 (p_X6_readPacked_L5 (nI w) mf (nI e)) n a b c d f g h) = some (v', nI p', nI 0, nI 0, nI c', mby')) ∨
          (∃ a b2 x sx vm sm d q cm bm, d ≠ nI 0 ∧ p_X4_nextPacked_J53 (nI (b >>> (8 - (c1 + 1)))) (nI (c1 + 1)) v (nI k) (nI p1) (nI 0) (nI 0) (fun a b c d f g h => itr7 (p_X4_nextPacked_L31 (nI w) rb (some 1) (nI e) kx) n a b c d f g h) = kx a b2 x sx d q ∧ p_X6_readPacked_J39 v (nI k) (nI p1) (nI 0) (nI 0) (nI (c1 + 1)) (nI b) (fun a b c d f g h => itr7 (p_X6_readPacked_L5 (nI w) mf (nI e)) n a b c d f g h) = some (vm, sm, d, q, cm, bm)) := by
        intro b c1 p1 hb hc1 hp1 hpp
        rw [p_X4_nextPacked_J53, p_X6_readPacked_J39, addI, subI (show c1 + 1 ≤ 8 by omega), ishr_nI b hb (8 - (c1 + 1)) (by omega), subI (show 1 ≤ c1 + 1 by omega), Nat.add_sub_cancel, ishr_1 _ (shr_lt hb), dn_d]
        have e3 : dn (c1 + 1) = nI c1 := dn_s c1
        rw [e3]
        have hpb : PB c1 (nI ((b >>> (8 - (c1 + 1))) >>> 1)) (nI b) := ⟨by omega, fun _ => ⟨b, hb, rfl, by rw [← Nat.shiftRight_add]; congr 2; omega⟩⟩
        rcases ih n (k + 1) p1 c1 (nI ((b >>> (8 - (c1 + 1))) >>> 1)) (nI b) (v ||| lshl (i2l (nI (b >>> (8 - (c1 + 1))) &&& nI 1)) (nI k)) (by omega) (by omega) (by omega) hp1 hpb with ⟨v', c', p', v6', mby', q1, q2, q3, q4, q5⟩ | hdd
        · exact Or.inl ⟨v', c', p', v6', mby', by omega, q2, q3, q4, q5⟩
        · exact Or.inr hdd
      have hX : itr7 (p_X4_nextPacked_L31 (nI w) rb (some 1) (nI e) kx) (n + 1) v6 (nI c) v (nI k) (nI p) (nI 0) (nI 0) = p_X4_nextPacked_L31 (nI w) rb (some 1) (nI e) kx (fun a b c d f g h => itr7 (p_X4_nextPacked_L31 (nI w) rb (some 1) (nI e) kx) n a b c d f g h) v6 (nI c) v (nI k) (nI p) (nI 0) (nI 0) := rfl
      have hM : itr7 (p_X6_readPacked_L5 (nI w) mf (nI e)) (n + 1) v (nI k) (nI p) (nI 0) (nI 0) (nI c) mby = p_X6_readPacked_L5 (nI w) mf (nI e) (fun a b c d f g h => itr7 (p_X6_readPacked_L5 (nI w) mf (nI e)) n a b c d f g h) v (nI k) (nI p) (nI 0) (nI 0) (nI c) mby := rfl
      rw [hX, hM, p_X4_nextPacked_L31, p_X6_readPacked_L5, if_pos (show nI k < nI w by rw [ltI (by omega) (by omega)]; omega), if_pos (show nI k < nI w by rw [ltI (by omega) (by omega)]; omega), if_pos (show nI 0 = nI 0 from rfl)]
      by_cases c0 : c = 0
      · subst c0
        rw [if_pos (show nI 0 = nI 0 from rfl), if_pos (show nI 0 = nI 0 from rfl)]
        rcases L_next hs hp with ⟨b, hb, hlt, e1, e2⟩ | ⟨rfl, e1, e2⟩
        · rw [e1, e2, bdS4, bdS4]
          exact step b 7 (p + 1) hb (by omega) (by omega) (by omega)
        · rw [e1, e2, bdS4, bdS4]
          right
          rw [p_X4_nextPacked_J53, p_X6_readPacked_J39, addI]
          obtain ⟨a, b2, x, e5⟩ := d_L31 (rb := rb) (srow := some 1) (ssp := nI p) (sen := nI p) (str := nI 1) (stp := nI p) (kx := kx) (by decide) (show w < 2 ^ 30 by omega) (w - (k + 1)) n (k + 1) (ishr (nI 0) (nI 1)) (nI 8 + (-1 : Int32)) (v ||| lshl (i2l (nI 0 &&& nI 1)) (nI k)) rfl (by omega) (by omega)
          cases n with
          | zero => omega
          | succ n =>
            refine ⟨a, b2, x, nI p, v ||| lshl (i2l (ishr (nI 0) (nI 8 - nI 8) &&& nI 1)) (nI k), nI p, nI 1, nI p, nI 8 - nI 1, nI 0, by decide, e5, ?_⟩
            show p_X6_readPacked_L5 (nI w) mf (nI p) _ _ (nI (k + 1)) (nI p) (nI 1) (nI p) _ _ = _
            rw [p_X6_readPacked_L5, if_neg (show ¬ nI 1 = nI 0 by decide), ite_self]
      · obtain ⟨b, hb, rfl, rfl⟩ := hc.2 c0
        rw [if_neg (show ¬ nI c = nI 0 by rw [eqI (by omega) (by omega)]; exact c0), if_neg (show ¬ nI c = nI 0 by rw [eqI (by omega) (by omega)]; exact c0)]
        have hc1 : c = (c - 1) + 1 := by omega
        rw [hc1]
        exact step b (c - 1) p hb (by omega) hp (by omega)
