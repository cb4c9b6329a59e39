/-! differences, read -/
abbrev DX : Type := (Nat → Nat → Int64) × Int32 × Int32 × Int32 × (Nat → Int32)
abbrev DM : Type := Int32 × (Nat → Int64) × Int32 × Int32 × Int32 × Int32 × Int32 × (Nat → Int32)
def WD (k : Nat) (swd mw : Nat → Int32) : Prop := ∀ j, j < k → ∃ w, w ≤ 64 ∧ swd j = nI w ∧ mw j = nI w
theorem WD.snoc {k w : Nat} {swd mw : Nat → Int32} (h : WD k swd mw) (hw : w ≤ 64) : WD (k + 1) (up swd k (nI w)) (up mw k (nI w)) := by
  intro j hj
  by_cases e : j = k
  · subst e
    exact ⟨w, hw, up_s, up_s⟩
  · obtain ⟨v, h1, h2, h3⟩ := h j (by omega)
    exact ⟨v, h1, by rw [up_n e]; exact h2, by rw [up_n e]; exact h3⟩
/-- the reference has a fault: it answers 0 and the fault stays -/
def DeadM (d q : Int32) (m : Option DM) : Prop := ∃ mn' sm cm bm mw', m = some (nI 0, mn', sm, d, q, cm, bm, mw')
theorem L_widths_L {s en ints : Nat} {rb : Nat → Nat → Int32} {mf : Nat → Int32} {e : Nat} {mn : Nat → Int64} {mbl mby : Int32} {kx : Int32 → Int32 → Int32 → (Nat → Int32) → Option DM} (hs : Src rb mf e) (hi : ints ≤ 1) (hse : s < en) (hen : en ≤ 200) (hkx : ∀ sm d q mw', d ≠ nI 0 → DeadM d q (kx sm d q mw')) : ∀ (m n k p : Nat) (swd mw : Nat → Int32), 4 - k = m → k ≤ 4 → m + 1 < n → p ≤ e → WD k swd mw →
    (∃ p' swd' mw', p ≤ p' ∧ p' ≤ e ∧ WD 4 swd' mw' ∧ itr5 (p_X4_nextWidths_L2 (nI (en - s)) (nI (if ints = 0 then 64 else 32)) rb (some 1) (nI e)) n (nI k) (nI p) (nI 0) (nI 0) swd = some (nI p', nI 0, nI 0, swd') ∧ itr5 (p_X6_readDifferences_L117 (nI ints) (nI s) (nI en) mf mn (nI e) mbl mby kx) n (nI k) (nI p) (nI 0) (nI 0) mw = kx (nI p') (nI 0) (nI 0) mw') ∨
    (∃ sx d q swd', d ≠ nI 0 ∧ itr5 (p_X4_nextWidths_L2 (nI (en - s)) (nI (if ints = 0 then 64 else 32)) rb (some 1) (nI e)) n (nI k) (nI p) (nI 0) (nI 0) swd = some (sx, d, q, swd') ∧ DeadM d q (itr5 (p_X6_readDifferences_L117 (nI ints) (nI s) (nI en) mf mn (nI e) mbl mby kx) n (nI k) (nI p) (nI 0) (nI 0) mw)) := by
  have he := hs.1
  intro m
  induction m with
  | zero =>
    intro n k p swd mw h1 h2 h3 hp hk
    have : k = 4 := by omega
    subst this
    cases n with
    | zero => omega
    | succ n =>
      left
      refine ⟨p, swd, mw, by omega, hp, hk, ?_, ?_⟩
      · show p_X4_nextWidths_L2 _ _ rb (some 1) (nI e) _ (nI 4) (nI p) (nI 0) (nI 0) swd = _
        rw [p_X4_nextWidths_L2, if_neg (by decide)]
      · show p_X6_readDifferences_L117 (nI ints) (nI s) (nI en) mf mn (nI e) mbl mby kx _ (nI 4) (nI p) (nI 0) (nI 0) mw = _
        rw [p_X6_readDifferences_L117, if_neg (by decide)]
  | succ m ih =>
    intro n k p swd mw h1 h2 h3 hp hk
    cases n with
    | zero => omega
    | succ n =>
      have hX : itr5 (p_X4_nextWidths_L2 (nI (en - s)) (nI (if ints = 0 then 64 else 32)) rb (some 1) (nI e)) (n + 1) (nI k) (nI p) (nI 0) (nI 0) swd = p_X4_nextWidths_L2 (nI (en - s)) (nI (if ints = 0 then 64 else 32)) rb (some 1) (nI e) (fun a b c d f => itr5 (p_X4_nextWidths_L2 (nI (en - s)) (nI (if ints = 0 then 64 else 32)) rb (some 1) (nI e)) n a b c d f) (nI k) (nI p) (nI 0) (nI 0) swd := rfl
      have hM : itr5 (p_X6_readDifferences_L117 (nI ints) (nI s) (nI en) mf mn (nI e) mbl mby kx) (n + 1) (nI k) (nI p) (nI 0) (nI 0) mw = p_X6_readDifferences_L117 (nI ints) (nI s) (nI en) mf mn (nI e) mbl mby kx (fun a b c d f => itr5 (p_X6_readDifferences_L117 (nI ints) (nI s) (nI en) mf mn (nI e) mbl mby kx) n a b c d f) (nI k) (nI p) (nI 0) (nI 0) mw := rfl
      rw [hX, hM, p_X4_nextWidths_L2, p_X6_readDifferences_L117, if_pos (show nI k < nI 4 by rw [ltI (by omega) (by omega)]; omega), if_pos (show nI k < nI 4 by rw [ltI (by omega) (by omega)]; omega), if_pos (show nI 0 = nI 0 from rfl)]
      -- the dead rest of the class
      have drest : ∀ (sx d q : Int32) (sw : Nat → Int32), d ≠ nI 0 → ∃ swd', itr5 (p_X4_nextWidths_L2 (nI (en - s)) (nI (if ints = 0 then 64 else 32)) rb (some 1) (nI e)) n (nI (k + 1)) sx d q sw = some (sx, d, q, swd') := fun sx d q sw hd => d_widths_L hd (4 - (k + 1)) n (k + 1) sw rfl (by omega) (by omega)
      rcases L_next hs hp with ⟨b, hb, hlt, e1, e2⟩ | ⟨rfl, e1, e2⟩
      · rw [e1, e2, bdS4, bdS4, mulI, mulI, addI, inbI (by omega), gdD (by omega), ixI (by omega)]
        -- the bound of this part's width
        have fin : ∀ (B : Nat), B ≤ 64 → ((∃ p' swd' mw', p ≤ p' ∧ p' ≤ e ∧ WD 4 swd' mw' ∧ p_X4_nextWidths_J35 (nI k) (nI p) (nI b) (nI b) (nI B) (nI (p + 1)) (nI 0) (nI 0) swd (fun a b c d f => itr5 (p_X4_nextWidths_L2 (nI (en - s)) (nI (if ints = 0 then 64 else 32)) rb (some 1) (nI e)) n a b c d f) = some (nI p', nI 0, nI 0, swd') ∧ p_X6_readDifferences_J201 (nI k) (nI p) (nI b) (nI B) mn (nI (p + 1)) (nI 0) (nI 0) mbl mby (up mw k (nI b)) (fun a b c d f => itr5 (p_X6_readDifferences_L117 (nI ints) (nI s) (nI en) mf mn (nI e) mbl mby kx) n a b c d f) = kx (nI p') (nI 0) (nI 0) mw') ∨ (∃ sx d q swd', d ≠ nI 0 ∧ p_X4_nextWidths_J35 (nI k) (nI p) (nI b) (nI b) (nI B) (nI (p + 1)) (nI 0) (nI 0) swd (fun a b c d f => itr5 (p_X4_nextWidths_L2 (nI (en - s)) (nI (if ints = 0 then 64 else 32)) rb (some 1) (nI e)) n a b c d f) = some (sx, d, q, swd') ∧ DeadM d q (p_X6_readDifferences_J201 (nI k) (nI p) (nI b) (nI B) mn (nI (p + 1)) (nI 0) (nI 0) mbl mby (up mw k (nI b)) (fun a b c d f => itr5 (p_X6_readDifferences_L117 (nI ints) (nI s) (nI en) mf mn (nI e) mbl mby kx) n a b c d f)))) := by
          intro B hB
          rw [p_X4_nextWidths_J35, p_X6_readDifferences_J201]
          by_cases hbB : B < b
          · rw [if_pos (show nI B < nI b by rw [ltI (by omega) (by omega)]; exact hbB), if_pos (show nI B < nI b by rw [ltI (by omega) (by omega)]; exact hbB), p_X4_nextWidths_J43, demF, bdS2, if_neg (show ¬ nI 6 = nI 0 by decide), inbI (by omega), gdD (by omega), ixI (by omega), addI]
            obtain ⟨swd', g⟩ := drest (nI (p + 1)) (nI 6) (nI p) (up swd k (nI 0)) (by decide)
            exact Or.inr ⟨nI (p + 1), nI 6, nI p, swd', by decide, g, ⟨_, _, _, _, _, rfl⟩⟩
          · rw [if_neg (show ¬ nI B < nI b by rw [ltI (by omega) (by omega)]; exact hbB), if_neg (show ¬ nI B < nI b by rw [ltI (by omega) (by omega)]; exact hbB), p_X4_nextWidths_J43, demT, bdS2, if_pos (show nI 0 = nI 0 from rfl), inbI (by omega), gdD (by omega), ixI (by omega), addI]
            rcases ih n (k + 1) (p + 1) (up swd k (nI b)) (up mw k (nI b)) (by omega) (by omega) (by omega) (by omega) (hk.snoc (by omega)) with ⟨p', swd', mw', q1, q2, q3, q4, q5⟩ | hdd
            · exact Or.inl ⟨p', swd', mw', by omega, q2, q3, q4, q5⟩
            · exact Or.inr hdd
        rw [p_X6_readDifferences_J165, p_X6_readDifferences_J165, if_pos (show nI 0 = nI 0 from rfl), inbI (by omega), gdD (by omega), gdD (by omega), ixI (by omega), up_s, if_neg (show ¬ nI 1 = nI 0 by decide), if_pos (show nI 0 = nI 0 from rfl)]
        by_cases hin : s + 32 * k < en
        · rw [if_pos (show nI (k * 32) < nI (en - s) by rw [ltI (by omega) (by omega)]; omega), if_pos (show nI (s + 32 * k) < nI en by rw [ltI (by omega) (by omega)]; exact hin)]
          by_cases i0 : ints = 0
          · subst i0
            rw [if_pos (show nI 0 = nI 0 from rfl)]
            exact fin 64 (by omega)
          · rw [if_neg (show ¬ nI ints = nI 0 by rw [eqI (by omega) (by omega)]; exact i0), if_neg i0]
            rw [if_neg i0] at fin
            exact fin 32 (by omega)
        · rw [if_neg (show ¬ nI (k * 32) < nI (en - s) by rw [ltI (by omega) (by omega)]; omega), if_neg (show ¬ nI (s + 32 * k) < nI en by rw [ltI (by omega) (by omega)]; exact hin)]
          exact fin 0 (by omega)
      · right
        rw [e1, e2, bdS4, bdS4, mulI, mulI, addI, inbI (by omega), gdD (by omega), ixI (by omega)]
        have e43 : ∀ (a b c : Int32) (sw : Nat → Int32) (kz : Int32 → Int32 → Int32 → Int32 → (Nat → Int32) → Option (Int32 × Int32 × Int32 × (Nat → Int32))), p_X4_nextWidths_J43 (nI k) a b c (nI p) (nI 1) (nI p) sw kz = kz (nI (k + 1)) (nI p) (nI 1) (nI p) (up sw k (nI 0)) := by
          intro a b c sw kz
          rw [p_X4_nextWidths_J43, d_demand (by decide), bdS2, if_neg (show ¬ nI 1 = nI 0 by decide), inbI (by omega), gdD (by omega), ixI (by omega), addI]
        obtain ⟨swd', g⟩ := drest (nI p) (nI 1) (nI p) (up swd k (nI 0)) (by decide)
        refine ⟨nI p, nI 1, nI p, swd', by decide, ?_, ?_⟩
        · rw [p_X4_nextWidths_J35, p_X4_nextWidths_J35, e43, e43, ite_self, ite_self, ite_self]
          exact g
        · have e165 : ∀ (s0 : Int32) (kz : Int32 → Int32 → Int32 → Int32 → (Nat → Int32) → Option DM), p_X6_readDifferences_J165 (nI ints) (nI k) (nI p) s0 mn (nI p) (nI 1) (nI p) mbl mby (up mw k (nI 0)) kz = kz (nI k + nI 1) (nI p) (nI 1) (nI p) (up mw k (nI 0)) := by
            intro s0 kz
            rw [p_X6_readDifferences_J165, if_neg (show ¬ nI 1 = nI 0 by decide)]
          rw [e165, e165, ite_self]
          cases n with
          | zero => omega
          | succ n =>
            show DeadM (nI 1) (nI p) (p_X6_readDifferences_L117 (nI ints) (nI s) (nI en) mf mn (nI p) mbl mby kx _ (nI k + nI 1) (nI p) (nI 1) (nI p) (up mw k (nI 0)))
            rw [p_X6_readDifferences_L117, if_neg (show ¬ nI 1 = nI 0 by decide), ite_self]
            exact hkx _ _ _ _ (by decide)
