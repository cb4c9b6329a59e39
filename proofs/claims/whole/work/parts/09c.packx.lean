theorem X_pack_in {r w : Nat} {x : Int64} {L : List Int32} {s0 : PS} {kx : Int32 → Int32 → (Nat → Int32) → (Nat → Int32) → (Nat → Nat → Int32) → Option ((Nat → Int32) × (Nat → Int32) × (Nat → Nat → Int32))} (hw : w ≤ 64) (hs : s0.1 < 8) :
    ∀ (m n k : Nat) (rc rv : Nat → Int32) (rb : Nat → Nat → Int32), w - k = m → k ≤ w → m < n → XOut rc rv rb r (L ++ (pbits x k s0).2.2) → ∃ rc' rv' rb', itr6 (p_X3_pushPacked_L49 r (nI w) x kx) n (pbits x k s0).2.1 (nI (pbits x k s0).1) (nI k) rc rv rb = kx (pbits x w s0).2.1 (nI (pbits x w s0).1) rc' rv' rb' ∧ XOut rc' rv' rb' r (L ++ (pbits x w s0).2.2) ∧ FrR r rc rv rb rc' rv' rb' := by
  intro m
  induction m with
  | zero =>
    intro n k rc rv rb h1 h2 h3 h
    have : k = w := by omega
    subst this
    cases n with
    | zero => omega
    | succ n =>
      refine ⟨rc, rv, rb, ?_, h, FrR.rf⟩
      show p_X3_pushPacked_L49 r (nI k) x kx _ _ _ (nI k) rc rv rb = _
      rw [p_X3_pushPacked_L49, if_neg (by rw [ltI (by omega) (by omega)]; omega)]
  | succ m ih =>
    intro n k rc rv rb h1 h2 h3 h
    cases n with
    | zero => omega
    | succ n =>
      show ∃ rc' rv' rb', p_X3_pushPacked_L49 r (nI w) x kx _ _ _ (nI k) rc rv rb = _ ∧ _
      have hk : k < w := by omega
      rw [p_X3_pushPacked_L49, if_pos (by rw [ltI (by omega) (by omega)]; omega)]
      have hlt := pbits_lt x k s0 hs
      by_cases h8 : (pbits x k s0).1 + 1 = 8
      · have hp : pbits x (k + 1) s0 = (0, nI 0, (pbits x k s0).2.2 ++ [b8 ((pbits x k s0).2.1 ||| ishl (bitOf x k) (nI (pbits x k s0).1))]) := by
          rw [pbits, pst, if_pos h8]
        obtain ⟨rc1, rv1, rb1, e1, g1, f1⟩ := XOut_push ((pbits x k s0).2.1 ||| ishl (bitOf x k) (nI (pbits x k s0).1)) h
        have g2 : XOut rc1 rv1 rb1 r (L ++ (pbits x (k + 1) s0).2.2) := by rw [hp]; simpa using g1
        obtain ⟨rc2, rv2, rb2, e2, g3, f2⟩ := ih n (k + 1) rc1 rv1 rb1 (by omega) (by omega) (by omega) g2
        refine ⟨rc2, rv2, rb2, ?_, g3, f1.tr f2⟩
        rw [hp] at e2
        rw [if_pos (by rw [addI, h8]), addI]
        refine Eq.trans (congrArg (fun z => bd3 z _) e1) ?_
        exact e2
      · have hp : pbits x (k + 1) s0 = ((pbits x k s0).1 + 1, (pbits x k s0).2.1 ||| ishl (bitOf x k) (nI (pbits x k s0).1), (pbits x k s0).2.2) := by
          rw [pbits, pst, if_neg h8]
        have g2 : XOut rc rv rb r (L ++ (pbits x (k + 1) s0).2.2) := by rw [hp]; exact h
        obtain ⟨rc2, rv2, rb2, e2, g3, f2⟩ := ih n (k + 1) rc rv rb (by omega) (by omega) (by omega) g2
        refine ⟨rc2, rv2, rb2, ?_, g3, f2⟩
        rw [hp] at e2
        rw [if_neg (by rw [addI, eqI (by omega) (by omega)]; exact h8), addI, addI]
        exact e2
theorem X_pack_out {r q w i0 cnt lim : Nat} {la : Nat → Nat → Int64} {g : Nat → Int64} {L : List Int32} (hw : w ≤ 64) (hi : i0 + cnt ≤ 500) (hlim : lim ≤ 200) (hg : ∀ j, j < cnt → g j = if i0 + j < lim then la q (i0 + j) else lN 0) :
    ∀ (m n j : Nat) (rc rv : Nat → Int32) (rb : Nat → Nat → Int32), cnt - j = m → j ≤ cnt → m < n → XOut rc rv rb r (L ++ (pnums g w j (0, nI 0, [])).2.2) → ∃ rc' rv' rb', itr6 (p_X3_pushPacked_L9 r q (nI i0) (nI lim) (nI cnt) (nI w) la) n (pnums g w j (0, nI 0, [])).2.1 (nI (pnums g w j (0, nI 0, [])).1) (nI (i0 + j)) rc rv rb = some (rc', rv', rb') ∧ XOut rc' rv' rb' r (L ++ (pnums g w cnt (0, nI 0, [])).2.2) ∧ FrR r rc rv rb rc' rv' rb' := by
  intro m
  induction m with
  | zero =>
    intro n j rc rv rb h1 h2 h3 h
    have : j = cnt := by omega
    subst this
    cases n with
    | zero => omega
    | succ n =>
      refine ⟨rc, rv, rb, ?_, h, FrR.rf⟩
      show p_X3_pushPacked_L9 r q (nI i0) (nI lim) (nI j) (nI w) la _ _ _ (nI (i0 + j)) rc rv rb = _
      rw [p_X3_pushPacked_L9, if_neg (by rw [addI, ltI (by omega) (by omega)]; omega)]
  | succ m ih =>
    intro n j rc rv rb h1 h2 h3 h
    cases n with
    | zero => omega
    | succ n =>
      have hj : j < cnt := by omega
      obtain ⟨rc1, rv1, rb1, e1, g1, f1⟩ := X_pack_in (r := r) (w := w) (x := g j) (L := L) (s0 := pnums g w j (0, nI 0, [])) (kx := fun v6_5 v7_6 rc_7 rv_8 rb_9 => itr6 (p_X3_pushPacked_L9 r q (nI i0) (nI lim) (nI cnt) (nI w) la) n v6_5 v7_6 (nI (i0 + j) + nI 1) rc_7 rv_8 rb_9) hw
        (pnums_lt _ _ _ _ (by simp)) w fu 0 rc rv rb (by omega) (by omega) (by rw [fu_eq]; omega) h
      obtain ⟨rc2, rv2, rb2, e2, g2, f2⟩ := ih n (j + 1) rc1 rv1 rb1 (by omega) (by omega) (by omega) g1
      refine ⟨rc2, rv2, rb2, ?_, g2, f1.tr f2⟩
      show p_X3_pushPacked_L9 r q (nI i0) (nI lim) (nI cnt) (nI w) la _ _ _ (nI (i0 + j)) rc rv rb = _
      rw [p_X3_pushPacked_L9, if_pos (by rw [addI, ltI (by omega) (by omega)]; omega), if_neg (by rw [ltI (by omega) (by omega)]; omega)]
      have hgj := hg j hj
      have e3 : (itr6 (p_X3_pushPacked_L49 r (nI w) (g j) (fun v6_5 v7_6 rc_7 rv_8 rb_9 => itr6 (p_X3_pushPacked_L9 r q (nI i0) (nI lim) (nI cnt) (nI w) la) n v6_5 v7_6 (nI (i0 + j) + nI 1) rc_7 rv_8 rb_9)) fu (pnums g w j (0, nI 0, [])).2.1 (nI (pnums g w j (0, nI 0, [])).1) (nI 0) rc rv rb) = some (rc2, rv2, rb2) := by
        refine Eq.trans e1 ?_
        rw [addI]
        exact e2
      by_cases hil : i0 + j < lim
      · rw [if_pos hil] at hgj
        rw [if_pos (by rw [ltI (by omega) (by omega)]; omega), if_pos (by rw [ltI (by omega) (by omega)]; omega), inbI (by omega), gdD (by omega), ixI (by omega), ← hgj]
        exact e3
      · rw [if_neg hil] at hgj
        rw [if_neg (by rw [ltI (by omega) (by omega)]; omega), ← hgj]
        exact e3
theorem X_pack {r q w i0 cnt lim : Nat} {la : Nat → Nat → Int64} {g : Nat → Int64} {L : List Int32} {rc rv : Nat → Int32} {rb : Nat → Nat → Int32} (hw : w ≤ 64) (hi : i0 + cnt ≤ 500) (hlim : lim ≤ 200) (hg : ∀ j, j < cnt → g j = if i0 + j < lim then la q (i0 + j) else lN 0) (h : XOut rc rv rb r L) :
    ∃ rc' rv' rb', p_X3_pushPacked r q (nI i0) (nI lim) (nI cnt) (nI w) rc rv rb la = some (rc', rv', rb') ∧ XOut rc' rv' rb' r (L ++ packB g w cnt) ∧ FrR r rc rv rb rc' rv' rb' := by
  unfold p_X3_pushPacked
  exact X_pack_out (L := L) hw hi hlim hg cnt fu 0 rc rv rb (by omega) (by omega) (by rw [fu_eq]; omega) (by simpa [pnums] using h)
