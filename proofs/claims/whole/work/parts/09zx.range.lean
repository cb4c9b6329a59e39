/-! how great what the reference reads can be -/
def hiB (w : Nat) (v : Int64) : Prop := ∀ i, w ≤ i → i < 64 → lb v i = false
theorem hiB_nat {w : Nat} {v : Int64} (h : hiB w v) : ∃ x, x < 2 ^ w ∧ v = lN x := by
  refine ⟨v.toBitVec.toNat, ?_, ?_⟩
  · apply Nat.lt_pow_two_of_testBit
    intro i hi
    by_cases h64 : i < 64
    · exact h i hi h64
    · exact lb_big v (by omega)
  · apply Int64.toBitVec_inj.mp
    show _ = BitVec.ofNat 64 _
    rw [BitVec.ofNat_toNat, BitVec.setWidth_eq]
theorem hiB_mono {w k : Nat} {v : Int64} (h : hiB k v) (hk : k ≤ w) : hiB w v := fun i h1 h2 => h i (by omega) h2
theorem and1_nat (x : Int32) : ∃ b, b ≤ 1 ∧ x &&& nI 1 = nI b := by
  have key : ∀ y : BitVec 32, y &&& 1#32 = 0#32 ∨ y &&& 1#32 = 1#32 := by
    intro y
    have h : (y &&& 1#32).toNat = y.toNat % 2 := by
      rw [BitVec.toNat_and]
      exact Nat.and_one_is_mod _
    have h2 : y.toNat % 2 = 0 ∨ y.toNat % 2 = 1 := by omega
    rcases h2 with h2 | h2
    · left
      apply BitVec.eq_of_toNat_eq
      rw [h, h2]
      rfl
    · right
      apply BitVec.eq_of_toNat_eq
      rw [h, h2]
      rfl
  rcases key x.toBitVec with h | h
  · exact ⟨0, by omega, Int32.toBitVec_inj.mp h⟩
  · exact ⟨1, by omega, Int32.toBitVec_inj.mp h⟩
theorem hiB_put {j : Nat} {x : Int64} {y : Int32} (h : hiB j x) (hj : j < 64) : hiB (j + 1) (x ||| lshl (i2l (y &&& nI 1)) (nI j)) := by
  obtain ⟨b, hb, e⟩ := and1_nat y
  intro i h1 h2
  rw [e, i2lI (by omega), lb_or, h i (by omega) h2, lb_shl _ hj h2, lb_lN _ (by omega)]
  have : b = 0 ∨ b = 1 := by omega
  rcases this with rfl | rfl
  · simp
  · have e2 : Nat.testBit 1 (i - j) = false := by
      apply Nat.testBit_lt_two_pow
      exact Nat.one_lt_two_pow (by omega)
    rw [e2]
    simp
theorem R_packed {w : Nat} {mf : Nat → Int32} {ma me mb mba mbl mby : Int32} {v : Int64} {a b c d f : Int32} (hw : w ≤ 64) (h : p_X6_readPacked (nI w) mf ma me mb mba mbl mby = some (v, a, b, c, d, f)) : hiB w v := by
  have key := itr7_ind (F := p_X6_readPacked_L5 (nI w) mf me) (r := (v, a, b, c, d, f)) (P := fun v2 v4 _ _ _ _ _ => ∀ k, v4 = nI k → k ≤ w → hiB k v2 → hiB w v) (by
    intro k ih x1 x2 x3 x4 x5 x6 x7 hF j hj hjw hh
    subst hj
    rw [p_X6_readPacked_L5] at hF
    have stop : some (x1, x3, x4, x5, x6, x7) = some (v, a, b, c, d, f) → hiB w v := by
      intro h
      rw [← (inj6 h).1]
      exact hiB_mono hh hjw
    by_cases hjk : j < w
    · rw [if_pos (by rw [ltI (by omega) (by omega)]; exact hjk)] at hF
      have cont : ∀ m b2 c2 l y, p_X6_readPacked_J39 x1 (nI j) m b2 c2 l y k = some (v, a, b, c, d, f) → hiB w v := by
        intro m b2 c2 l y h
        rw [p_X6_readPacked_J39, addI] at h
        exact ih _ _ _ _ _ _ _ h (j + 1) rfl (by omega) (hiB_put hh (by omega))
      by_cases hm : x4 = nI 0
      · rw [if_pos hm] at hF
        by_cases hl : x6 = nI 0
        · rw [if_pos hl] at hF
          obtain ⟨y1, y2, y3, y4, _, h2⟩ := bd4_some hF
          exact cont _ _ _ _ _ h2
        · rw [if_neg hl] at hF
          exact cont _ _ _ _ _ hF
      · rw [if_neg hm] at hF
        exact stop hF
    · rw [if_neg (by rw [ltI (by omega) (by omega)]; exact hjk)] at hF
      exact stop hF) fu (lN 0) (nI 0) ma mb mba mbl mby h
  exact key 0 rfl (by omega) (fun i _ _ => lb_zero i)
theorem hiB_ushr {w : Nat} {v : Int64} (hw : w < 64) (h : lushr v (nI w) = lN 0) : hiB w v := fun i h1 _ => bl_hi (by have := (ushr_zero hw).mp h; omega)
theorem R_runs {n w : Nat} {mf : Nat → Int32} {mn mn' : Nat → Int64} {ma me mb mba mbl mby a b c d f : Int32} (hn : n ≤ 200) (hw : w < 64) (h : p_X6_readRuns (nI n) (nI w) mf mn ma me mb mba mbl mby = some (nI 1, mn', a, b, c, d, f)) : ∀ t, t < n → hiB w (mn' t) := by
  have key := itr7_ind (F := p_X6_readRuns_L2 (nI n) (nI w) mf me) (r := (nI 1, mn', a, b, c, d, f)) (P := fun v3 mn _ _ _ _ _ => ∀ i, v3 = nI i → i ≤ 500 → (∀ t, t < i → hiB w (mn t)) → ∀ t, t < n → hiB w (mn' t)) (by
    intro k ih x1 x2 x3 x4 x5 x6 x7 hF i hi hi5 hh
    subst hi
    have nofail : ∀ (f1 f2 g1 g2 q1 q2 q3 : Int32) (m : Nat → Int64), (bd3 (p_X6_fails f1 f2 g1 g2) fun a_6 mb_7 mba_8 => gd (isB a_6) (some (a_6, m, q1, mb_7, mba_8, q2, q3))) = some (nI 1, mn', a, b, c, d, f) → False := by
      intro f1 f2 g1 g2 q1 q2 q3 m h
      rw [p_X6_fails, bdS3, gdT (by decide)] at h
      exact absurd (inj7 h).1 (by decide)
    have j82 : ∀ (v4 : Int32) (v7 : Int64) (v9 : Int32) (s0 : Int64) (s1 ma2 mb2 mba2 l y : Int32), p_X6_readRuns_J82 (nI n) (nI w) (nI i) v4 v7 v9 s0 s1 mf x2 ma2 me mb2 mba2 l y k = some (nI 1, mn', a, b, c, d, f) → ∀ t, t < n → hiB w (mn' t) := by
      intro v4 v7 v9 s0 s1 ma2 mb2 mba2 l y h
      rw [p_X6_readRuns_J82] at h
      by_cases c1 : i2l s1 < s0
      · rw [if_pos c1] at h
        exact (nofail _ _ _ _ _ _ _ _ h).elim
      · rw [if_neg c1] at h
        by_cases c2 : v9 = nI 0
        · rw [if_pos c2] at h
          obtain ⟨y1, y2, y3, y4, _, h⟩ := bd4_some h
          by_cases c3 : y3 = nI 0
          · rw [if_pos c3] at h
            by_cases c4 : lushr y1 (nI w) = lN 0
            · rw [if_pos c4] at h
              have hv := hiB_ushr hw c4
              have k3 := itr3_ind (F := p_X6_readRuns_L208 v7 y1 (fun v3_22 mn_23 => k v3_22 mn_23 y2 y3 y4 l y)) (r := (nI 1, mn', a, b, c, d, f)) (P := fun v3 _ m => ∀ i, v3 = nI i → i ≤ 500 → (∀ t, t < i → hiB w (m t)) → ∀ t, t < n → hiB w (mn' t)) (by
                intro k3 ih3 z1 z2 z3 hF i hi hi5 hh
                subst hi
                rw [p_X6_readRuns_L208] at hF
                by_cases c5 : z2 < l2i v7
                · rw [if_pos c5] at hF
                  obtain ⟨g1, hF⟩ := gd_some hF
                  rw [inbI (by omega)] at g1
                  have g2 : i < 500 := of_decide_eq_true g1
                  rw [addI, ixI (by omega)] at hF
                  refine ih3 _ _ _ hF (i + 1) rfl (by omega) (fun t ht => ?_)
                  by_cases e : t = i
                  · rw [e, up_s]; exact hv
                  · rw [up_n e]; exact hh t (by omega)
                · rw [if_neg c5] at hF
                  exact ih _ _ _ _ _ _ _ hF i rfl hi5 hh) fu (nI i) (nI 0) x2 h
              exact k3 i rfl hi5 hh
            · rw [if_neg c4] at h
              exact (nofail _ _ _ _ _ _ _ _ h).elim
          · rw [if_neg c3] at h
            exact absurd (inj7 h).1 (by decide)
        · rw [if_neg c2] at h
          have k8 := itr8_ind (F := p_X6_readRuns_L108 (nI n) (nI w) v7 mf me (fun v3_37 mn_38 ma_39 mb_40 mba_41 mbl_42 mby_43 => k v3_37 mn_38 ma_39 mb_40 mba_41 mbl_42 mby_43)) (r := (nI 1, mn', a, b, c, d, f)) (P := fun v3 _ m _ _ _ _ _ => ∀ i, v3 = nI i → i ≤ 500 → (∀ t, t < i → hiB w (m t)) → ∀ t, t < n → hiB w (mn' t)) (by
            intro k8 ih8 z1 z2 z3 z4 z5 z6 z7 z8 hF i hi hi5 hh
            subst hi
            rw [p_X6_readRuns_L108] at hF
            by_cases c5 : z2 < nI 8 * l2i v7
            · rw [if_pos c5] at hF
              obtain ⟨y1, y2, y3, y4, y5, y6, e1, hF⟩ := bd6_some hF
              have hv := R_packed (by omega) e1
              by_cases c6 : y3 = nI 0
              · rw [if_pos c6] at hF
                by_cases c7 : nI i < nI n
                · rw [if_pos c7] at hF
                  obtain ⟨g1, hF⟩ := gd_some hF
                  rw [inbI (by omega)] at g1
                  have g2 : i < 500 := of_decide_eq_true g1
                  rw [addI, ixI (by omega)] at hF
                  refine ih8 _ _ _ _ _ _ _ _ hF (i + 1) rfl (by omega) (fun t ht => ?_)
                  by_cases e : t = i
                  · rw [e, up_s]; exact hv
                  · rw [up_n e]; exact hh t (by omega)
                · rw [if_neg c7] at hF
                  exact ih8 _ _ _ _ _ _ _ _ hF i rfl hi5 hh
              · rw [if_neg c6] at hF
                exact absurd (inj7 hF).1 (by decide)
            · rw [if_neg c5] at hF
              exact ih _ _ _ _ _ _ _ hF i rfl hi5 hh) fu (nI i) (nI 0) x2 ma2 mb2 mba2 (nI 0) y h
          exact k8 i rfl hi5 hh
    have j48 : ∀ (v4 : Int32) (v7 : Int64) (s0 ma2 mb2 mba2 l y : Int32), p_X6_readRuns_J48 (nI n) (nI w) (nI i) v4 v7 s0 mf x2 ma2 me mb2 mba2 l y k = some (nI 1, mn', a, b, c, d, f) → ∀ t, t < n → hiB w (mn' t) := by
      intro v4 v7 s0 ma2 mb2 mba2 l y h
      rw [p_X6_readRuns_J48] at h
      by_cases c1 : v7 = lN 0
      · rw [if_pos c1] at h
        exact (nofail _ _ _ _ _ _ _ _ h).elim
      · rw [if_neg c1] at h
        by_cases c2 : s0 = nI 0
        · rw [if_pos c2] at h
          exact j82 _ _ _ _ _ _ _ _ _ _ h
        · rw [if_neg c2] at h
          exact j82 _ _ _ _ _ _ _ _ _ _ h
    rw [p_X6_readRuns_L2] at hF
    by_cases c1 : nI i < nI n
    · rw [if_pos c1] at hF
      obtain ⟨y1, y2, y3, y4, _, hF⟩ := bd4_some hF
      by_cases c2 : y3 = nI 0
      · rw [if_pos c2] at hF
        by_cases c3 : y1 &&& lN 1 = lN 1
        · rw [if_pos c3] at hF
          exact j48 _ _ _ _ _ _ _ _ hF
        · rw [if_neg c3] at hF
          exact j48 _ _ _ _ _ _ _ _ hF
      · rw [if_neg c2] at hF
        exact absurd (inj7 hF).1 (by decide)
    · rw [if_neg c1] at hF
      rw [← (inj7 hF).2.1]
      intro t ht
      rw [ltI (by omega) (by omega)] at c1
      exact hh t (by omega)) fu (nI 0) mn ma mb mba mbl mby h
  exact key 0 rfl (by omega) (fun t ht => by omega)
