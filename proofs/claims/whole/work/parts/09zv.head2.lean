/-! a page's head while no fault is there: its last half -/
theorem splitL (x : Int64) : x < lN 0 ∨ ∃ j : Nat, j < 2 ^ 63 ∧ x = lN j := by
  by_cases h : x < lN 0
  · exact Or.inl h
  · exact Or.inr (pk_lOf h)
theorem isB_n {n : Nat} (h : n ≤ 1) : isB (nI n) = true := by
  have : n = 0 ∨ n = 1 := by omega
  rcases this with rfl | rfl <;> decide
def gcn (K rd : Nat) (a : Int64) : Nat := if a = lN 5 then (if K < 2 then 1 else 0) else if a = lN 6 then (if K = 2 then 1 else 0) else if a = lN 3 then (if K = 3 then 1 else 0) else if a = lN 8 then rd else if a = lN 0 then 1 else 0
theorem gcn_le {K rd : Nat} {a : Int64} (hr : rd ≤ 1) : gcn K rd a ≤ 1 := by
  unfold gcn
  repeat' split
  all_goals omega
theorem gcn_cd {K rd : Nat} {a : Int64} (h : gcn K rd a ≠ 0) : ∃ cd, cd ≤ 8 ∧ a = lN cd := by
  unfold gcn at h
  by_cases a5 : a = lN 5
  · exact ⟨5, by omega, a5⟩
  · by_cases a6 : a = lN 6
    · exact ⟨6, by omega, a6⟩
    · by_cases a3 : a = lN 3
      · exact ⟨3, by omega, a3⟩
      · by_cases a8 : a = lN 8
        · exact ⟨8, by omega, a8⟩
        · by_cases a0 : a = lN 0
          · exact ⟨0, by omega, a0⟩
          · rw [if_neg a5, if_neg a6, if_neg a3, if_neg a8, if_neg a0] at h
            exact absurd rfl h
theorem X_code {K rd : Nat} {a : Int64} {xk : Nat → Int32} (hK : xk 4 = nI K) (hK3 : K ≤ 3) (hr : rd ≤ 1) : p_X1_isDataCode a xk (nI rd) = some (nI (gcn K rd a)) := by
  have h4 : K = 0 ∨ K = 1 ∨ K = 2 ∨ K = 3 := by omega
  unfold p_X1_isDataCode gcn
  rw [hK, gdT (isB_n hr)]
  by_cases a5 : a = lN 5
  · rw [if_pos a5, if_pos a5]
    rcases h4 with rfl | rfl | rfl | rfl <;> rfl
  · rw [if_neg a5, if_neg a5]
    by_cases a6 : a = lN 6
    · rw [if_pos a6, if_pos a6]
      rcases h4 with rfl | rfl | rfl | rfl <;> rfl
    · rw [if_neg a6, if_neg a6]
      by_cases a3 : a = lN 3
      · rw [if_pos a3, if_pos a3]
        rcases h4 with rfl | rfl | rfl | rfl <;> rfl
      · rw [if_neg a3, if_neg a3]
        by_cases a8 : a = lN 8
        · rw [if_pos a8, if_pos a8]
        · rw [if_neg a8, if_neg a8]
          by_cases a0 : a = lN 0
          · rw [if_pos a0, if_pos a0]
          · rw [if_neg a0, if_neg a0]
theorem M_code {K rd : Nat} {a : Int64} {ma mz mdi mco : Int32} (hK3 : K ≤ 3) (hr : rd ≤ 1) (hdi : mdi < nI 0 ↔ rd = 0) : (if a = lN 0 then p_X6_readInner_J115 (nI K) a (nI 1) ma (nI 0) (nI 0) mdi mz (nI 0) mco else p_X6_readInner_J115 (nI K) a (nI 0) ma (nI 0) (nI 0) mdi mz (nI 0) mco) = if gcn K rd a = 0 then some (nI 0, ma, nI 8, mz, mz, mco, l2i a) else some (nI 1, ma, nI 0, nI 0, mz, mco, l2i a) := by
  have good : p_X6_readInner_J183 a ma (nI 0) (nI 0) mz mco = some (nI 1, ma, nI 0, nI 0, mz, mco, l2i a) := rfl
  have bad : p_X6_readInner_J187 a ma (nI 0) (nI 0) mz mco = some (nI 0, ma, nI 8, mz, mz, mco, l2i a) := rfl
  have n1 : ¬ nI 1 = nI 0 := by decide
  have ne : ∀ i j : Nat, i < 100 → j < 100 → i ≠ j → a = lN i → ¬ a = lN j := fun i j hi hj hij h1 h2 => by
    rw [h1, eqL (by omega) (by omega)] at h2
    exact hij h2
  unfold gcn
  by_cases a0 : a = lN 0
  · rw [if_pos a0, p_X6_readInner_J115, if_pos rfl, if_neg n1, good, if_neg (ne 0 5 (by omega) (by omega) (by omega) a0), if_neg (ne 0 6 (by omega) (by omega) (by omega) a0), if_neg (ne 0 3 (by omega) (by omega) (by omega) a0), if_neg (ne 0 8 (by omega) (by omega) (by omega) a0), if_pos a0, if_neg (by decide)]
  · rw [if_neg a0, p_X6_readInner_J115, if_pos rfl, if_pos rfl]
    by_cases a5 : a = lN 5
    · rw [if_pos a5, if_pos a5, p_X6_readInner_J142, if_neg (ne 5 6 (by omega) (by omega) (by omega) a5), p_X6_readInner_J155, if_neg (ne 5 3 (by omega) (by omega) (by omega) a5), p_X6_readInner_J168, if_neg (ne 5 8 (by omega) (by omega) (by omega) a5), good, bad]
      by_cases k : K < 2
      · rw [if_pos (show nI K < nI 2 by rw [ltI (by omega) (by omega)]; exact k), if_pos k, if_neg (by decide)]
      · rw [if_neg (show ¬ nI K < nI 2 by rw [ltI (by omega) (by omega)]; exact k), if_neg k, if_pos rfl]
    · rw [if_neg a5, if_neg a5, p_X6_readInner_J142]
      by_cases a6 : a = lN 6
      · rw [if_pos a6, if_pos a6, p_X6_readInner_J155, if_neg (ne 6 3 (by omega) (by omega) (by omega) a6), p_X6_readInner_J168, if_neg (ne 6 8 (by omega) (by omega) (by omega) a6), good, bad]
        by_cases k : K = 2
        · rw [if_pos (show nI K = nI 2 by rw [k]), if_pos k, if_neg (by decide)]
        · rw [if_neg (show ¬ nI K = nI 2 by rw [eqI (by omega) (by omega)]; exact k), if_neg k, if_pos rfl]
      · rw [if_neg a6, if_neg a6, p_X6_readInner_J155]
        by_cases a3 : a = lN 3
        · rw [if_pos a3, if_pos a3, p_X6_readInner_J168, if_neg (ne 3 8 (by omega) (by omega) (by omega) a3), good, bad]
          by_cases k : K = 3
          · rw [if_pos (show nI K = nI 3 by rw [k]), if_pos k, if_neg (by decide)]
          · rw [if_neg (show ¬ nI K = nI 3 by rw [eqI (by omega) (by omega)]; exact k), if_neg k, if_pos rfl]
        · rw [if_neg a3, if_neg a3, p_X6_readInner_J168]
          by_cases a8 : a = lN 8
          · rw [if_pos a8, if_pos a8, good, bad]
            by_cases k : rd = 0
            · rw [if_pos (hdi.mpr k), if_pos k]
            · rw [if_neg (fun h => k (hdi.mp h)), if_neg k]
          · rw [if_neg a8, if_neg a8, bad, if_neg a0, if_pos rfl]
theorem b246 {v4 : Int32} {v5 v9 : Int64} {xk : Nat → Int32} {rb : Nat → Nat → Int32} {srow : Option Nat} {ssp sen stp rdr rpd rpv rpc rzp : Int32} : p_X1_readHead_J246 v4 v5 v9 (nI 0) xk rb srow ssp sen (nI 0) stp rdr rpd rpv rpc rzp = p_X1_readHead_J246 v4 v5 v9 (nI 1) xk rb srow ssp sen (nI 8) rzp rdr rpd rpv rpc rzp := by
  unfold p_X1_readHead_J246
  rw [demF, d_demand (show nI 8 ≠ nI 0 by decide)]
theorem b291 {v4 : Int32} {v5 v9 v12 : Int64} {rb : Nat → Nat → Int32} {srow : Option Nat} {ssp sen stp rpd rpv rpc rzp : Int32} : p_X1_readHead_J291 v4 v5 v9 v12 (nI 0) rb srow ssp sen (nI 0) stp rpd rpv rpc rzp = p_X1_readHead_J291 v4 v5 v9 v12 (nI 1) rb srow ssp sen (nI 8) rzp rpd rpv rpc rzp := by
  unfold p_X1_readHead_J291
  rw [demF, d_demand (show nI 8 ≠ nI 0 by decide)]
abbrev IM : Type := Int32 × Int32 × Int32 × Int32 × Int32 × Int32 × Int32
/-- the code of a page -/
theorem L_codes {K N S p rd dat : Nat} {v5 : Int64} {xk : Nat → Int32} {rb : Nat → Nat → Int32} {mf : Nat → Int32} {mdi mso mz mcd rpd rpv rpc rzp : Int32} (hs : Src rb mf S) (hp : p ≤ S) (hK : xk 4 = nI K) (hK3 : K ≤ 3) (hr : rd ≤ 1) (hdi : mdi < nI 0 ↔ rd = 0) (hso : (dat = 1 ∧ mso = nI 0) ∨ (dat = 0 ∧ mso = nI 2)) :
    (∃ p' cd z zm, p < p' ∧ p' ≤ S ∧ (dat = 1 → gcn K rd (lN cd) = 1) ∧ (dat = 0 → cd = 0) ∧ cd ≤ 8 ∧ p_X1_readHead_J246 (nI dat) v5 (lN N) (nI 1) xk rb (some 1) (nI p) (nI S) (nI 0) (nI 0) (nI rd) rpd rpv rpc rzp = p_X1_readHead_J291 (nI dat) v5 (lN N) (lN cd) (nI 1) rb (some 1) (nI p') (nI S) (nI 0) (nI 0) rpd rpv rpc z ∧ p_X6_readInner_J73 (nI K) (lN N) mf (nI p) (nI S) (nI 0) (nI 0) mdi mz mso mcd = some (nI 1, nI p', nI 0, nI 0, zm, nI N, nI cd)) ∨
    (∃ d q sm zm co cd, d ≠ nI 0 ∧ HD (nI S) d q rpd rpv rpc (p_X1_readHead_J246 (nI dat) v5 (lN N) (nI 1) xk rb (some 1) (nI p) (nI S) (nI 0) (nI 0) (nI rd) rpd rpv rpc rzp) ∧ p_X6_readInner_J73 (nI K) (lN N) mf (nI p) (nI S) (nI 0) (nI 0) mdi mz mso mcd = some (nI 0, sm, d, q, zm, co, cd)) := by
  have n1 : ¬ nI 1 = nI 0 := by decide
  have hrB := isB_n hr
  have fail : p_X6_fails (nI 8) (nI (p + 1)) (nI 0) (nI 0) = some (nI 0, nI 8, nI (p + 1)) := rfl
  rw [p_X1_readHead_J246, p_X6_readInner_J73, demT, bdS2, l2iL]
  rcases L_zf (rzp := rzp) (mz := mz) hs hp with ⟨a, p1, q1, q2, e1, e2, e3⟩ | ⟨a, sx, z, sm, d, q, hd, e1, e2⟩ | ⟨a, sx, z, am, sm, zm, d, q, hd, e1, e2, e3⟩
  · rw [e1, e2, bdS5, bdS4, if_neg n1, e3, bdS5, if_pos (show nI 0 = nI 0 from rfl)]
    have bad : HD (nI S) (nI 8) (nI (p + 1)) rpd rpv rpc (p_X1_readHead_J291 (nI dat) v5 (lN N) a (nI 0) rb (some 1) (nI p1) (nI S) (nI 0) (nI 0) rpd rpv rpc (nI (p + 1))) := by
      rw [b291]
      exact dh_291 (by decide)
    rcases hso with ⟨rfl, rfl⟩ | ⟨rfl, rfl⟩
    · rw [if_neg n1, X_code hK hK3 hr, bdS1, M_code hK3 hr hdi]
      by_cases hg : gcn K rd a = 0
      · right
        rw [if_pos hg, hg]
        exact ⟨_, _, _, _, _, _, by decide, bad, rfl⟩
      · left
        obtain ⟨cd, hcd, rfl⟩ := gcn_cd hg
        have hg1 : gcn K rd (lN cd) = 1 := by have := gcn_le (K := K) (a := lN cd) hr; omega
        rw [if_neg hg, hg1, l2iL]
        exact ⟨p1, cd, nI (p + 1), nI (p + 1), by omega, q2, fun _ => hg1, fun h => by omega, hcd, rfl, rfl⟩
    · rw [if_pos (show nI 0 = nI 0 from rfl)]
      by_cases ha : a = lN 0
      · left
        subst ha
        rw [if_pos rfl, if_pos rfl, p_X6_readInner_J115, if_neg (show ¬ nI 2 = nI 0 by decide), p_X6_readInner_J190, if_neg n1, l2iL]
        exact ⟨p1, 0, nI (p + 1), nI (p + 1), by omega, q2, fun h => by omega, fun _ => rfl, by omega, rfl, rfl⟩
      · right
        rw [if_neg ha, if_neg ha, p_X6_readInner_J115, if_neg (show ¬ nI 2 = nI 0 by decide), p_X6_readInner_J190, if_pos rfl, fail, bdS3, if_pos rfl]
        exact ⟨_, _, _, _, _, _, by decide, bad, rfl⟩
  · right
    obtain ⟨b, eb⟩ := isData_any a (xk := xk) hrB
    rw [e1, e2, bdS5, bdS4, if_pos (show nI 0 = nI 0 from rfl), eb, bdS1]
    refine ⟨_, _, _, _, _, _, hd, ?_, rfl⟩
    split
    · split
      · exact dh_291 hd
      · exact dh_291 hd
    · exact dh_291 hd
  · right
    obtain ⟨b, eb⟩ := isData_any a (xk := xk) hrB
    rw [e1, e2, bdS5, bdS4, if_neg n1, e3, bdS5, if_neg hd, eb, bdS1]
    refine ⟨_, _, _, _, _, _, hd, ?_, rfl⟩
    split
    · split
      · exact dh_291 hd
      · exact dh_291 hd
    · exact dh_291 hd
def inX (v4 : Int32) (v5 : Int64) (xk xc : Nat → Int32) (rb : Nat → Nat → Int32) (ssp sen str stp rdr rpd rpv rpc rzp : Int32) : Option HX :=
  bd5 (p_X1_nextZigField rb (some 1) ssp sen str stp rzp) <| fun a_35 ssp_36 str_37 stp_38 rzp_39 =>
  if v4 = (nI 0) then
    p_X1_readHead_J219 v4 v5 a_35 (nI 200) xk rb (some 1) ssp_36 sen str_37 stp_38 rdr rpd rpv rpc rzp_39
  else
    p_X1_readHead_J219 v4 v5 a_35 ((nI 200) - (xc 4)) xk rb (some 1) ssp_36 sen str_37 stp_38 rdr rpd rpv rpc rzp_39
/-- how many values, and the code -/
theorem L_inner {K B S p rd dat : Nat} {v5 : Int64} {xk xc : Nat → Int32} {rb : Nat → Nat → Int32} {mf mm : Nat → Int32} {mdi mso mz mco mcd rpd rpv rpc rzp : Int32} (hs : Src rb mf S) (hp : p ≤ S) (hK : xk 4 = nI K) (hK3 : K ≤ 3) (hB : xc 4 = nI B) (hm : mm 4 = nI B) (hB2 : B ≤ 200) (hr : rd ≤ 1) (hdi : mdi < nI 0 ↔ rd = 0) (hso : (dat = 1 ∧ mso = nI 0) ∨ (dat = 0 ∧ mso = nI 2)) :
    (∃ p' N cd z zm, p < p' ∧ p' ≤ S ∧ N ≤ 200 ∧ (dat = 1 → N + B ≤ 200 ∧ gcn K rd (lN cd) = 1) ∧ (dat = 0 → cd = 0) ∧ cd ≤ 8 ∧ inX (nI dat) v5 xk xc rb (nI p) (nI S) (nI 0) (nI 0) (nI rd) rpd rpv rpc rzp = p_X1_readHead_J291 (nI dat) v5 (lN N) (lN cd) (nI 1) rb (some 1) (nI p') (nI S) (nI 0) (nI 0) rpd rpv rpc z ∧ p_X6_readInner (nI K) mm mf (nI p) (nI S) (nI 0) (nI 0) mdi mz mso mco mcd = some (nI 1, nI p', nI 0, nI 0, zm, nI N, nI cd)) ∨
    (∃ d q sm zm co cd, d ≠ nI 0 ∧ HD (nI S) d q rpd rpv rpc (inX (nI dat) v5 xk xc rb (nI p) (nI S) (nI 0) (nI 0) (nI rd) rpd rpv rpc rzp) ∧ p_X6_readInner (nI K) mm mf (nI p) (nI S) (nI 0) (nI 0) mdi mz mso mco mcd = some (nI 0, sm, d, q, zm, co, cd)) := by
  have n1 : ¬ nI 1 = nI 0 := by decide
  have hrB := isB_n hr
  have fail : p_X6_fails (nI 8) (nI (p + 1)) (nI 0) (nI 0) = some (nI 0, nI 8, nI (p + 1)) := rfl
  unfold inX p_X6_readInner
  rcases L_zf (rzp := rzp) (mz := mz) hs hp with ⟨a, p1, q1, q2, e1, e2, e3⟩ | ⟨a, sx, z, sm, d, q, hd, e1, e2⟩ | ⟨a, sx, z, am, sm, zm, d, q, hd, e1, e2, e3⟩
  · rw [e1, e2, bdS5, bdS4, if_neg n1, e3, bdS5, if_pos (show nI 0 = nI 0 from rfl), fail, bdS3, gdT (show isB (nI 0) = true by decide), hB, show ix (nI 4) = 4 from rfl, hm, subI (by omega)]
    have bad : HD (nI S) (nI 8) (nI (p + 1)) rpd rpv rpc (p_X1_readHead_J246 (nI dat) v5 a (nI 0) xk rb (some 1) (nI p1) (nI S) (nI 0) (nI 0) (nI rd) rpd rpv rpc (nI (p + 1))) := by
      rw [b246]
      exact dh_246 hrB (by decide)
    have bad219 : ∀ s0 : Nat, s0 < 2 ^ 31 → (a < lN 0 ∨ lN s0 < a) → HD (nI S) (nI 8) (nI (p + 1)) rpd rpv rpc (p_X1_readHead_J219 (nI dat) v5 a (nI s0) xk rb (some 1) (nI p1) (nI S) (nI 0) (nI 0) (nI rd) rpd rpv rpc (nI (p + 1))) := by
      intro s0 hs0 h
      rw [p_X1_readHead_J219, p_X1_readHead_J245, i2lI hs0]
      rcases h with h | h
      · rw [if_pos h]; exact bad
      · rw [if_pos h, ite_self]; exact bad
    have good219 : ∀ s0 N : Nat, s0 < 2 ^ 31 → N ≤ s0 → a = lN N → p_X1_readHead_J219 (nI dat) v5 a (nI s0) xk rb (some 1) (nI p1) (nI S) (nI 0) (nI 0) (nI rd) rpd rpv rpc (nI (p + 1)) = p_X1_readHead_J246 (nI dat) v5 (lN N) (nI 1) xk rb (some 1) (nI p1) (nI S) (nI 0) (nI 0) (nI rd) rpd rpv rpc (nI (p + 1)) := by
      intro s0 N hs0 h1 h2
      rw [p_X1_readHead_J219, i2lI hs0, h2, if_neg (show ¬ lN N < lN 0 by rw [ltL (by omega) (by omega)]; omega), if_neg (show ¬ lN s0 < lN N by rw [ltL (by omega) (by omega)]; omega)]
    rcases splitL a with hneg | ⟨N, hN, hNe⟩
    · right
      rw [if_pos hneg]
      refine ⟨_, _, _, _, _, _, by decide, ?_, rfl⟩
      split
      · exact bad219 200 (by omega) (Or.inl hneg)
      · exact bad219 _ (by omega) (Or.inl hneg)
    · have hn0 : ¬ a < lN 0 := by rw [hNe, ltL (by omega) (by omega)]; omega
      rw [if_neg hn0]
      by_cases h200 : 200 < N
      · right
        have hl : lN 200 < a := by rw [hNe, ltL (by omega) (by omega)]; exact h200
        rw [if_pos hl]
        refine ⟨_, _, _, _, _, _, by decide, ?_, rfl⟩
        split
        · exact bad219 200 (by omega) (Or.inr hl)
        · exact bad219 _ (by omega) (Or.inr (by rw [hNe, ltL (by omega) (by omega)]; omega))
      · have hl : ¬ lN 200 < a := by rw [hNe, ltL (by omega) (by omega)]; exact h200
        rw [if_neg hl, i2lI (by omega)]
        rcases hso with ⟨rfl, rfl⟩ | ⟨rfl, rfl⟩
        · rw [if_neg n1, if_pos (show nI 0 = nI 0 from rfl), gdT (by decide)]
          by_cases hb : 200 < N + B
          · right
            have hl2 : lN 200 < a + lN B := by rw [hNe, addL, ltL (by omega) (by omega)]; exact hb
            rw [if_pos hl2]
            refine ⟨_, _, _, _, _, _, by decide, ?_, rfl⟩
            exact bad219 _ (by omega) (Or.inr (by rw [hNe, ltL (by omega) (by omega)]; omega))
          · have hl2 : ¬ lN 200 < a + lN B := by rw [hNe, addL, ltL (by omega) (by omega)]; exact hb
            rw [if_neg hl2, good219 _ N (by omega) (by omega) hNe, hNe]
            rcases L_codes (v5 := v5) (N := N) (rpd := rpd) (rpv := rpv) (rpc := rpc) (rzp := nI (p + 1)) (mz := nI (p + 1)) (mcd := mcd) (mso := nI 0) (dat := 1) hs q2 hK hK3 hr hdi (Or.inl ⟨rfl, rfl⟩) with ⟨p', cd, z, zm, r1, r2, r3, r4, r5, r6, r7⟩ | ⟨d, q, sm, zm, co, cd, hd, r6, r7⟩
            · exact Or.inl ⟨p', N, cd, z, zm, by omega, r2, by omega, fun h => ⟨by omega, r3 h⟩, r4, r5, r6, r7⟩
            · exact Or.inr ⟨d, q, sm, zm, co, cd, hd, r6, r7⟩
        · rw [if_pos (show nI 0 = nI 0 from rfl), if_neg (show ¬ nI 2 = nI 0 by decide), good219 _ N (by omega) (by omega) hNe, hNe]
          rcases L_codes (v5 := v5) (N := N) (rpd := rpd) (rpv := rpv) (rpc := rpc) (rzp := nI (p + 1)) (mz := nI (p + 1)) (mcd := mcd) (mso := nI 2) (dat := 0) hs q2 hK hK3 hr hdi (Or.inr ⟨rfl, rfl⟩) with ⟨p', cd, z, zm, r1, r2, r3, r4, r5, r6, r7⟩ | ⟨d, q, sm, zm, co, cd, hd, r6, r7⟩
          · exact Or.inl ⟨p', N, cd, z, zm, by omega, r2, by omega, fun h => by omega, r4, r5, r6, r7⟩
          · exact Or.inr ⟨d, q, sm, zm, co, cd, hd, r6, r7⟩
  · right
    rw [e1, e2, bdS5, bdS4, if_pos (show nI 0 = nI 0 from rfl)]
    refine ⟨_, _, _, _, _, _, hd, ?_, rfl⟩
    split
    · exact dh_219 hrB hd
    · exact dh_219 hrB hd
  · right
    rw [e1, e2, bdS5, bdS4, if_neg n1, e3, bdS5, if_neg hd]
    refine ⟨_, _, _, _, _, _, hd, ?_, rfl⟩
    split
    · exact dh_219 hrB hd
    · exact dh_219 hrB hd
