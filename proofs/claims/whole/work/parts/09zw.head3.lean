/-! a page's head while no fault is there: the whole -/
theorem L_291 {dat S p : Nat} {v5 v9 v12 : Int64} {rb : Nat → Nat → Int32} {mf : Nat → Int32} {rpd rpv rpc rzp : Int32} (hs : Src rb mf S) (hp : p ≤ S) :
    (p + 2 ≤ S ∧ p_X1_readHead_J291 (nI dat) v5 v9 v12 (nI 1) rb (some 1) (nI p) (nI S) (nI 0) (nI 0) rpd rpv rpc rzp = (if i2l (nI (S - (p + 2))) < v5 then p_X1_readHead_J339 (nI dat) v5 v9 v12 (nI 0) (nI (p + 2)) (nI S) (nI 0) (nI 0) rpd rpv rpc rzp else p_X1_readHead_J339 (nI dat) v5 v9 v12 (nI 1) (nI (p + 2)) (nI S) (nI 0) (nI 0) rpd rpv rpc rzp) ∧ p_X6_field (nI 0) mf (nI p) (nI S) (nI 0) (nI 0) = some (nI 1, nI (p + 1), nI 0, nI 0) ∧ p_X6_field (nI 0) mf (nI (p + 1)) (nI S) (nI 0) (nI 0) = some (nI 1, nI (p + 2), nI 0, nI 0)) ∨
    (∃ d q sm, d ≠ nI 0 ∧ HD (nI S) d q rpd rpv rpc (p_X1_readHead_J291 (nI dat) v5 v9 v12 (nI 1) rb (some 1) (nI p) (nI S) (nI 0) (nI 0) rpd rpv rpc rzp) ∧ (p_X6_field (nI 0) mf (nI p) (nI S) (nI 0) (nI 0) = some (nI 0, sm, d, q) ∨ (p_X6_field (nI 0) mf (nI p) (nI S) (nI 0) (nI 0) = some (nI 1, nI (p + 1), nI 0, nI 0) ∧ p_X6_field (nI 0) mf (nI (p + 1)) (nI S) (nI 0) (nI 0) = some (nI 0, sm, d, q)))) := by
  rw [p_X1_readHead_J291, demT, bdS2]
  unfold p_X4_left
  rcases L_expect (c := nI 0) hs hp with ⟨hlt, e1, e2⟩ | ⟨sx, sm, d, q, hd, e1, e2⟩
  · rcases L_expect (c := nI 0) hs (show p + 1 ≤ S by omega) with ⟨hlt2, e3, e4⟩ | ⟨sx, sm, d, q, hd, e3, e4⟩
    · left
      rw [e1, bdS3, e3, bdS3, bdS1, subI (by omega)]
      exact ⟨by omega, rfl, e2, e4⟩
    · right
      rw [e1, bdS3, e3, bdS3, bdS1]
      refine ⟨d, q, sm, hd, ?_, Or.inr ⟨e2, e4⟩⟩
      split
      · exact dh_339 hd
      · exact dh_339 hd
  · right
    rw [e1, bdS3, d_expect hd, bdS3, bdS1]
    refine ⟨d, q, sm, hd, ?_, Or.inl e2⟩
    split
    · exact dh_339 hd
    · exact dh_339 hd
abbrev HMt : Type := Int32 × Int32 × Int32 × Int32 × Int32 × Int32 × Int32 × Int32 × Int32 × Int32
/-- of a head: it stands; it stands but its body is not there whole; a fault -/
def HOut (K B S p rd : Nat) (rpd rpv rpc : Int32) (P : Nat → Prop) (x : Option HX) (m : Option HMt) : Prop :=
  (∃ p' bd N cd dat z zm so, p < p' ∧ p' + bd ≤ S ∧ N ≤ 200 ∧ cd ≤ 8 ∧ ((dat = 1 ∧ so = nI 0 ∧ N + B ≤ 200 ∧ gcn K rd (lN cd) = 1) ∨ (dat = 0 ∧ so = nI 2 ∧ cd = 0)) ∧ P dat ∧ x = some (nI p', nI (p' + bd), nI 0, nI 0, nI (1 - dat), nI N, nI cd, z) ∧ m = some (nI 1, nI p', nI S, nI 0, nI 0, zm, so, nI bd, nI N, nI cd)) ∨
  (∃ p' bd zm so co cd, p' ≤ S ∧ bd ≤ S ∧ S < p' + bd ∧ HD (nI S) (nI 1) (nI S) rpd rpv rpc x ∧ m = some (nI 1, nI p', nI S, nI 0, nI 0, zm, so, nI bd, co, cd)) ∨
  (∃ d q sm me zm so bo co cd, d ≠ nI 0 ∧ HD (nI S) d q rpd rpv rpc x ∧ m = some (nI 0, sm, me, d, q, zm, so, bo, co, cd))
theorem b163 {v4 : Int32} {v5 : Int64} {xk xc : Nat → Int32} {rb : Nat → Nat → Int32} {srow : Option Nat} {ssp sen stp rdr rpd rpv rpc rzp : Int32} : p_X1_readHead_J163 v4 v5 (nI 0) xk xc rb srow ssp sen (nI 0) stp rdr rpd rpv rpc rzp = p_X1_readHead_J163 v4 v5 (nI 1) xk xc rb srow ssp sen (nI 8) rzp rdr rpd rpv rpc rzp := by
  unfold p_X1_readHead_J163
  rw [demF, d_demand (show nI 8 ≠ nI 0 by decide)]
theorem b131 {v4 : Int32} {v5 : Int64} {xk xc : Nat → Int32} {rb : Nat → Nat → Int32} {srow : Option Nat} {ssp sen stp rdr rpd rpv rpc rzp : Int32} : p_X1_readHead_J131 v4 v5 (nI 0) xk xc rb srow ssp sen (nI 0) stp rdr rpd rpv rpc rzp = p_X1_readHead_J131 v4 v5 (nI 1) xk xc rb srow ssp sen (nI 8) rzp rdr rpd rpv rpc rzp := by
  unfold p_X1_readHead_J131
  rw [demF, d_demand (show nI 8 ≠ nI 0 by decide)]
theorem b89 {v1 v4 : Int32} {xk xc : Nat → Int32} {rb : Nat → Nat → Int32} {srow : Option Nat} {ssp sen stp rdr rpd rpv rpc rzp : Int32} : p_X1_readHead_J89 v1 v4 (nI 0) xk xc rb srow ssp sen (nI 0) stp rdr rpd rpv rpc rzp = p_X1_readHead_J89 v1 v4 (nI 1) xk xc rb srow ssp sen (nI 9) v1 rdr rpd rpv rpc rzp := by
  unfold p_X1_readHead_J89
  rw [demF, d_demand (show nI 9 ≠ nI 0 by decide)]
theorem b59 {v1 v4 : Int32} {xk xc : Nat → Int32} {rb : Nat → Nat → Int32} {srow : Option Nat} {ssp sen stp rwp rdr rpd rpv rpc rzp : Int32} : p_X1_readHead_J59 v1 v4 (nI 0) xk xc rb srow ssp sen (nI 0) stp rwp rdr rpd rpv rpc rzp = p_X1_readHead_J59 v1 v4 (nI 1) xk xc rb srow ssp sen (nI 8) rzp rwp rdr rpd rpv rpc rzp := by
  unfold p_X1_readHead_J59
  rw [demF, d_demand (show nI 8 ≠ nI 0 by decide)]
/-- from the byte behind the lengths on -/
theorem L_188 {K B S p rd dat bd : Nat} {P : Nat → Prop} {xk xc : Nat → Int32} {rb : Nat → Nat → Int32} {mf mm : Nat → Int32} {mdi mso mz mco mcd rpd rpv rpc rzp : Int32} (hs : Src rb mf S) (hp : p ≤ S) (hbd : bd ≤ S) (hK : xk 4 = nI K) (hK3 : K ≤ 3) (hB : xc 4 = nI B) (hm : mm 4 = nI B) (hB2 : B ≤ 200) (hr : rd ≤ 1) (hdi : mdi < nI 0 ↔ rd = 0) (hso : (dat = 1 ∧ mso = nI 0) ∨ (dat = 0 ∧ mso = nI 2)) (hP : P dat) :
    HOut K B S p rd rpd rpv rpc P (if nI dat = nI 0 then p_X1_readHead_J188 (nI dat) (lN bd) (nI 76) xk xc rb (some 1) (nI p) (nI S) (nI 0) (nI 0) (nI rd) rpd rpv rpc rzp else p_X1_readHead_J188 (nI dat) (lN bd) (nI 44) xk xc rb (some 1) (nI p) (nI S) (nI 0) (nI 0) (nI rd) rpd rpv rpc rzp) (if mso = nI 0 then p_X6_readHead_J218 (nI K) (nI 44) mm mf (nI p) (nI S) (nI 0) (nI 0) mdi mz mso (nI bd) mco mcd else p_X6_readHead_J218 (nI K) (nI 76) mm mf (nI p) (nI S) (nI 0) (nI 0) mdi mz mso (nI bd) mco mcd) := by
  have n1 : ¬ nI 1 = nI 0 := by decide
  have he := hs.1
  have hrB := isB_n hr
  have hd1 : dat ≤ 1 := by rcases hso with ⟨h, _⟩ | ⟨h, _⟩ <;> omega
  have key : ∀ c : Int32, HOut K B S p rd rpd rpv rpc P (p_X1_readHead_J188 (nI dat) (lN bd) c xk xc rb (some 1) (nI p) (nI S) (nI 0) (nI 0) (nI rd) rpd rpv rpc rzp) (p_X6_readHead_J218 (nI K) c mm mf (nI p) (nI S) (nI 0) (nI 0) mdi mz mso (nI bd) mco mcd) := by
    intro c
    have e188 : p_X1_readHead_J188 (nI dat) (lN bd) c xk xc rb (some 1) (nI p) (nI S) (nI 0) (nI 0) (nI rd) rpd rpv rpc rzp = bd3 (p_X4_expect c rb (some 1) (nI p) (nI S) (nI 0) (nI 0)) (fun ssp_31 str_32 stp_33 => inX (nI dat) (lN bd) xk xc rb ssp_31 (nI S) str_32 stp_33 (nI rd) rpd rpv rpc rzp) := rfl
    rw [e188, p_X6_readHead_J218]
    rcases L_expect (c := c) hs hp with ⟨hlt, e1, e2⟩ | ⟨sx, sm, d, q, hd, e1, e2⟩
    · rw [e1, e2, bdS3, bdS4, if_neg n1]
      rcases L_inner (v5 := lN bd) (rpd := rpd) (rpv := rpv) (rpc := rpc) (rzp := rzp) (mz := mz) (mco := mco) (mcd := mcd) (mso := mso) (dat := dat) hs (show p + 1 ≤ S by omega) hK hK3 hB hm hB2 hr hdi hso with ⟨p1, N, cd, z, zm, r1, r2, r3, r4, r5, r6, r7, r8⟩ | ⟨d, q, sm, zm, co, cd, hd, r7, r8⟩
      · rw [r7, r8, bdS7, if_neg n1]
        rcases L_291 (dat := dat) (v5 := lN bd) (v9 := lN N) (v12 := lN cd) (rpd := rpd) (rpv := rpv) (rpc := rpc) (rzp := z) hs r2 with ⟨g1, g2, g3, g4⟩ | ⟨d, q, sm, hd, g2, g3⟩
        · rw [g2, g3, bdS4, if_neg n1, g4, bdS4, if_neg n1, i2lI (by omega)]
          by_cases hov : S - (p1 + 2) < bd
          · right; left
            rw [if_pos (show lN (S - (p1 + 2)) < lN bd by rw [ltL (by omega) (by omega)]; exact hov)]
            refine ⟨p1 + 2, bd, zm, mso, nI N, nI cd, g1, hbd, by omega, ?_, rfl⟩
            rw [p_X1_readHead_J339, demF, bdS2, d_sound (by decide), bdS1, if_pos rfl]
            exact ⟨_, _, rfl⟩
          · left
            rw [if_neg (show ¬ lN (S - (p1 + 2)) < lN bd by rw [ltL (by omega) (by omega)]; exact hov)]
            have es : p_X4_isSound (nI 0) = some (nI 1) := rfl
            have hx : p_X1_readHead_J339 (nI dat) (lN bd) (lN N) (lN cd) (nI 1) (nI (p1 + 2)) (nI S) (nI 0) (nI 0) rpd rpv rpc z = some (nI (p1 + 2), nI (p1 + 2 + bd), nI 0, nI 0, nI (1 - dat), nI N, nI cd, z) := by
              rw [p_X1_readHead_J339, demT, bdS2, es, bdS1, if_neg n1, p_X1_readHead_J371, p_X1_readHead_J371, l2iL, l2iL, l2iL, addI, gdT (by decide), gdT (by decide)]
              have : dat = 0 ∨ dat = 1 := by omega
              rcases this with rfl | rfl
              · rw [if_pos rfl]
              · rw [if_neg n1]
            rw [hx]
            refine ⟨p1 + 2, bd, N, cd, dat, z, zm, mso, by omega, by omega, r3, r6, ?_, hP, rfl, rfl⟩
            rcases hso with ⟨h1, h2⟩ | ⟨h1, h2⟩
            · exact Or.inl ⟨h1, h2, (r4 h1).1, (r4 h1).2⟩
            · exact Or.inr ⟨h1, h2, r5 h1⟩
        · right; right
          rcases g3 with g3 | ⟨g3, g4⟩
          · rw [g3, bdS4, if_pos rfl]
            exact ⟨d, q, sm, _, _, _, _, _, _, hd, g2, rfl⟩
          · rw [g3, bdS4, if_neg n1, g4, bdS4, if_pos rfl]
            exact ⟨d, q, sm, _, _, _, _, _, _, hd, g2, rfl⟩
      · right; right
        rw [r8, bdS7, if_pos rfl]
        exact ⟨d, q, sm, _, _, _, _, _, _, hd, r7, rfl⟩
    · right; right
      rw [e1, e2, bdS3, bdS4, if_pos rfl]
      refine ⟨d, q, sm, _, _, _, _, _, _, hd, ?_, rfl⟩
      unfold inX
      obtain ⟨a, ea⟩ := d_zig (rb := rb) (srow := some 1) (ssp := sx) (sen := nI S) (stp := q) (rzp := rzp) hd
      rw [ea, bdS5]
      split
      · exact dh_219 hrB hd
      · exact dh_219 hrB hd
  rcases hso with ⟨h1, h2⟩ | ⟨h1, h2⟩
  · rw [if_neg (show ¬ nI dat = nI 0 by rw [h1]; exact n1), if_pos h2]
    exact key (nI 44)
  · rw [if_pos (show nI dat = nI 0 by rw [h1]), if_neg (show ¬ mso = nI 0 by rw [h2]; decide)]
    exact key (nI 76)
theorem HOut.mono {K B S p p1 rd : Nat} {rpd rpv rpc : Int32} {P : Nat → Prop} {x : Option HX} {m : Option HMt} (h : HOut K B S p1 rd rpd rpv rpc P x m) (hp : p ≤ p1) : HOut K B S p rd rpd rpv rpc P x m := by
  rcases h with ⟨p', bd, N, cd, dat, z, zm, so, a1, a2⟩ | h
  · exact Or.inl ⟨p', bd, N, cd, dat, z, zm, so, by omega, a2⟩
  · exact Or.inr h
/-- from the lengths on -/
theorem L_89 {K B S p rd dat : Nat} {P : Nat → Prop} {v1 : Int32} {xk xc : Nat → Int32} {rb : Nat → Nat → Int32} {mf mm : Nat → Int32} {mdi mso mz mbo mco mcd rpd rpv rpc rzp : Int32} (hs : Src rb mf S) (hp : p ≤ S) (hK : xk 4 = nI K) (hK3 : K ≤ 3) (hB : xc 4 = nI B) (hm : mm 4 = nI B) (hB2 : B ≤ 200) (hr : rd ≤ 1) (hdi : mdi < nI 0 ↔ rd = 0) (hso : (dat = 1 ∧ mso = nI 0) ∨ (dat = 0 ∧ mso = nI 2)) (hP : P dat) :
    HOut K B S p rd rpd rpv rpc P (p_X1_readHead_J89 v1 (nI dat) (nI 1) xk xc rb (some 1) (nI p) (nI S) (nI 0) (nI 0) (nI rd) rpd rpv rpc rzp) (p_X6_readHead_J94 (nI K) mm mf (nI S) (nI p) (nI S) (nI 0) (nI 0) mdi mz mso mbo mco mcd) := by
  have n1 : ¬ nI 1 = nI 0 := by decide
  have he := hs.1
  have hrB := isB_n hr
  have g0 : isB (nI 0) = true := by decide
  have fail : ∀ z : Int32, p_X6_fails (nI 8) z (nI 0) (nI 0) = some (nI 0, nI 8, z) := fun _ => rfl
  rw [p_X1_readHead_J89, demT, bdS2, p_X6_readHead_J94]
  unfold p_X4_left
  rcases L_zf (rzp := rzp) (mz := mz) hs hp with ⟨a, p1, q1, q2, e1, e2, e3⟩ | ⟨a, sx, z, sm, d, q, hd, e1, e2⟩ | ⟨a, sx, z, am, sm, zm, d, q, hd, e1, e2, e3⟩
  · rw [e1, e2, bdS5, bdS4, bdS1, if_neg n1, e3, bdS5, if_pos (show nI 0 = nI 0 from rfl), fail, bdS3, gdT g0, subI q2, i2lI (by omega), p_X1_readHead_J130]
    have bad : HD (nI S) (nI 8) (nI (p + 1)) rpd rpv rpc (p_X1_readHead_J131 (nI dat) a (nI 0) xk xc rb (some 1) (nI p1) (nI S) (nI 0) (nI 0) (nI rd) rpd rpv rpc (nI (p + 1))) := by
      rw [b131]
      exact dh_131 hrB (by decide)
    rcases splitL a with hneg | ⟨bd, hbd, hbe⟩
    · right; right
      rw [if_pos hneg, if_pos hneg]
      exact ⟨_, _, _, _, _, _, _, _, _, by decide, bad, rfl⟩
    · have hn0 : ¬ a < lN 0 := by rw [hbe, ltL (by omega) (by omega)]; omega
      rw [if_neg hn0, if_neg hn0]
      by_cases hov : S - p1 < bd
      · right; right
        have hl : lN (S - p1) < a := by rw [hbe, ltL (by omega) (by omega)]; exact hov
        rw [if_pos hl, if_pos hl]
        exact ⟨_, _, _, _, _, _, _, _, _, by decide, bad, rfl⟩
      · have hl : ¬ lN (S - p1) < a := by rw [hbe, ltL (by omega) (by omega)]; exact hov
        rw [if_neg hl, if_neg hl, hbe, l2iL, i2lI (by omega), p_X1_readHead_J131, demT, bdS2]
        rcases L_zf (rzp := nI (p + 1)) (mz := nI (p + 1)) hs q2 with ⟨a2, p2, q3, q4, e4, e5, e6⟩ | ⟨a2, sx, z, sm, d, q, hd, e4, e5⟩ | ⟨a2, sx, z, am, sm, zm, d, q, hd, e4, e5, e6⟩
        · rw [e4, e5, bdS5, bdS4, if_neg n1, e6, bdS5, if_pos (show nI 0 = nI 0 from rfl)]
          by_cases heq : a2 = lN bd
          · rw [if_pos heq, if_pos heq, p_X1_readHead_J163, demT, bdS2]
            exact (L_188 (bd := bd) hs q4 (by omega) hK hK3 hB hm hB2 hr hdi hso hP).mono (by omega)
          · right; right
            rw [if_neg heq, if_neg heq, fail, bdS3, gdT g0, b163]
            exact ⟨_, _, _, _, _, _, _, _, _, by decide, dh_163 hrB (by decide), rfl⟩
        · right; right
          rw [e4, e5, bdS5, bdS4, if_pos (show nI 0 = nI 0 from rfl)]
          refine ⟨_, _, _, _, _, _, _, _, _, hd, ?_, rfl⟩
          split
          · exact dh_163 hrB hd
          · exact dh_163 hrB hd
        · right; right
          rw [e4, e5, bdS5, bdS4, if_neg n1, e6, bdS5, if_neg hd]
          refine ⟨_, _, _, _, _, _, _, _, _, hd, ?_, rfl⟩
          split
          · exact dh_163 hrB hd
          · exact dh_163 hrB hd
  · right; right
    rw [e1, e2, bdS5, bdS4, bdS1, if_pos (show nI 0 = nI 0 from rfl), p_X1_readHead_J130]
    refine ⟨_, _, _, _, _, _, _, _, _, hd, ?_, rfl⟩
    split
    · exact dh_131 hrB hd
    · split
      · exact dh_131 hrB hd
      · exact dh_131 hrB hd
  · right; right
    rw [e1, e2, bdS5, bdS4, bdS1, if_neg n1, e3, bdS5, if_neg hd, p_X1_readHead_J130]
    refine ⟨_, _, _, _, _, _, _, _, _, hd, ?_, rfl⟩
    split
    · exact dh_131 hrB hd
    · split
      · exact dh_131 hrB hd
      · exact dh_131 hrB hd
/-- the head -/
theorem L_head {K B S p rd pg : Nat} {xk xc : Nat → Int32} {rb : Nat → Nat → Int32} {mf mm : Nat → Int32} {me mdi mso mz mbo mco mcd rpd rpv rpc rzp : Int32} (hs : Src rb mf S) (hp : p ≤ S) (hpg : pg ≤ p) (hpp : pg = 0 ↔ p = 0) (hK : xk 4 = nI K) (hK3 : K ≤ 3) (hB : xc 4 = nI B) (hm : mm 4 = nI B) (hB2 : B ≤ 200) (hr : rd ≤ 1) (hdi : mdi < nI 0 ↔ rd = 0) :
    HOut K B S p rd rpd rpv rpc (fun dat => dat = 0 → K ≠ 3 ∧ p = 0) (p_X1_readHead xk xc rb (some 1) (nI p) (nI S) (nI 0) (nI 0) (nI pg) (nI rd) rpd rpv rpc rzp) (p_X6_readHead (nI K) mm mf (nI S) (nI p) me (nI 0) (nI 0) mdi mz mso mbo mco mcd) := by
  have n1 : ¬ nI 1 = nI 0 := by decide
  have he := hs.1
  have hrB := isB_n hr
  have g0 : isB (nI 0) = true := by decide
  have fail : ∀ c z : Int32, p_X6_fails c z (nI 0) (nI 0) = some (nI 0, c, z) := fun _ _ => rfl
  unfold p_X1_readHead p_X6_readHead
  rcases L_zf (rzp := rzp) (mz := mz) hs hp with ⟨a, p1, q1, q2, e1, e2, e3⟩ | ⟨a, sx, z, sm, d, q, hd, e1, e2⟩ | ⟨a, sx, z, am, sm, zm, d, q, hd, e1, e2, e3⟩
  · rw [e1, e2, bdS5, bdS4, if_neg n1, e3, bdS5, if_pos (show nI 0 = nI 0 from rfl), fail, bdS3, gdT g0]
    by_cases a0 : a = lN 0
    · subst a0
      rw [if_pos rfl, if_pos rfl, p_X1_readHead_J24, if_neg n1, p_X1_readHead_J54, p_X1_readHead_J59, demT, bdS2, if_neg n1, p_X1_readHead_J84, p_X6_readHead_J68, l2iL, if_neg (show ¬ nI 0 = nI 2 by decide)]
      exact (L_89 (dat := 1) hs q2 hK hK3 hB hm hB2 hr hdi (Or.inl ⟨rfl, rfl⟩) (fun h => by omega)).mono (by omega)
    · rw [if_neg a0, if_neg a0, p_X1_readHead_J24, if_pos rfl, hK]
      have bad : HD (nI S) (nI 8) (nI (p + 1)) rpd rpv rpc (p_X1_readHead_J58 (nI p) (nI 0) xk xc rb (some 1) (nI p1) (nI S) (nI 0) (nI 0) (nI pg) (nI rd) rpd rpv rpc (nI (p + 1))) := by
        rw [p_X1_readHead_J58, b59]
        exact dh_59 hrB (by decide)
      by_cases a2 : a = lN 2
      · subst a2
        rw [if_pos rfl, if_pos rfl]
        by_cases k3 : K = 3
        · right; right
          rw [if_pos (show nI K = nI 3 by rw [k3]), if_pos (show nI K = nI 3 by rw [k3])]
          exact ⟨_, _, _, _, _, _, _, _, _, by decide, bad, rfl⟩
        · have hk3 : ¬ nI K = nI 3 := by rw [eqI (by omega) (by omega)]; exact k3
          rw [if_neg hk3, if_neg hk3, p_X1_readHead_J54, p_X1_readHead_J59, demT, bdS2, if_pos rfl, p_X6_readHead_J68, l2iL, if_pos rfl]
          by_cases p0 : p = 0
          · rw [if_pos (show nI pg = nI 0 by rw [hpp.mpr p0]), if_neg (show ¬ nI 0 < nI p by rw [p0]; decide), p_X1_readHead_J84]
            exact (L_89 (dat := 0) hs q2 hK hK3 hB hm hB2 hr hdi (Or.inr ⟨rfl, rfl⟩) (fun h => ⟨k3, p0⟩)).mono (by omega)
          · right; right
            rw [if_neg (show ¬ nI pg = nI 0 by rw [eqI (by omega) (by omega)]; exact fun h => p0 (hpp.mp h)), if_pos (show nI 0 < nI p by rw [ltI (by omega) (by omega)]; omega), fail, bdS3, gdT g0, b89]
            exact ⟨_, _, _, _, _, _, _, _, _, by decide, dh_89 hrB (by decide), rfl⟩
      · right; right
        rw [if_neg a2, if_neg a2]
        exact ⟨_, _, _, _, _, _, _, _, _, by decide, bad, rfl⟩
  · right; right
    rw [e1, e2, bdS5, bdS4, if_pos (show nI 0 = nI 0 from rfl)]
    refine ⟨_, _, _, _, _, _, _, _, _, hd, ?_, rfl⟩
    split
    · exact dh_24 hrB hd
    · exact dh_24 hrB hd
  · right; right
    rw [e1, e2, bdS5, bdS4, if_neg n1, e3, bdS5, if_neg hd]
    refine ⟨_, _, _, _, _, _, _, _, _, hd, ?_, rfl⟩
    split
    · exact dh_24 hrB hd
    · exact dh_24 hrB hd
