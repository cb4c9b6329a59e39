def FrA (r : Nat) (la la' : Nat → Nat → Int64) : Prop := ∀ q, q ≠ r → la' q = la q
theorem FrA.rf {r : Nat} {la : Nat → Nat → Int64} : FrA r la la := fun _ _ => rfl
theorem FrA.tr {r : Nat} {a b c : Nat → Nat → Int64} (h1 : FrA r a b) (h2 : FrA r b c) : FrA r a c := fun q hq => (h2 q hq).trans (h1 q hq)
def stA (la : Nat → Nat → Int64) (r i lim : Nat) (v : Int64) : Nat → Nat → Int64 := if i < lim then up la r (up (la r) i v) else la
theorem stA_fr {la : Nat → Nat → Int64} {r i lim : Nat} {v : Int64} : FrA r la (stA la r i lim v) := by
  intro q hq
  unfold stA
  split
  · exact up_n hq
  · rfl
/-- one number more out of the packed bits -/
theorem X_L9 {r a lim cnt w j p c n : Nat} {rb : Nat → Nat → Int32} {mf : Nat → Int32} {e : Nat} {v6 mby : Int32} {la : Nat → Nat → Int64} (hs : Src rb mf e) (hw : w ≤ 64) (hlim : lim ≤ 200) (ha : a + cnt < 2 ^ 30) (hj : j < cnt) (hp : p ≤ e) (hc : PB c v6 mby) :
    (∃ v' c' p' v6' mby', p ≤ p' ∧ p' ≤ e ∧ PB c' v6' mby' ∧ p_X6_readPacked (nI w) mf (nI p) (nI e) (nI 0) (nI 0) (nI c) mby = some (v', nI p', nI 0, nI 0, nI c', mby') ∧ itr7 (p_X4_nextPacked_L9 r (nI a) (nI lim) (nI cnt) (nI w) rb (some 1) (nI e)) (n + 2) v6 (nI c) (nI (a + j)) la (nI p) (nI 0) (nI 0) = itr7 (p_X4_nextPacked_L9 r (nI a) (nI lim) (nI cnt) (nI w) rb (some 1) (nI e)) (n + 1) v6' (nI c') (nI (a + (j + 1))) (stA la r (a + j) lim v') (nI p') (nI 0) (nI 0)) ∨
    (∃ la' sx vm sm d q cm bm, d ≠ nI 0 ∧ FrA r la la' ∧ p_X6_readPacked (nI w) mf (nI p) (nI e) (nI 0) (nI 0) (nI c) mby = some (vm, sm, d, q, cm, bm) ∧ itr7 (p_X4_nextPacked_L9 r (nI a) (nI lim) (nI cnt) (nI w) rb (some 1) (nI e)) (n + 2) v6 (nI c) (nI (a + j)) la (nI p) (nI 0) (nI 0) = some (la', sx, d, q)) := by
  have hX : itr7 (p_X4_nextPacked_L9 r (nI a) (nI lim) (nI cnt) (nI w) rb (some 1) (nI e)) (n + 2) v6 (nI c) (nI (a + j)) la (nI p) (nI 0) (nI 0) = p_X4_nextPacked_L9 r (nI a) (nI lim) (nI cnt) (nI w) rb (some 1) (nI e) (fun a1 b1 c1 d1 f1 g1 h1 => itr7 (p_X4_nextPacked_L9 r (nI a) (nI lim) (nI cnt) (nI w) rb (some 1) (nI e)) (n + 1) a1 b1 c1 d1 f1 g1 h1) v6 (nI c) (nI (a + j)) la (nI p) (nI 0) (nI 0) := rfl
  rw [hX, p_X4_nextPacked_L9, addI, if_pos (show nI (a + j) < nI (a + cnt) by rw [ltI (by omega) (by omega)]; omega), if_pos (show nI 0 = nI 0 from rfl)]
  -- what follows the number
  have cont : ∀ (x1 x2 : Int32) (v : Int64) (s1 s2 s3 : Int32) (kx : Int32 → Int32 → Int32 → (Nat → Nat → Int64) → Int32 → Int32 → Int32 → Option NP), (if nI (a + j) < nI 0 then kx x1 x2 (nI (a + j) + nI 1) la s1 s2 s3 else if nI (a + j) < nI lim then if nI (a + j) < nI 200 then gd (inb (nI (a + j)) 200) (kx x1 x2 (nI (a + j) + nI 1) (up la r (up (la r) (ix (nI (a + j))) v)) s1 s2 s3) else kx x1 x2 (nI (a + j) + nI 1) la s1 s2 s3 else kx x1 x2 (nI (a + j) + nI 1) la s1 s2 s3) = kx x1 x2 (nI (a + (j + 1))) (stA la r (a + j) lim v) s1 s2 s3 := by
    intro x1 x2 v s1 s2 s3 kx
    unfold stA
    rw [if_neg (by rw [ltI (by omega) (by omega)]; omega), addI, Nat.add_assoc a j 1]
    by_cases h : a + j < lim
    · rw [if_pos (show nI (a + j) < nI lim by rw [ltI (by omega) (by omega)]; exact h), if_pos (show nI (a + j) < nI 200 by rw [ltI (by omega) (by omega)]; omega), inbI (by omega), gdD (by omega), ixI (by omega), if_pos h]
    · rw [if_neg (show ¬ nI (a + j) < nI lim by rw [ltI (by omega) (by omega)]; exact h), if_neg h]
  rcases L_bits (kx := fun v6_6 v7_7 v9_8 ssp_9 str_10 stp_11 => if nI (a + j) < nI 0 then (fun a1 b1 c1 d1 f1 g1 h1 => itr7 (p_X4_nextPacked_L9 r (nI a) (nI lim) (nI cnt) (nI w) rb (some 1) (nI e)) (n + 1) a1 b1 c1 d1 f1 g1 h1) v6_6 v7_7 (nI (a + j) + nI 1) la ssp_9 str_10 stp_11 else if nI (a + j) < nI lim then if nI (a + j) < nI 200 then gd (inb (nI (a + j)) 200) ((fun a1 b1 c1 d1 f1 g1 h1 => itr7 (p_X4_nextPacked_L9 r (nI a) (nI lim) (nI cnt) (nI w) rb (some 1) (nI e)) (n + 1) a1 b1 c1 d1 f1 g1 h1) v6_6 v7_7 (nI (a + j) + nI 1) (up la r (up (la r) (ix (nI (a + j))) v9_8)) ssp_9 str_10 stp_11) else (fun a1 b1 c1 d1 f1 g1 h1 => itr7 (p_X4_nextPacked_L9 r (nI a) (nI lim) (nI cnt) (nI w) rb (some 1) (nI e)) (n + 1) a1 b1 c1 d1 f1 g1 h1) v6_6 v7_7 (nI (a + j) + nI 1) la ssp_9 str_10 stp_11 else (fun a1 b1 c1 d1 f1 g1 h1 => itr7 (p_X4_nextPacked_L9 r (nI a) (nI lim) (nI cnt) (nI w) rb (some 1) (nI e)) (n + 1) a1 b1 c1 d1 f1 g1 h1) v6_6 v7_7 (nI (a + j) + nI 1) la ssp_9 str_10 stp_11) hs hw w fu 0 p c v6 mby (lN 0) (by omega) (by omega) (by rw [fu_eq]; omega) hp hc with ⟨v', c', p', v6', mby', q1, q2, q3, q4, q5⟩ | ⟨a1, b1, x1, sx, vm, sm, d, q, cm, bm, hd, q4, q5⟩
  · left
    refine ⟨v', c', p', v6', mby', q1, q2, q3, q5, ?_⟩
    refine Eq.trans q4 ?_
    exact cont _ _ _ _ _ _ (fun a1 b1 c1 d1 f1 g1 h1 => itr7 (p_X4_nextPacked_L9 r (nI a) (nI lim) (nI cnt) (nI w) rb (some 1) (nI e)) (n + 1) a1 b1 c1 d1 f1 g1 h1)
  · right
    refine ⟨stA la r (a + j) lim x1, sx, vm, sm, d, q, cm, bm, hd, stA_fr, q5, ?_⟩
    refine Eq.trans q4 ?_
    refine Eq.trans (cont _ _ _ _ _ _ (fun a1 b1 c1 d1 f1 g1 h1 => itr7 (p_X4_nextPacked_L9 r (nI a) (nI lim) (nI cnt) (nI w) rb (some 1) (nI e)) (n + 1) a1 b1 c1 d1 f1 g1 h1)) ?_
    show p_X4_nextPacked_L9 r (nI a) (nI lim) (nI cnt) (nI w) rb (some 1) (nI e) _ _ _ _ _ sx d q = _
    rw [p_X4_nextPacked_L9, if_neg hd, ite_self]
theorem X_L9_end {r a lim cnt w p c n : Nat} {rb : Nat → Nat → Int32} {e : Nat} {v6 : Int32} {la : Nat → Nat → Int64} (ha : a + cnt < 2 ^ 30) : itr7 (p_X4_nextPacked_L9 r (nI a) (nI lim) (nI cnt) (nI w) rb (some 1) (nI e)) (n + 1) v6 (nI c) (nI (a + cnt)) la (nI p) (nI 0) (nI 0) = some (la, nI p, nI 0, nI 0) := by
  show p_X4_nextPacked_L9 r (nI a) (nI lim) (nI cnt) (nI w) rb (some 1) (nI e) _ v6 (nI c) (nI (a + cnt)) la (nI p) (nI 0) (nI 0) = _
  rw [p_X4_nextPacked_L9, addI, if_neg (by rw [ltI (by omega) (by omega)]; omega)]
/-- what is read so far is alike -/
def Lk (r i : Nat) (la : Nat → Nat → Int64) (mn : Nat → Int64) : Prop := ∀ t, t < i → la r t = mn t
theorem Lk.put {r i lim : Nat} {la : Nat → Nat → Int64} {mn : Nat → Int64} (v : Int64) (h : Lk r i la mn) (hi : i < lim) : Lk r (i + 1) (stA la r i lim v) (up mn i v) := by
  intro t ht
  unfold stA
  rw [if_pos hi, up_s]
  unfold up
  by_cases e : t = i
  · rw [if_pos e, if_pos e]
  · rw [if_neg e, if_neg e]
    exact h t (by omega)
abbrev RR : Type := Int32 × (Nat → Int64) × Int32 × Int32 × Int32 × Int32 × Int32
theorem L_runPack {r a lim cnt w : Nat} {rb : Nat → Nat → Int32} {mf : Nat → Int32} {e : Nat} {x : Int64} {kx : Int32 → (Nat → Int64) → Int32 → Int32 → Int32 → Int32 → Int32 → Option RR} (hs : Src rb mf e) (hw : w ≤ 64) (hlim : lim ≤ 200) (ha : a + cnt < 2 ^ 30) (hal : a ≤ lim) (hx : nI 8 * l2i x = nI cnt) : ∀ (m n j p c : Nat) (v6 mby : Int32) (la : Nat → Nat → Int64) (mn : Nat → Int64), cnt - j = m → j ≤ cnt → m + 1 < n → p ≤ e → PB c v6 mby → Lk r (min (a + j) lim) la mn →
    (∃ la' mn' p' c' mby', p ≤ p' ∧ p' ≤ e ∧ FrA r la la' ∧ Lk r (min (a + cnt) lim) la' mn' ∧ itr7 (p_X4_nextPacked_L9 r (nI a) (nI lim) (nI cnt) (nI w) rb (some 1) (nI e)) n v6 (nI c) (nI (a + j)) la (nI p) (nI 0) (nI 0) = some (la', nI p', nI 0, nI 0) ∧ itr8 (p_X6_readRuns_L108 (nI lim) (nI w) x mf (nI e) kx) n (nI (min (a + j) lim)) (nI j) mn (nI p) (nI 0) (nI 0) (nI c) mby = kx (nI (min (a + cnt) lim)) mn' (nI p') (nI 0) (nI 0) (nI c') mby') ∨
    (∃ la' sx mn' sm d q cm bm, d ≠ nI 0 ∧ FrA r la la' ∧ itr7 (p_X4_nextPacked_L9 r (nI a) (nI lim) (nI cnt) (nI w) rb (some 1) (nI e)) n v6 (nI c) (nI (a + j)) la (nI p) (nI 0) (nI 0) = some (la', sx, d, q) ∧ itr8 (p_X6_readRuns_L108 (nI lim) (nI w) x mf (nI e) kx) n (nI (min (a + j) lim)) (nI j) mn (nI p) (nI 0) (nI 0) (nI c) mby = some (nI 0, mn', sm, d, q, cm, bm)) := by
  intro m
  induction m with
  | zero =>
    intro n j p c v6 mby la mn h1 h2 h3 hp hc hk
    have : j = cnt := by omega
    subst this
    cases n with
    | zero => omega
    | succ n =>
      left
      refine ⟨la, mn, p, c, mby, by omega, hp, FrA.rf, hk, X_L9_end ha, ?_⟩
      show p_X6_readRuns_L108 (nI lim) (nI w) x mf (nI e) kx _ _ (nI j) mn (nI p) (nI 0) (nI 0) (nI c) mby = _
      rw [p_X6_readRuns_L108, hx, if_neg (by rw [ltI (by omega) (by omega)]; omega)]
  | succ m ih =>
    intro n j p c v6 mby la mn h1 h2 h3 hp hc hk
    cases n with
    | zero => omega
    | succ n =>
      cases n with
      | zero => omega
      | succ n =>
        have hM : itr8 (p_X6_readRuns_L108 (nI lim) (nI w) x mf (nI e) kx) (n + 1 + 1) (nI (min (a + j) lim)) (nI j) mn (nI p) (nI 0) (nI 0) (nI c) mby = p_X6_readRuns_L108 (nI lim) (nI w) x mf (nI e) kx (fun a1 b1 c1 d1 f1 g1 h1 i1 => itr8 (p_X6_readRuns_L108 (nI lim) (nI w) x mf (nI e) kx) (n + 1) a1 b1 c1 d1 f1 g1 h1 i1) (nI (min (a + j) lim)) (nI j) mn (nI p) (nI 0) (nI 0) (nI c) mby := rfl
        rw [hM, p_X6_readRuns_L108, hx, if_pos (show nI j < nI cnt by rw [ltI (by omega) (by omega)]; omega)]
        rcases X_L9 (r := r) (a := a) (lim := lim) (cnt := cnt) (w := w) (j := j) (n := n) (la := la) hs hw hlim ha (by omega) hp hc with ⟨v', c', p', v6', mby', q1, q2, q3, q4, q5⟩ | ⟨la', sx, vm, sm, d, q, cm, bm, hd, q3, q4, q5⟩
        · rw [q4, bdS6, if_pos (show nI 0 = nI 0 from rfl), addI, addI]
          by_cases hlt : a + j < lim
          · have e1 : min (a + j) lim = a + j := by omega
            have e2 : min (a + (j + 1)) lim = a + j + 1 := by omega
            rw [e1] at hk
            rw [e1, if_pos (by rw [ltI (by omega) (by omega)]; exact hlt), inbI (by omega), gdD (by omega), ixI (by omega)]
            have hk2 := hk.put v' hlt
            rcases ih (n + 1) (j + 1) p' c' v6' mby' (stA la r (a + j) lim v') (up mn (a + j) v') (by omega) (by omega) (by omega) q2 q3 (by rw [e2]; exact hk2) with ⟨la2, mn2, p2, c2, by2, r1, r2, r3, r4, r5, r6⟩ | ⟨la2, sx, mn2, sm, d, q, cm, bm, hd, r3, r5, r6⟩
            · rw [e2] at r6
              exact Or.inl ⟨la2, mn2, p2, c2, by2, by omega, r2, stA_fr.tr r3, r4, q5.trans r5, r6⟩
            · rw [e2] at r6
              exact Or.inr ⟨la2, sx, mn2, sm, d, q, cm, bm, hd, stA_fr.tr r3, q5.trans r5, r6⟩
          · have e1 : min (a + j) lim = lim := by omega
            have e2 : min (a + (j + 1)) lim = lim := by omega
            have e3 : stA la r (a + j) lim v' = la := by unfold stA; rw [if_neg hlt]
            rw [e3] at q5
            rw [e1] at hk
            rw [e1, if_neg (by rw [ltI (by omega) (by omega)]; omega)]
            rcases ih (n + 1) (j + 1) p' c' v6' mby' la mn (by omega) (by omega) (by omega) q2 q3 (by rw [e2]; exact hk) with ⟨la2, mn2, p2, c2, by2, r1, r2, r3, r4, r5, r6⟩ | ⟨la2, sx, mn2, sm, d, q, cm, bm, hd, r3, r5, r6⟩
            · rw [e2] at r6
              exact Or.inl ⟨la2, mn2, p2, c2, by2, by omega, r2, r3, r4, q5.trans r5, r6⟩
            · rw [e2] at r6
              exact Or.inr ⟨la2, sx, mn2, sm, d, q, cm, bm, hd, r3, q5.trans r5, r6⟩
        · rw [q4, bdS6, if_neg hd]
          exact Or.inr ⟨la', sx, mn, sm, d, q, cm, bm, hd, q3, q5, rfl⟩
