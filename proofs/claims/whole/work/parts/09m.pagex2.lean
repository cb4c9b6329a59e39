def Fr23 (rc rv : Nat → Int32) (rb : Nat → Nat → Int32) (rc' rv' : Nat → Int32) (rb' : Nat → Nat → Int32) : Prop := ∀ q, q ≠ 2 → q ≠ 3 → rc' q = rc q ∧ rv' q = rv q ∧ rb' q = rb q
theorem Fr23.rf {rc rv : Nat → Int32} {rb : Nat → Nat → Int32} : Fr23 rc rv rb rc rv rb := fun _ _ _ => ⟨rfl, rfl, rfl⟩
theorem Fr23.tr {rc rv rc1 rv1 rc2 rv2 : Nat → Int32} {rb rb1 rb2 : Nat → Nat → Int32} (h1 : Fr23 rc rv rb rc1 rv1 rb1) (h2 : Fr23 rc1 rv1 rb1 rc2 rv2 rb2) : Fr23 rc rv rb rc2 rv2 rb2 := fun q a b => ⟨(h2 q a b).1.trans (h1 q a b).1, (h2 q a b).2.1.trans (h1 q a b).2.1, (h2 q a b).2.2.trans (h1 q a b).2.2⟩
theorem FrR.to2 {rc rv rc' rv' : Nat → Int32} {rb rb' : Nat → Nat → Int32} (h : FrR 2 rc rv rb rc' rv' rb') : Fr23 rc rv rb rc' rv' rb' := fun q a _ => h q a
theorem FrR.to3 {rc rv rc' rv' : Nat → Int32} {rb rb' : Nat → Nat → Int32} (h : FrR 3 rc rv rb rc' rv' rb') : Fr23 rc rv rb rc' rv' rb' := fun q _ b => h q b
theorem b8L_flat {α : Type} {l : List α} {f : α → List Int32} (h : ∀ a ∈ l, b8L (f a)) : b8L (l.flatMap f) := by
  intro x hx
  obtain ⟨a, ha, h2⟩ := List.mem_flatMap.mp hx
  exact h a ha x h2
theorem b8L_own (l : List Int64) : b8L (ownB l) := (b8L_lit _ _).app (b8L_runs _ _ _ _ _)
theorem b8L_pl {K : Nat} {q : TV} (h : b8L q.2) : b8L (plB K q) := (b8L_lit _ _).app h
theorem b8L_body {K code : Nat} {Q : List TV} {pls : List Int64} {w : Nat} (h : ∀ q ∈ Q, b8L q.2) : b8L (bodyB K code Q pls w) := by
  unfold bodyB
  split
  · split
    · exact b8L_pack _ _ _
    · exact b8L_flat (fun q hq => b8L_pl (h q hq))
  · split
    · exact b8L_own _
    · split
      · exact b8L_diff _ _ _
      · split
        · exact (b8L_diff _ _ _).app (b8L_flat h)
        · exact (b8L.one _).app (b8L_runs _ _ _ _ _)
theorem b8L_pbody {K O code : Nat} {pv : List AV} {pls : List Int64} {w : Nat} (h : ∀ q ∈ tq pv, b8L q.2) : b8L (pbodyB K O code pv pls w) := by
  unfold pbodyB
  refine b8L.app ?_ (b8L_body h)
  split
  · exact b8L_own _
  · exact b8L_nil
theorem X_fin {what cnt code : Nat} {B L : List Int32} {rc rv : Nat → Int32} {rb : Nat → Nat → Int32} (h1 : what < 2 ^ 31) (h3 : cnt < 2 ^ 31) (h4 : code < 2 ^ 31) (hb : b8L B) (hB : XOut rc rv rb 3 B) (hL : XOut rc rv rb 2 L) : ∃ rc1 rv1 rb1 rc' rv' rb', p_X2_pushHead (nI what) (nI cnt) (nI code) rc rv rb = some (rc1, rv1, rb1) ∧ p_X3_append 2 3 rc1 rv1 rb1 = some (rc', rv', rb') ∧ XOut rc' rv' rb' 2 (L ++ (headB what B.length cnt code ++ B)) ∧ Fr23 rc rv rb rc' rv' rb' := by
  have e2 : rlen 2 = 12000 := rfl
  have e3 : rlen 3 = 12000 := rfl
  obtain ⟨c, c1, c2, c3⟩ := XOut_cnt hB
  obtain ⟨a1, b1, d1, q1, g1, f1⟩ := X_head (n := c) h1 (by omega) h3 h4 c2 hL
  obtain ⟨a2, b2, d2, q2, g2, f2⟩ := X_append (d := 2) (s := 3) (by omega) rfl hb (hB.of_fr f1 (by omega)) g1
  refine ⟨a1, b1, d1, a2, b2, d2, q1, q2, ?_, f1.to2.tr f2.to2⟩
  by_cases hlen : B.length ≤ rlen 3
  · rw [c3 hlen, List.append_assoc] at g2
    exact g2
  · exact XOut_over g2 (by simp only [List.length_append]; omega) (by simp only [List.length_append]; omega)
theorem X_pushPlain {c K : Nat} {xk : Nat → Int32} {xn : Nat → Nat → Int64} {xl : Nat → Nat → Int32} {wch : Nat → Int32} {cs : CS} {la : Nat → Nat → Int64} {L : List Int32} {rc rv : Nat → Int32} {rb : Nat → Nat → Int32} (hK : xk c = nI K) (hK3 : K ≤ 3) (hc : cs.length ≤ 200) (hw : CHW wch cs) (hv : CHV xn xl c cs) (hk : ∀ p ∈ cs, TVok K p.2) (h : XOut rc rv rb 3 L) : ∃ rc' rv' rb' la', p_X2_pushPlain c xk xn xl rc rv rb la wch (nI cs.length) = some (rc', rv', rb', la') ∧ XOut rc' rv' rb' 3 (L ++ bodyB K 0 (cs.map Prod.snd) [] 0) ∧ FrR 3 rc rv rb rc' rv' rb' := by
  unfold p_X2_pushPlain bodyB
  rw [hK, if_pos rfl]
  by_cases h3 : K = 3
  · obtain ⟨la', e1, g1⟩ := X_gather (la := la) hc hw hv
    obtain ⟨a1, b1, d1, e2, g2, f2⟩ := X_pack (r := 3) (q := 0) (w := 1) (i0 := 0) (cnt := (cs.length + 7) / 8 * 8) (lim := cs.length) (la := la') (g := fn ((cs.map Prod.snd).map Prod.fst)) (by omega) (by omega) (by omega) (fun j _ => by
      rw [Nat.zero_add]
      by_cases hj : j < cs.length
      · rw [if_pos hj, g1 j hj]
      · rw [if_neg hj]
        unfold fn
        rw [List.getElem?_eq_none (by simpa using hj)]
        rfl) h
    rw [if_pos (by rw [h3]), if_pos h3, e1, bdS1, X_wholeGroups (by omega), bdS1, mulI, e2, bdS3]
    exact ⟨a1, b1, d1, la', rfl, by rw [List.length_map]; exact g2, f2⟩
  · rw [if_neg (by rw [eqI (by omega) (by omega)]; exact h3), if_neg h3]
    obtain ⟨a1, b1, d1, e2, g2, f2⟩ := X_plain_L (la := la) hK (by omega) hc hw hv hk cs.length fu 0 rc rv rb (by omega) (by omega) (by rw [fu_eq]; omega) (by simpa using h)
    exact ⟨a1, b1, d1, la, e2, by rw [List.flatMap_map]; exact g2, f2⟩
theorem bl_le_of {v : Int64} {k : Nat} (h : ∀ i, k ≤ i → lb v i = false) : bl v ≤ k := by
  by_cases h0 : bl v = 0
  · omega
  · apply Nat.le_of_not_lt
    intro hlt
    have := bl_top h0
    rw [h _ (by omega)] at this
    cases this
theorem lb_lN {n : Nat} (i : Nat) (hn : n < 2 ^ 64) : lb (lN n) i = n.testBit i := by
  have e : (lN n).toBitVec = BitVec.ofNat 64 n := rfl
  unfold lb
  rw [e, BitVec.getLsbD_ofNat]
  by_cases hi : i < 64
  · simp [hi]
  · have : n.testBit i = false := Nat.testBit_lt_two_pow (Nat.lt_of_lt_of_le hn (Nat.pow_le_pow_right (by omega) (by omega)))
    simp [this]
theorem bl_lN {n k : Nat} (h : n < 2 ^ k) (hk : k ≤ 64) : bl (lN n) ≤ k := bl_le_of (fun i hi => by
  have h64 : n < 2 ^ 64 := Nat.lt_of_lt_of_le h (Nat.pow_le_pow_right (by omega) hk)
  rw [lb_lN i h64]
  exact Nat.testBit_lt_two_pow (Nat.lt_of_lt_of_le h (Nat.pow_le_pow_right (by omega) hi)))
def widD (D : Nat) : Nat := if 1 < D then bl (lN (D - 1)) else 0
theorem widD_le {D : Nat} (h : D ≤ 200) : widD D ≤ 8 := by
  unfold widD
  split
  · exact bl_lN (by omega) (by omega)
  · omega
def WP (wpl : Nat → Int32) (cs : CS) (pls : List Int64) : Prop := pls.length = cs.length ∧ ∀ (t : Nat) (h : t < cs.length), ∃ P, P < 2 ^ 31 ∧ wpl cs[t].1 = nI P ∧ fn pls t = lN P
theorem X_places_L {wch wpl : Nat → Int32} {cs : CS} {pls : List Int64} {kx : (Nat → Nat → Int64) → Option ((Nat → Int32) × (Nat → Int32) × (Nat → Nat → Int32) × (Nat → Nat → Int64))} (hc : cs.length ≤ 200) (hw : CHW wch cs) (hp : WP wpl cs pls) : ∀ (m n t : Nat) (la : Nat → Nat → Int64), cs.length - t = m → t ≤ cs.length → m < n → (∀ j, j < t → la 0 j = fn pls j) → ∃ la', itr2 (p_X2_pushPlaces_L2 wch (nI cs.length) wpl kx) n (nI t) la = kx la' ∧ ∀ j, j < cs.length → la' 0 j = fn pls j := by
  intro m
  induction m with
  | zero =>
    intro n t la h1 h2 h3 h
    cases n with
    | zero => omega
    | succ n =>
      refine ⟨la, ?_, fun j hj => h j (by omega)⟩
      show p_X2_pushPlaces_L2 wch (nI cs.length) wpl kx _ (nI t) la = _
      rw [p_X2_pushPlaces_L2, if_neg (by rw [ltI (by omega) (by omega)]; omega)]
  | succ m ih =>
    intro n t la h1 h2 h3 h
    cases n with
    | zero => omega
    | succ n =>
      have ht : t < cs.length := by omega
      obtain ⟨w1, w2⟩ := hw t ht
      obtain ⟨P, p1, p2, p3⟩ := hp.2 t ht
      obtain ⟨la', e1, g1⟩ := ih n (t + 1) (up la 0 (up (la 0) t (lN P))) (by omega) (by omega) (by omega) (fun j hjt => by
        rw [up_s]
        unfold up
        by_cases e : j = t
        · subst e; rw [if_pos rfl, p3]
        · rw [if_neg e, h j (by omega)])
      refine ⟨la', ?_, g1⟩
      show p_X2_pushPlaces_L2 wch (nI cs.length) wpl kx _ (nI t) la = _
      rw [p_X2_pushPlaces_L2, if_pos (by rw [ltI (by omega) (by omega)]; omega), if_pos (by rw [ltI (by omega) (by omega)]; omega), if_pos (by rw [ltI (by omega) (by omega)]; omega), inbI (by omega), gdD (by omega), ixI (by omega), w1, if_neg (by rw [ltI (by omega) (by omega)]; omega), if_pos (by rw [ltI (by omega) (by omega)]; omega), inbI (by omega), gdD (by omega), gdD (by omega), ixI (by omega), p2, i2lI p1, addI]
      exact e1
theorem X_pushPlaces {wch wpl : Nat → Int32} {cs : CS} {pls : List Int64} {D : Nat} {la : Nat → Nat → Int64} {L : List Int32} {rc rv : Nat → Int32} {rb : Nat → Nat → Int32} (hD : D ≤ 200) (hc : cs.length ≤ 200) (hw : CHW wch cs) (hp : WP wpl cs pls) (h : XOut rc rv rb 3 L) : ∃ rc' rv' rb' la', p_X2_pushPlaces rc rv rb la wch (nI cs.length) wpl (nI D) = some (rc', rv', rb', la') ∧ XOut rc' rv' rb' 3 (L ++ ([b8 (nI (widD D))] ++ runsB (fn pls) (widD D) cs.length cs.length 0)) ∧ FrR 3 rc rv rb rc' rv' rb' := by
  obtain ⟨la', e1, g1⟩ := X_places_L (kx := fun la_6 => p_X2_pushPlaces_J71 rc rv rb la_6 (nI cs.length) (nI D)) hc hw hp cs.length fu 0 la (by omega) (by omega) (by rw [fu_eq]; omega) (fun j h => by omega)
  have hwd := widD_le hD
  obtain ⟨a1, b1, d1, e2, g2, f2⟩ := XOut_push (nI (widD D)) h
  obtain ⟨a3, b3, d3, e3, g3, f3⟩ := X_runs (q := 0) (w := widD D) (la := la') (by omega) hc g2
  rw [runsB_cong g1] at g3
  refine ⟨a3, b3, d3, la', ?_, by simpa [List.append_assoc] using g3, f2.tr f3⟩
  unfold p_X2_pushPlaces
  refine e1.trans ?_
  rw [p_X2_pushPlaces_J71]
  have fin : p_X2_pushPlaces_J93 (nI (widD D)) rc rv rb la' (nI cs.length) = some (a3, b3, d3, la') := by
    rw [p_X2_pushPlaces_J93, e2, bdS3, e3, bdS3]
  by_cases h1 : 1 < D
  · rw [if_pos (by rw [ltI (by omega) (by omega)]; exact h1), subI (by omega), i2lI (by omega), X_bitsOf, bdS1]
    unfold widD at fin
    rw [if_pos h1] at fin
    exact fin
  · rw [if_neg (by rw [ltI (by omega) (by omega)]; exact h1)]
    unfold widD at fin
    rw [if_neg h1] at fin
    exact fin
theorem X_dataPage {c f0 K O code D : Nat} {xk xo : Nat → Int32} {xt : Nat → Nat → Int32} {xn : Nat → Nat → Int64} {xl : Nat → Nat → Int32} {pv : List AV} {pls : List Int64} {la : Nat → Nat → Int64} {wch wpl : Nat → Int32} {wcc wun : Int32} {L : List Int32} {rc rv : Nat → Int32} {rb : Nat → Nat → Int32}
    (hK : xk c = nI K) (hK3 : K ≤ 3) (hO : xo c = nI O) (hO1 : O ≤ 1) (hl : f0 + pv.length ≤ 200) (hv : ∀ (j : Nat) (h : j < pv.length), XV xt xn xl c (f0 + j) pv[j]) (hwf : ∀ a ∈ pv, wfv K a)
    (hcode : code = 0 ∨ code = 3 ∨ (code = 5 ∧ K ≠ 2) ∨ (code = 6 ∧ K = 2) ∨ (code = 8 ∧ WP wpl (tvx f0 pv) pls ∧ wun = nI D ∧ D ≤ 200)) (h : XOut rc rv rb 2 L) :
    ∃ rc' rv' rb' la' wch' wcc', p_X2_dataPage c (nI f0) (nI (f0 + pv.length)) (nI code) xk xo xt xn xl rc rv rb la wch wcc wpl wun = some (rc', rv', rb', la', wch', wcc') ∧ XOut rc' rv' rb' 2 (L ++ pageB K O code pv pls (widD D)) ∧ Fr23 rc rv rb rc' rv' rb' := by
  have hok : ∀ p ∈ tvx f0 pv, TVok K p.2 := by
    intro p hp
    obtain ⟨t, ht, e⟩ := List.getElem_of_mem hp
    obtain ⟨k, hk, h1, h2⟩ := tvx_at pv f0 t ht
    rw [← e]
    exact TVok_of (by rw [← h1]; exact hwf _ (List.getElem_mem hk))
  have hlen := tvx_len pv f0
  have hle := tq_le pv
  have hmap := tvx_map pv f0
  have hbq : ∀ q ∈ tq pv, b8L q.2 := by
    intro q hq
    rw [← hmap] at hq
    obtain ⟨p, hp, e⟩ := List.mem_map.mp hq
    rw [← e]
    exact (hok p hp).2.1
  have hcv := CHV_tvx hv
  -- from the body's levels on
  have rest : ∀ (rc1 rv1 : Nat → Int32) (rb1 : Nat → Nat → Int32) (la1 : Nat → Nat → Int64) (lev : List Int32), lev = (if O = 1 then ownB (pv.map (fun a => lN (th a))) else []) → XOut rc1 rv1 rb1 3 lev → XOut rc1 rv1 rb1 2 L → ∃ rc' rv' rb' la' wch' wcc', p_X2_dataPage_J28 c (nI f0) (nI (f0 + pv.length)) (nI code) xk xt xn xl rc1 rv1 rb1 la1 wch wcc wpl wun = some (rc', rv', rb', la', wch', wcc') ∧ XOut rc' rv' rb' 2 (L ++ pageB K O code pv pls (widD D)) ∧ Fr23 rc1 rv1 rb1 rc' rv' rb' := by
    intro rc1 rv1 rb1 la1 lev hlev h3 h2
    obtain ⟨wch', ew, gw⟩ := X_choose (wch := wch) (wcc := wcc) hl hv
    have fin : ∀ (rc2 rv2 : Nat → Int32) (rb2 : Nat → Nat → Int32) (la2 : Nat → Nat → Int64), XOut rc2 rv2 rb2 3 (lev ++ bodyB K code (tq pv) pls (widD D)) → FrR 3 rc1 rv1 rb1 rc2 rv2 rb2 → ∃ rc' rv' rb' la' wch'' wcc', p_X2_dataPage_J172 (nI f0) (nI (f0 + pv.length)) (nI code) rc2 rv2 rb2 la2 wch' (nI (tvx f0 pv).length) = some (rc', rv', rb', la', wch'', wcc') ∧ XOut rc' rv' rb' 2 (L ++ pageB K O code pv pls (widD D)) ∧ Fr23 rc1 rv1 rb1 rc' rv' rb' := by
      intro rc2 rv2 rb2 la2 g3 f3
      have hB : lev ++ bodyB K code (tq pv) pls (widD D) = pbodyB K O code pv pls (widD D) := by rw [hlev]; rfl
      rw [hB] at g3
      obtain ⟨a1, b1, d1, a2, b2, d2, q1, q2, g4, f4⟩ := X_fin (what := 0) (cnt := pv.length) (code := code) (by omega) (by omega) (by omega) (b8L_pbody hbq) g3 (h2.of_fr f3 (by omega))
      refine ⟨a2, b2, d2, la2, wch', nI (tvx f0 pv).length, ?_, g4, f3.to3.tr f4⟩
      rw [p_X2_dataPage_J172, subI (by omega), Nat.add_sub_cancel_left, q1, bdS3, q2, bdS3]
    rw [p_X2_dataPage_J28, ew, bdS2]
    rcases hcode with e | e | ⟨e, hk2⟩ | ⟨e, hk2⟩ | ⟨e, hwp, rfl, hD⟩ <;> subst e
    · obtain ⟨a1, b1, d1, la2, q1, g1, f1⟩ := X_pushPlain (la := la1) hK hK3 (by omega) gw hcv hok h3
      rw [if_pos rfl, q1, bdS4]
      rw [hmap] at g1
      exact fin a1 b1 d1 la2 (by unfold bodyB at g1 ⊢; simpa using g1) f1
    · obtain ⟨la2, q0, g0⟩ := X_gather (la := la1) (by omega) gw hcv
      rw [hmap] at g0
      obtain ⟨a1, b1, d1, q1, g1, f1⟩ := X_ownB (n0 := (tvx f0 pv).length) (la := la2) (l := (tq pv).map Prod.fst) (by omega) (by rw [List.length_map, hlen]) g0 h3
      rw [if_neg (by decide), if_neg (by decide), if_neg (by decide), if_pos rfl, q0, bdS1, q1, bdS3]
      exact fin a1 b1 d1 la2 (by unfold bodyB; simpa using g1) f1
    · obtain ⟨la2, q0, g0⟩ := X_gather (la := la1) (by omega) gw hcv
      rw [hmap] at g0
      rw [if_neg (by decide), if_neg (by decide), if_neg (by decide), if_neg (by decide), if_neg (by decide), if_pos rfl, q0, bdS1, hK]
      by_cases h0 : K = 0
      · obtain ⟨a1, b1, d1, la3, q1, g1, f1⟩ := X_diff (r := 3) (q := 0) (n0 := (tvx f0 pv).length) (ints := 1) (la := la2) (by omega) (by omega) h3
        rw [diffB_cong g0] at g1
        rw [if_pos (by rw [h0]), p_X2_dataPage_J117, q1, bdS4]
        exact fin a1 b1 d1 la3 (by unfold bodyB; rw [if_neg (by omega), if_neg (by omega), if_pos rfl, if_pos h0, ← hlen]; exact g1) f1
      · obtain ⟨a1, b1, d1, la3, q1, g1, f1⟩ := X_diff (r := 3) (q := 0) (n0 := (tvx f0 pv).length) (ints := 0) (la := la2) (by omega) (by omega) h3
        rw [diffB_cong g0] at g1
        rw [if_neg (by rw [eqI (by omega) (by omega)]; exact h0), p_X2_dataPage_J117, q1, bdS4]
        exact fin a1 b1 d1 la3 (by unfold bodyB; rw [if_neg (by omega), if_neg (by omega), if_pos rfl, if_neg h0, ← hlen]; exact g1) f1
    · obtain ⟨la2, q0, g0⟩ := X_gather (la := la1) (by omega) gw hcv
      rw [hmap] at g0
      obtain ⟨a1, b1, d1, la3, q1, g1, f1⟩ := X_diff (r := 3) (q := 0) (n0 := (tvx f0 pv).length) (ints := 1) (la := la2) (by omega) (by omega) h3
      rw [diffB_cong g0] at g1
      rw [hk2] at hok
      obtain ⟨a2, b2, d2, q2, g2, f2⟩ := X_allLetters_L (c := c) (xn := xn) (xl := xl) (wch := wch') (cs := tvx f0 pv) (by omega) gw hcv hok (tvx f0 pv).length fu 0 a1 b1 d1 (by omega) (by omega) (by rw [fu_eq]; omega) (by simpa using g1)
      rw [if_neg (by decide), if_neg (by decide), if_neg (by decide), if_neg (by decide), if_neg (by decide), if_neg (by decide), if_pos rfl, q0, bdS1, q1, bdS4]
      have e6 : p_X2_pushAllLetters c xn xl a1 b1 d1 wch' (nI (tvx f0 pv).length) = some (a2, b2, d2) := q2
      rw [e6, bdS3]
      refine fin a2 b2 d2 la3 ?_ (f1.tr f2)
      unfold bodyB
      rw [if_neg (by omega), if_neg (by omega), if_neg (by omega), if_pos rfl, ← List.append_assoc]
      have ef : (tvx f0 pv).flatMap (fun p => p.2.2) = (tq pv).flatMap Prod.snd := by rw [← hmap, List.flatMap_map]
      rw [ef, hlen] at g2
      exact g2
    · obtain ⟨a1, b1, d1, la2, q1, g1, f1⟩ := X_pushPlaces (la := la1) hD (by omega) gw hwp h3
      rw [if_neg (by decide), if_neg (by decide), if_neg (by decide), if_neg (by decide), if_neg (by decide), if_neg (by decide), if_neg (by decide), q1, bdS4]
      exact fin a1 b1 d1 la2 (by unfold bodyB; rw [if_neg (by omega), if_neg (by omega), if_neg (by omega), if_neg (by omega), ← hlen]; exact g1) f1
  obtain ⟨rc1, rv1, e1, g1, f1⟩ := X_clear (r := 3) (rc := rc) (rv := rv) (rb := rb)
  unfold p_X2_dataPage
  rw [e1, bdS2, hO]
  by_cases hO0 : O = 0
  · rw [if_pos (by rw [hO0])]
    obtain ⟨a1, b1, d1, la2, w2, c2, q1, g2, f2⟩ := rest rc1 rv1 rb la [] (by rw [if_neg (by omega)]) g1 (h.of_fr f1 (by omega))
    exact ⟨a1, b1, d1, la2, w2, c2, q1, g2, f1.to3.tr f2⟩
  · obtain ⟨la1, q0, g0⟩ := X_levels (la := la) hl hv
    obtain ⟨a1, b1, d1, q1, g2, f2⟩ := X_ownB (n0 := pv.length) (la := la1) (l := pv.map (fun a => lN (th a))) (by omega) (by rw [List.length_map]) g0 g1
    rw [if_neg (by rw [eqI (by omega) (by omega)]; exact hO0), q0, bdS1, subI (by omega), Nat.add_sub_cancel_left, q1, bdS3]
    obtain ⟨a3, b3, d3, la3, w3, c3, q3, g3, f3⟩ := rest a1 b1 d1 la1 (ownB (pv.map (fun a => lN (th a)))) (by rw [if_pos (show O = 1 by omega)]) (by simpa using g2) ((h.of_fr f1 (by omega)).of_fr f2 (by omega))
    exact ⟨a3, b3, d3, la3, w3, c3, q3, g3, (f1.to3.tr f2.to3).tr f3⟩
