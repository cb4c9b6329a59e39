/-! what is written of a column -/
def plsB (D : List TV) (pv : List AV) : List Int64 := (tq pv).map (fun t => lN (D.idxOf t))
def pagesB (K O code : Nat) (vals : List AV) (D : List TV) (q : Nat) : Nat → Nat → List Int32
  | 0, _ => []
  | f + 1, a => if a < vals.length then pageB K O code ((vals.drop a).take q) (plsB D ((vals.drop a).take q)) (widD D.length) ++ pagesB K O code vals D q f (a + q) else []
def dictB (K : Nat) (D : List TV) : List Int32 := headB 2 (bodyB K 0 D [] 0).length D.length 0 ++ bodyB K 0 D [] 0
def codeOf (K way : Nat) : Nat := if way = 0 then 0 else if way = 1 then 8 else if K = 2 then 6 else if K = 3 then 3 else 5
def writeB (K O : Nat) (vals : List AV) (way q : Nat) : List Int32 := (if way = 1 ∧ 0 < vals.length then dictB K (DL (tq vals)) else []) ++ pagesB K O (codeOf K way) vals (DL (tq vals)) q vals.length 0
theorem X_codeOf {K way : Nat} (hK : K ≤ 3) (hw : way ≤ 2) : p_X2_codeOf (nI K) (nI way) = some (nI (codeOf K way)) := by
  have h1 : K = 0 ∨ K = 1 ∨ K = 2 ∨ K = 3 := by omega
  have h2 : way = 0 ∨ way = 1 ∨ way = 2 := by omega
  rcases h1 with rfl | rfl | rfl | rfl <;> rcases h2 with rfl | rfl | rfl <;> decide
theorem pv_at {vals : List AV} {a q k : Nat} (h : k < ((vals.drop a).take q).length) : ∃ (h2 : a + k < vals.length), ((vals.drop a).take q)[k] = vals[a + k] := by
  have h' := h
  rw [List.length_take, List.length_drop] at h'
  refine ⟨by omega, ?_⟩
  rw [List.getElem_take, List.getElem_drop]
theorem pv_len {vals : List AV} {a q : Nat} : ((vals.drop a).take q).length = min q (vals.length - a) := by rw [List.length_take, List.length_drop]
theorem PLC.wp {wpl : Nat → Int32} {vals : List AV} (hl : vals.length ≤ 200) (h : PLC wpl vals (DL (tq vals)) vals.length) (a q : Nat) : WP wpl (tvx a ((vals.drop a).take q)) (plsB (DL (tq vals)) ((vals.drop a).take q)) := by
  have hlen := tvx_len ((vals.drop a).take q) a
  refine ⟨by unfold plsB; rw [List.length_map, hlen], fun t ht => ?_⟩
  obtain ⟨k, hk, h1, h2⟩ := tvx_at _ a t ht
  obtain ⟨h3, h4⟩ := pv_at hk
  have hv : vals[a + k] = some (tvx a ((vals.drop a).take q))[t].2 := by rw [← h4, h1]
  have hm : (tvx a ((vals.drop a).take q))[t].2 ∈ DL (tq vals) := (DL_mem _ _).mpr (tq_mem.mpr (by rw [← hv]; exact List.getElem_mem h3))
  have hlt := idx_lt hm
  have hD := DL_len (tq vals)
  have hq := tq_le vals
  refine ⟨(DL (tq vals)).idxOf (tvx a ((vals.drop a).take q))[t].2, by omega, ?_, ?_⟩
  · rw [h2]
    exact h (a + k) h3 h3 _ hv
  · unfold plsB
    rw [fn_at (by rw [List.length_map, ← hlen]; exact ht), List.getElem_map]
    congr 2
    have e := tvx_map ((vals.drop a).take q) a
    have : (tq ((vals.drop a).take q))[t]'(by rw [← hlen]; exact ht) = ((tvx a ((vals.drop a).take q)).map Prod.snd)[t]'(by rw [List.length_map]; exact ht) := by
      simp only [e]
    rw [this, List.getElem_map]
theorem X_pages_L {c K O way q : Nat} {xk xo xc : Nat → Int32} {xt : Nat → Nat → Int32} {xn : Nat → Nat → Int64} {xl : Nat → Nat → Int32} {vals : List AV} {wpl : Nat → Int32} {wun : Int32} (hl : vals.length ≤ 200) (hc : xc c = nI vals.length) (hK : xk c = nI K) (hK3 : K ≤ 3) (hO : xo c = nI O) (hO1 : O ≤ 1) (hv : ∀ (j : Nat) (h : j < vals.length), XV xt xn xl c j vals[j]) (hw : ∀ a ∈ vals, wfv K a) (hway : way ≤ 2) (hq : 1 ≤ q) (hq2 : q ≤ 200)
    (hp : way = 1 → PLC wpl vals (DL (tq vals)) vals.length ∧ wun = nI (DL (tq vals)).length) : ∀ (f n a : Nat) (L : List Int32) (rc rv : Nat → Int32) (rb : Nat → Nat → Int32) (la : Nat → Nat → Int64) (wch : Nat → Int32) (wcc : Int32), vals.length - a ≤ f → a ≤ 400 → f < n → XOut rc rv rb 2 L → ∃ rc' rv' rb' la' wch' wcc', itr7 (p_X2_writePages_L34 c (nI way) (nI q) xk xo xc xt xn xl wpl wun) n (nI a) rc rv rb la wch wcc = some (rc', rv', rb', la', wch', wcc', wpl, wun) ∧ XOut rc' rv' rb' 2 (L ++ pagesB K O (codeOf K way) vals (DL (tq vals)) q f a) ∧ Fr23 rc rv rb rc' rv' rb' := by
  intro f
  induction f with
  | zero =>
    intro n a L rc rv rb la wch wcc h1 h2 h3 h
    cases n with
    | zero => omega
    | succ n =>
      refine ⟨rc, rv, rb, la, wch, wcc, ?_, by simpa [pagesB] using h, Fr23.rf⟩
      show p_X2_writePages_L34 c (nI way) (nI q) xk xo xc xt xn xl wpl wun _ (nI a) rc rv rb la wch wcc = _
      rw [p_X2_writePages_L34, hc, if_neg (by rw [ltI (by omega) (by omega)]; omega)]
  | succ f ih =>
    intro n a L rc rv rb la wch wcc h1 h2 h3 h
    cases n with
    | zero => omega
    | succ n =>
      show ∃ rc' rv' rb' la' wch' wcc', p_X2_writePages_L34 c (nI way) (nI q) xk xo xc xt xn xl wpl wun _ (nI a) rc rv rb la wch wcc = _ ∧ _
      rw [p_X2_writePages_L34, hc, pagesB]
      by_cases ha : a < vals.length
      · have hpl := pv_len (vals := vals) (a := a) (q := q)
        have hlen : min (a + q) vals.length = a + ((vals.drop a).take q).length := by omega
        rw [if_pos (by rw [ltI (by omega) (by omega)]; exact ha), if_pos ha, hK, X_codeOf hK3 hway, bdS1, addI, iminI (by omega) (by omega), hlen]
        have hcode : codeOf K way = 0 ∨ codeOf K way = 3 ∨ (codeOf K way = 5 ∧ K ≠ 2) ∨ (codeOf K way = 6 ∧ K = 2) ∨ (codeOf K way = 8 ∧ WP wpl (tvx a ((vals.drop a).take q)) (plsB (DL (tq vals)) ((vals.drop a).take q)) ∧ wun = nI (DL (tq vals)).length ∧ (DL (tq vals)).length ≤ 200) := by
          unfold codeOf
          by_cases w0 : way = 0
          · rw [if_pos w0]; exact Or.inl rfl
          · rw [if_neg w0]
            by_cases w1 : way = 1
            · rw [if_pos w1]
              have hD := DL_len (tq vals)
              have hq := tq_le vals
              exact Or.inr (Or.inr (Or.inr (Or.inr ⟨rfl, (hp w1).1.wp hl a q, (hp w1).2, by omega⟩)))
            · rw [if_neg w1]
              by_cases k2 : K = 2
              · rw [if_pos k2]; exact Or.inr (Or.inr (Or.inr (Or.inl ⟨rfl, k2⟩)))
              · rw [if_neg k2]
                by_cases k3 : K = 3
                · rw [if_pos k3]; exact Or.inr (Or.inl rfl)
                · rw [if_neg k3]; exact Or.inr (Or.inr (Or.inl ⟨rfl, k2⟩))
        obtain ⟨a1, b1, d1, la1, w1, c1, e1, g1, f1⟩ := X_dataPage (c := c) (f0 := a) (K := K) (O := O) (code := codeOf K way) (D := (DL (tq vals)).length) (xk := xk) (xo := xo) (pv := (vals.drop a).take q) (pls := plsB (DL (tq vals)) ((vals.drop a).take q)) (la := la) (wch := wch) (wpl := wpl) (wcc := wcc) (wun := wun) hK hK3 hO hO1 (by omega) (fun j hj => by
            obtain ⟨h5, h6⟩ := pv_at hj
            rw [h6]
            exact hv _ h5) (fun x hx => hw x (List.mem_of_mem_drop (List.mem_of_mem_take hx))) hcode h
        rw [e1, bdS6]
        obtain ⟨a2, b2, d2, la2, w2, c2, e2, g2, f2⟩ := ih n (a + q) _ a1 b1 d1 la1 w1 c1 (by omega) (by omega) (by omega) g1
        exact ⟨a2, b2, d2, la2, w2, c2, e2, by simpa [List.append_assoc] using g2, f1.tr f2⟩
      · rw [if_neg (by rw [ltI (by omega) (by omega)]; exact ha), if_neg ha]
        exact ⟨rc, rv, rb, la, wch, wcc, rfl, by simpa using h, Fr23.rf⟩
theorem X_writePages {c K O way q : Nat} {xk xo xc : Nat → Int32} {xt : Nat → Nat → Int32} {xn : Nat → Nat → Int64} {xl : Nat → Nat → Int32} {vals : List AV} {wch wpl : Nat → Int32} {wcc wun : Int32} {la : Nat → Nat → Int64} {rc rv : Nat → Int32} {rb : Nat → Nat → Int32} (hl : vals.length ≤ 200) (hc : xc c = nI vals.length) (hK : xk c = nI K) (hK3 : K ≤ 3) (hO : xo c = nI O) (hO1 : O ≤ 1) (hv : ∀ (j : Nat) (h : j < vals.length), XV xt xn xl c j vals[j]) (hw : ∀ a ∈ vals, wfv K a) (hway : way ≤ 2) (hq : 1 ≤ q) (hq2 : q ≤ 200) (h13 : way = 1 → K ≠ 3) :
    ∃ rc' rv' rb' la' wch' wcc' wpl' wun', p_X2_writePages c (nI way) (nI q) xk xo xc xt xn xl rc rv rb la wch wcc wpl wun = some (rc', rv', rb', la', wch', wcc', wpl', wun') ∧ XOut rc' rv' rb' 2 (writeB K O vals way q) ∧ Fr23 rc rv rb rc' rv' rb' := by
  obtain ⟨rc1, rv1, e1, g1, f1⟩ := X_clear (r := 2) (rc := rc) (rv := rv) (rb := rb)
  unfold p_X2_writePages writeB
  rw [e1, bdS2, imaxI (by omega) (by omega), Nat.max_eq_left hq, hc]
  by_cases w1 : way = 1
  · rw [if_pos (by rw [w1])]
    by_cases h0 : 0 < vals.length
    · rw [if_pos (by rw [ltI (by omega) (by omega)]; exact h0), if_pos ⟨w1, h0⟩]
      obtain ⟨rc2, rv2, e2, g2, f2⟩ := X_clear (r := 3) (rc := rc1) (rv := rv1) (rb := rb)
      obtain ⟨wch3, wpl3, cs, e3, m3, c3, v3, p3⟩ := X_unlike (wch := wch) (wpl := wpl) (wcc := wcc) (wun := wun) hl hc hK hK3 hv hw
      have hcs : cs.length = (DL (tq vals)).length := by rw [← m3, List.length_map]
      have hD := DL_len (tq vals)
      have hqq := tq_le vals
      have hok : ∀ p ∈ cs, TVok K p.2 := by
        intro p hp
        have : p.2 ∈ DL (tq vals) := by rw [← m3]; exact List.mem_map.mpr ⟨p, hp, rfl⟩
        exact TVok_of (hw _ (tq_mem.mp ((DL_mem _ _).mp this)))
      obtain ⟨a4, b4, d4, la4, e4, g4, f4⟩ := X_pushPlain (la := la) hK hK3 (by omega) c3 v3 hok g2
      rw [m3, List.nil_append] at g4
      have hbD : b8L (bodyB K 0 (DL (tq vals)) [] 0) := b8L_body (fun t ht => (hw _ (tq_mem.mp ((DL_mem _ _).mp ht))).2.1)
      obtain ⟨a5, b5, d5, a6, b6, d6, e5, e6, g6, f6⟩ := X_fin (what := 2) (cnt := cs.length) (code := 0) (by omega) (by omega) (by omega) hbD g4 ((g1.of_fr f2 (by omega)).of_fr f4 (by omega))
      have edp : p_X2_dictionaryPage c xk xc xt xn xl rc1 rv1 rb la wch wcc wpl wun = some (a6, b6, d6, la4, wch3, nI cs.length, wpl3, nI cs.length) := by
        unfold p_X2_dictionaryPage
        rw [e2, bdS2, e3, bdS4, e4, bdS4, e5, bdS3, e6, bdS3]
      rw [edp, bdS8]
      rw [hcs] at g6
      obtain ⟨a7, b7, d7, la7, w7, c7, e7, g7, f7⟩ := X_pages_L (c := c) (K := K) (O := O) (way := way) (q := q) (wpl := wpl3) (wun := nI cs.length) hl hc hK hK3 hO hO1 hv hw hway hq hq2 (fun _ => ⟨p3, by rw [hcs]⟩) vals.length fu 0 _ a6 b6 d6 la4 wch3 (nI cs.length) (by omega) (by omega) (by rw [fu_eq]; omega) g6
      exact ⟨a7, b7, d7, la7, w7, c7, wpl3, nI cs.length, e7, by simpa [dictB] using g7, (((f1.to2.tr f2.to3).tr f4.to3).tr f6).tr f7⟩
    · rw [if_neg (by rw [ltI (by omega) (by omega)]; exact h0), if_neg (fun h => h0 h.2)]
      have ep : pagesB K O (codeOf K way) vals (DL (tq vals)) q vals.length 0 = [] := by
        have : vals.length = 0 := by omega
        rw [this]
        rfl
      rw [ep]
      have ef : ∃ m, fu = m + 1 := ⟨1048575, rfl⟩
      obtain ⟨m, ef⟩ := ef
      refine ⟨rc1, rv1, rb, la, wch, wcc, wpl, wun, ?_, by simpa using g1, f1.to2⟩
      rw [ef]
      show p_X2_writePages_L34 c (nI way) (nI q) xk xo xc xt xn xl wpl wun _ (nI 0) rc1 rv1 rb la wch wcc = _
      rw [p_X2_writePages_L34, hc, if_neg (by rw [ltI (by omega) (by omega)]; omega)]
  · rw [if_neg (by rw [eqI (by omega) (by omega)]; exact w1), if_neg (fun h => w1 h.1), List.nil_append]
    obtain ⟨a7, b7, d7, la7, w7, c7, e7, g7, f7⟩ := X_pages_L (c := c) (K := K) (O := O) (way := way) (q := q) (wpl := wpl) (wun := wun) hl hc hK hK3 hO hO1 hv hw hway hq hq2 (fun h => absurd h w1) vals.length fu 0 [] rc1 rv1 rb la wch wcc (by omega) (by omega) (by rw [fu_eq]; omega) g1
    exact ⟨a7, b7, d7, la7, w7, c7, wpl, wun, e7, by simpa using g7, f1.to2.tr f7⟩
