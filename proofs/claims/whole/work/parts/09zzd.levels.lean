/-! levels: which values are there -/
abbrev PG : Type := Int32 × (Nat → Int32) × (Nat → Int32) × (Nat → Int64) × (Nat → Int32) × (Nat → Int64) × Int32 × Int32 × Int32 × Int32 × Int32 × Int32 × Int32 × Int32 × (Nat → Int32) × Int32 × Int32 × Int32 × Int32 × Int32 × (Nat → Int32)
def cnt (lv : Nat → Nat) : Nat → Nat
  | 0 => 0
  | j + 1 => cnt lv j + lv j
theorem cnt_le {lv : Nat → Nat} (h : ∀ t, lv t ≤ 1) : ∀ j, cnt lv j ≤ j := by
  intro j
  induction j with
  | zero => exact Nat.le_refl _
  | succ j ih =>
    have := h j
    show cnt lv j + lv j ≤ j + 1
    omega
theorem cnt_mono {lv : Nat → Nat} {i : Nat} : ∀ j, i ≤ j → cnt lv i ≤ cnt lv j := by
  intro j
  induction j with
  | zero =>
    intro h
    have : i = 0 := by omega
    rw [this]
    exact Nat.le_refl _
  | succ j ih =>
    intro h
    by_cases e : i = j + 1
    · rw [e]; exact Nat.le_refl _
    · have := ih (by omega)
      show _ ≤ cnt lv j + lv j
      omega
def mixA (lv : Nat → Nat) (ts : List TV) (i : Nat) : AV := if lv i = 0 then none else ts[cnt lv i]?
theorem mixA_wf {lv : Nat → Nat} {ts : List TV} {K : Nat} (h : ∀ t ∈ ts, TVok K t) (i : Nat) : wfv K (mixA lv ts i) := by
  unfold mixA
  split
  · exact wfv_none
  · by_cases hi : cnt lv i < ts.length
    · rw [List.getElem?_eq_getElem hi]
      exact wfv_of (h _ (List.getElem_mem hi))
    · rw [List.getElem?_eq_none (by omega)]
      exact wfv_none
def lvF (mn : Nat → Int64) (t : Nat) : Nat := if mn t = lN 1 then 1 else 0
theorem lvF_le (mn : Nat → Int64) (t : Nat) : lvF mn t ≤ 1 := by
  unfold lvF
  split <;> omega
theorem L_ones_L {N : Nat} {la : Nat → Nat → Int64} {mn : Nat → Int64} {kz : Int32 → (Nat → Int32) → Option PG} (hk : Lk 1 N la mn) (hh : ∀ t, t < N → hiB 1 (mn t)) (hN : N ≤ 200) : ∀ (m n j : Nat) (ml : Nat → Int32), N - j = m → j ≤ N → m < n → (∀ t, t < j → ml t = nI (lvF mn t)) → ∃ ml', (∀ t, t < N → ml' t = nI (lvF mn t)) ∧ itr2 (p_X1_countOnes_L4 (nI N) la (nI 0)) n (nI (cnt (lvF mn) j)) (nI j) = some (nI (cnt (lvF mn) N)) ∧ itr3 (p_X6_readPage_L217 mn (nI N) kz) n (nI (cnt (lvF mn) j)) (nI j) ml = kz (nI (cnt (lvF mn) N)) ml' := by
  have es : p_X4_isSound (nI 0) = some (nI 1) := rfl
  have n1 : ¬ nI 1 = nI 0 := by decide
  intro m
  induction m with
  | zero =>
    intro n j ml h1 h2 h3 h4
    have : j = N := by omega
    subst this
    cases n with
    | zero => omega
    | succ n =>
      refine ⟨ml, h4, ?_, ?_⟩
      · show p_X1_countOnes_L4 (nI j) la (nI 0) _ _ (nI j) = _
        rw [p_X1_countOnes_L4, if_neg (by rw [ltI (by omega) (by omega)]; omega)]
      · show p_X6_readPage_L217 mn (nI j) kz _ _ (nI j) ml = _
        rw [p_X6_readPage_L217, if_neg (by rw [ltI (by omega) (by omega)]; omega)]
  | succ m ih =>
    intro n j ml h1 h2 h3 h4
    cases n with
    | zero => omega
    | succ n =>
      obtain ⟨ml2, r1, r2, r3⟩ := ih n (j + 1) (up ml j (nI (lvF mn j))) (by omega) (by omega) (by omega) (fun t ht => by
        by_cases e : t = j
        · rw [e, up_s]
        · rw [up_n e]; exact h4 t (by omega))
      obtain ⟨x, hx, hxe⟩ := hiB_nat (hh j (by omega))
      refine ⟨ml2, r1, ?_, ?_⟩
      · show p_X1_countOnes_L4 (nI N) la (nI 0) _ _ (nI j) = _
        rw [p_X1_countOnes_L4, if_pos (by rw [ltI (by omega) (by omega)]; omega), if_pos (by rw [ltI (by omega) (by omega)]; omega), es, bdS1, if_neg n1, inbI (by omega), gdD (by omega), ixI (by omega), hk j (by omega), addI, addI, addI]
        have hx2 : x = 0 ∨ x = 1 := by omega
        rcases hx2 with rfl | rfl
        · rw [if_pos hxe]
          have e : cnt (lvF mn) (j + 1) = cnt (lvF mn) j + 0 := by
            show cnt (lvF mn) j + lvF mn j = _
            unfold lvF
            rw [hxe, if_neg (by decide)]
          rw [← e]
          exact r2
        · rw [if_neg (by rw [hxe]; decide)]
          have e : cnt (lvF mn) (j + 1) = cnt (lvF mn) j + 1 := by
            show cnt (lvF mn) j + lvF mn j = _
            unfold lvF
            rw [hxe, if_pos rfl]
          rw [← e]
          exact r2
      · show p_X6_readPage_L217 mn (nI N) kz _ _ (nI j) ml = _
        have h249 : ∀ s : Nat, s ≤ 1 → lvF mn j = s → p_X6_readPage_J249 (nI (cnt (lvF mn) j)) (nI j) (nI j) (nI s) ml (fun a b c => itr3 (p_X6_readPage_L217 mn (nI N) kz) n a b c) = kz (nI (cnt (lvF mn) N)) ml2 := by
          intro s hs hl
          have e : cnt (lvF mn) (j + 1) = cnt (lvF mn) j + s := by
            show cnt (lvF mn) j + lvF mn j = _
            rw [hl]
          rw [hl, e] at r3
          rw [p_X6_readPage_J249, inbI (by omega), gdD (by omega), gdT (isB_n hs), gdD (by omega), ixI (by omega), up_s, addI, addI, addI]
          have hs2 : s = 0 ∨ s = 1 := by omega
          rcases hs2 with rfl | rfl
          · rw [if_pos rfl]; exact r3
          · rw [if_neg n1]; exact r3
        rw [p_X6_readPage_L217, if_pos (by rw [ltI (by omega) (by omega)]; omega), inbI (by omega), gdD (by omega), ixI (by omega)]
        by_cases h : mn j = lN 1
        · rw [if_pos h]
          exact h249 1 (by omega) (by unfold lvF; rw [if_pos h])
        · rw [if_neg h]
          exact h249 0 (by omega) (by unfold lvF; rw [if_neg h])
theorem L_all_L {N : Nat} {kz : (Nat → Int32) → Option PG} (hN : N ≤ 200) : ∀ (m n j : Nat) (ml : Nat → Int32), N - j = m → j ≤ N → m < n → (∀ t, t < j → ml t = nI 1) → ∃ ml', (∀ t, t < N → ml' t = nI 1) ∧ itr2 (p_X6_readPage_L127 (nI N) kz) n (nI j) ml = kz ml' := by
  intro m
  induction m with
  | zero =>
    intro n j ml h1 h2 h3 h4
    have : j = N := by omega
    subst this
    cases n with
    | zero => omega
    | succ n =>
      refine ⟨ml, h4, ?_⟩
      show p_X6_readPage_L127 (nI j) kz _ (nI j) ml = _
      rw [p_X6_readPage_L127, if_neg (by rw [ltI (by omega) (by omega)]; omega)]
  | succ m ih =>
    intro n j ml h1 h2 h3 h4
    cases n with
    | zero => omega
    | succ n =>
      obtain ⟨ml2, r1, r2⟩ := ih n (j + 1) (up ml j (nI 1)) (by omega) (by omega) (by omega) (fun t ht => by
        by_cases e : t = j
        · rw [e, up_s]
        · rw [up_n e]; exact h4 t (by omega))
      refine ⟨ml2, r1, ?_⟩
      show p_X6_readPage_L127 (nI N) kz _ (nI j) ml = _
      rw [p_X6_readPage_L127, if_pos (by rw [ltI (by omega) (by omega)]; omega), inbI (by omega), gdD (by omega), ixI (by omega), addI]
      exact r2
theorem X_spread_L {K B N : Nat} {xk xc : Nat → Int32} {la : Nat → Nat → Int64} {lv : Nat → Nat} {ts : List TV} {pre : Nat → AV} (hK : xk 4 = nI K) (hK3 : K ≤ 3) (hN : B + N ≤ 200) (hl : ∀ t, lv t ≤ 1) (hla : ∀ t, t < N → la 1 t = lN (lv t)) (hts : ts.length = cnt lv N) (hw : ∀ t ∈ ts, TVok K t) (hpre : ∀ j, (le (pre j)).length ≤ 40) : ∀ (i n : Nat) (xt : Nat → Nat → Int32) (xn : Nat → Nat → Int64) (xl : Nat → Nat → Int32), i ≤ N → i < n → (∀ t, i ≤ t → t < N → XV xt xn xl 4 (B + t) (mixA lv ts t)) → (∀ (j : Nat) (h : j < ts.length), j < cnt lv i → XV xt xn xl 4 (B + j) (some ts[j])) → (∀ t, t < B → XV xt xn xl 4 t (pre t)) → ∃ xt' xn' xl', itr5 (p_X0_spread_L11 4 (nI B) (nI N) 1 xk xc la) n (nI (B + cnt lv i)) (dn i) xt xn xl = some (up xc 4 (nI (B + N)), xt', xn', xl') ∧ (∀ t, t < N → XV xt' xn' xl' 4 (B + t) (mixA lv ts t)) ∧ (∀ t, t < B → XV xt' xn' xl' 4 t (pre t)) ∧ FrC 4 xt xn xl xt' xn' xl' := by
  intro i
  induction i with
  | zero =>
    intro n xt xn xl h1 h2 h3 h4 h5
    cases n with
    | zero => omega
    | succ n =>
      refine ⟨xt, xn, xl, ?_, fun t ht => h3 t (by omega) ht, h5, FrC.rf⟩
      show p_X0_spread_L11 4 (nI B) (nI N) 1 xk xc la _ _ (dn 0) xt xn xl = _
      rw [p_X0_spread_L11, if_pos dn_0, addI, iminI (by omega) (by omega), Nat.min_eq_left hN]
  | succ i ih =>
    intro n xt xn xl h1 h2 h3 h4 h5
    cases n with
    | zero => omega
    | succ n =>
      have hci := cnt_le hl i
      have hcm := cnt_mono (lv := lv) (i := i + 1) N h1
      have hc1 : cnt lv (i + 1) = cnt lv i + lv i := rfl
      have hmw := mixA_wf (lv := lv) hw i
      -- the place B + i gets its value
      have step : ∀ (xt2 : Nat → Nat → Int32) (xn2 : Nat → Nat → Int64) (xl2 : Nat → Nat → Int32), xt2 = up xt 4 (up (xt 4) (B + i) (nI (th (mixA lv ts i)))) → xn2 = up xn 4 (up (xn 4) (B + i) (nu (mixA lv ts i))) → xl2 = up xl 4 (wr (xl 4) ((B + i) * 40) (le (mixA lv ts i))) → ∃ xt' xn' xl', itr5 (p_X0_spread_L11 4 (nI B) (nI N) 1 xk xc la) n (nI (B + cnt lv i)) (dn i) xt2 xn2 xl2 = some (up xc 4 (nI (B + N)), xt', xn', xl') ∧ (∀ t, t < N → XV xt' xn' xl' 4 (B + t) (mixA lv ts t)) ∧ (∀ t, t < B → XV xt' xn' xl' 4 t (pre t)) ∧ FrC 4 xt xn xl xt' xn' xl' := by
        intro xt2 xn2 xl2 e1 e2 e3
        subst e1 e2 e3
        obtain ⟨xt', xn', xl', g1, g2, g3, g4⟩ := ih n (up xt 4 (up (xt 4) (B + i) (nI (th (mixA lv ts i))))) (up xn 4 (up (xn 4) (B + i) (nu (mixA lv ts i)))) (up xl 4 (wr (xl 4) ((B + i) * 40) (le (mixA lv ts i)))) (by omega) (by omega) (fun t ht1 ht2 => by
            by_cases e : t = i
            · rw [e]; exact XV_set _
            · exact XV_set_n (by omega) hmw.1 (mixA_wf (lv := lv) hw t).1 (h3 t (by omega) ht2)) (fun j hj hjc => XV_set_n (by omega) hmw.1 (hw _ (List.getElem_mem hj)).1 (h4 j hj (by omega))) (fun t ht => XV_set_n (by omega) hmw.1 (hpre t) (h5 t ht))
        exact ⟨xt', xn', xl', g1, g2, g3, FrC.tr (fun d hd => ⟨up_n hd, up_n hd, up_n hd⟩) g4⟩
      have hX : itr5 (p_X0_spread_L11 4 (nI B) (nI N) 1 xk xc la) (n + 1) (nI (B + cnt lv (i + 1))) (dn (i + 1)) xt xn xl = p_X0_spread_L11 4 (nI B) (nI N) 1 xk xc la (fun a b c d f => itr5 (p_X0_spread_L11 4 (nI B) (nI N) 1 xk xc la) n a b c d f) (nI (B + cnt lv (i + 1))) (dn (i + 1)) xt xn xl := rfl
      rw [hX, p_X0_spread_L11, dn_s, if_neg (show ¬ nI i < nI 0 by rw [ltI (by omega) (by omega)]; omega), if_pos (show nI i < nI 200 by rw [ltI (by omega) (by omega)]; omega), inbI (by omega), gdD (by omega), ixI (by omega), hla i (by omega), dn_d, dn_d, addI]
      by_cases hz : lv i = 0
      · have em : mixA lv ts i = none := by unfold mixA; rw [if_pos hz]
        rw [if_pos (show lN (lv i) = lN 0 by rw [hz])]
        have es : p_X0_setNone 4 (nI (B + i)) xt xn = some (up xt 4 (up (xt 4) (B + i) (nI 0)), up xn 4 (up (xn 4) (B + i) (lN 0))) := by
          unfold p_X0_setNone
          rw [if_neg (by rw [ltI (by omega) (by omega)]; omega), if_pos (by rw [ltI (by omega) (by omega)]; omega), inbI (by omega), gdD (by omega), gdD (by omega), ixI (by omega)]
        rw [es, bdS2, show cnt lv (i + 1) = cnt lv i by omega]
        exact step _ _ _ (by rw [em]; rfl) (by rw [em]; rfl) (by rw [em]; show xl = up xl 4 (wr (xl 4) ((B + i) * 40) []); rw [wr_nil, up_id])
      · have h1i : lv i = 1 := by have := hl i; omega
        have hlt : cnt lv i < ts.length := by omega
        have em : mixA lv ts i = some ts[cnt lv i] := by unfold mixA; rw [if_neg hz, List.getElem?_eq_getElem hlt]
        rw [if_neg (show ¬ lN (lv i) = lN 0 by rw [h1i]; decide), show B + cnt lv (i + 1) = (B + cnt lv i) + 1 by omega, dn_s, X_setCopy (a := some ts[cnt lv i]) (by omega) (by omega) hK hK3 (wfv_of (hw _ (List.getElem_mem hlt))) (h4 _ hlt (by omega)), bdS3]
        exact step _ _ _ (by rw [em]) (by rw [em]) (by rw [em])
theorem M_spread_L {K B N : Nat} {lv : Nat → Nat} {ts : List TV} {g : Nat → AV} {mn : Nat → Int64} {ma me mpg mdi mbl mby : Int32} {mw : Nat → Int32} {mz mso mbo mcd : Int32} {ml : Nat → Int32} (hN : B + N ≤ 200) (hl : ∀ t, lv t ≤ 1) (hml : ∀ t, t < N → ml t = nI (lv t)) (hts : ts.length = cnt lv N) (hw : ∀ t ∈ ts, TVok K t) (hg : ∀ t, t < N → g (B + t) = mixA lv ts t) : ∀ (m n i : Nat) (mm mt : Nat → Int32) (mv : Nat → Int64) (mx : Nat → Int32), N - i = m → i ≤ N → m < n → mm 4 = nI (B + i) → (∀ t, t < B + i → MV mt mv mx (200 * 4 + t) (g t)) → (∀ (j : Nat) (h : j < ts.length), MV mt mv mx (200 * 6 + j) (some ts[j])) →
    ∃ mm' mt' mv' mx', mm' 4 = nI (B + N) ∧ (∀ t, t < B + N → MV mt' mv' mx' (200 * 4 + t) (g t)) ∧ FrN 4 mm mt mv mx mm' mt' mv' mx' ∧ itr6 (p_X6_readPage_L302 mn ma me (nI 0) (nI 0) mpg mdi mbl mby mw mz mso mbo (nI N) mcd ml) n (nI (cnt lv i)) (nI i) mm mt mv mx = some (nI 1, mm', mt', mv', mx', mn, ma, me, nI 0, nI 0, mpg + nI 1, mdi, mbl, mby, mw, mz, mso, mbo, nI N, mcd, ml) := by
  have n1 : ¬ nI 1 = nI 0 := by decide
  intro m
  induction m with
  | zero =>
    intro n i mm mt mv mx h1 h2 h3 h4 h5 h6
    have : i = N := by omega
    subst this
    cases n with
    | zero => omega
    | succ n =>
      refine ⟨mm, mt, mv, mx, h4, h5, FrN.rf, ?_⟩
      show p_X6_readPage_L302 mn ma me (nI 0) (nI 0) mpg mdi mbl mby mw mz mso mbo (nI i) mcd ml _ _ (nI i) mm mt mv mx = _
      rw [p_X6_readPage_L302, if_neg (by rw [ltI (by omega) (by omega)]; omega)]
  | succ m ih =>
    intro n i mm mt mv mx h1 h2 h3 h4 h5 h6
    cases n with
    | zero => omega
    | succ n =>
      have hci := cnt_le hl i
      have hcm := cnt_mono (lv := lv) (i := i + 1) N (by omega)
      have hc1 : cnt lv (i + 1) = cnt lv i + lv i := rfl
      have key : ∀ a : AV, a = mixA lv ts i → ∃ mm' mt' mv' mx', mm' 4 = nI (B + N) ∧ (∀ t, t < B + N → MV mt' mv' mx' (200 * 4 + t) (g t)) ∧ FrN 4 mm mt mv mx mm' mt' mv' mx' ∧ itr6 (p_X6_readPage_L302 mn ma me (nI 0) (nI 0) mpg mdi mbl mby mw mz mso mbo (nI N) mcd ml) n (nI (cnt lv (i + 1))) (nI (i + 1)) (up mm 4 (nI (B + i + 1))) (up mt (200 * 4 + (B + i)) (nI (th a))) (up mv (200 * 4 + (B + i)) (nu a)) (wr mx (40 * (200 * 4 + (B + i))) (l40 (le a))) = some (nI 1, mm', mt', mv', mx', mn, ma, me, nI 0, nI 0, mpg + nI 1, mdi, mbl, mby, mw, mz, mso, mbo, nI N, mcd, ml) := by
        intro a ha
        obtain ⟨mm2, mt2, mv2, mx2, r1, r2, r3, r4⟩ := ih n (i + 1) (up mm 4 (nI (B + i + 1))) (up mt (200 * 4 + (B + i)) (nI (th a))) (up mv (200 * 4 + (B + i)) (nu a)) (wr mx (40 * (200 * 4 + (B + i))) (l40 (le a))) (by omega) (by omega) (by omega) up_s (fun t ht => by
            by_cases e : t = B + i
            · rw [e, hg i (by omega), ← ha]; exact MV_wr a
            · exact MV_wr_n (by omega) (h5 t (by omega))) (fun j hj => MV_wr_n (by omega) (h6 j hj))
        exact ⟨mm2, mt2, mv2, mx2, r1, r2, FrN.tr (FrN.put a (by omega)) r3, r4⟩
      have hM : itr6 (p_X6_readPage_L302 mn ma me (nI 0) (nI 0) mpg mdi mbl mby mw mz mso mbo (nI N) mcd ml) (n + 1) (nI (cnt lv i)) (nI i) mm mt mv mx = p_X6_readPage_L302 mn ma me (nI 0) (nI 0) mpg mdi mbl mby mw mz mso mbo (nI N) mcd ml (fun a b c d f g => itr6 (p_X6_readPage_L302 mn ma me (nI 0) (nI 0) mpg mdi mbl mby mw mz mso mbo (nI N) mcd ml) n a b c d f g) (nI (cnt lv i)) (nI i) mm mt mv mx := rfl
      rw [hM, p_X6_readPage_L302, if_pos (by rw [ltI (by omega) (by omega)]; omega), inbI (by omega), gdD (by omega), ixI (by omega), hml i (by omega), M_adds (by omega) (by omega) h4 (by omega), M_adds (by omega) (by omega) h4 (by omega), bdS5, bdS5, addI, addI, addI, addI]
      by_cases hz : lv i = 0
      · have em : mixA lv ts i = none := by unfold mixA; rw [if_pos hz]
        rw [if_pos (show nI (lv i) = nI 0 by rw [hz])]
        have := key none em.symm
        rw [show cnt lv (i + 1) = cnt lv i by omega] at this
        exact this
      · have h1i : lv i = 1 := by have := hl i; omega
        have hlt : cnt lv i < ts.length := by omega
        have em : mixA lv ts i = some ts[cnt lv i] := by unfold mixA; rw [if_neg hz, List.getElem?_eq_getElem hlt]
        have ht : TVok K ts[cnt lv i] := hw _ (List.getElem_mem hlt)
        have ec := M_copies (s1 := 200 * 4 + (B + i)) (s2 := 200 * 6 + cnt lv i) (mt := up mt (200 * 4 + (B + i)) (nI 1)) (mv := up mv (200 * 4 + (B + i)) (lN 0)) (mx := wr mx (40 * (200 * 4 + (B + i))) (l40 [])) (a := some ts[cnt lv i]) (by omega) (by omega) ht.2.1 (MV_wr_n (a := some (lN 0, [])) (by omega) (h6 _ hlt))
        rw [up_up, up_up, wr_40] at ec
        rw [if_neg (show ¬ nI (lv i) = nI 0 by rw [h1i]; exact n1), ec, bdS3]
        have := key (some ts[cnt lv i]) em.symm
        rw [show cnt lv (i + 1) = cnt lv i + 1 by omega] at this
        exact this
