/-! what was read becomes the column -/
theorem X_become_L {c K : Nat} {xk xo : Nat → Int32} {vals : List AV} (hc : c < 4) (hK : xk c = nI K) (hK3 : K ≤ 3) (hw : ∀ a ∈ vals, wfv K a) (hl : vals.length ≤ 200) : ∀ (m n j : Nat) (xc : Nat → Int32) (xt : Nat → Nat → Int32) (xn : Nat → Nat → Int64) (xl : Nat → Nat → Int32), vals.length - j = m → j ≤ vals.length → m < n → xc 4 = nI vals.length → xc c = nI j → (∀ (i : Nat) (h : i < vals.length), XV xt xn xl 4 i vals[i]) → (∀ (i : Nat) (h : i < vals.length), i < j → XV xt xn xl c i vals[i]) → ∃ xt' xn' xl', itr5 (p_X0_become_L14 c 4 xk xo) n (nI j) xc xt xn xl = some (xk, xo, up xc c (nI vals.length), xt', xn', xl') ∧ (∀ (i : Nat) (h : i < vals.length), XV xt' xn' xl' c i vals[i]) ∧ FrC c xt xn xl xt' xn' xl' := by
  intro m
  induction m with
  | zero =>
    intro n j xc xt xn xl h1 h2 h3 h4 h5 h6 h7
    have : j = vals.length := by omega
    subst this
    cases n with
    | zero => omega
    | succ n =>
      refine ⟨xt, xn, xl, ?_, fun i hi => h7 i hi hi, FrC.rf⟩
      show p_X0_become_L14 c 4 xk xo _ (nI vals.length) xc xt xn xl = _
      rw [p_X0_become_L14, h4, if_neg (by rw [ltI (by omega) (by omega)]; omega), ← h5, up_id]
  | succ m ih =>
    intro n j xc xt xn xl h1 h2 h3 h4 h5 h6 h7
    cases n with
    | zero => omega
    | succ n =>
      have hj : j < vals.length := by omega
      have hwj := hw _ (List.getElem_mem hj)
      have e1 := X_setCopy (c := c) (i := j) (c2 := 4) (j := j) (by omega) (by omega) hK hK3 hwj (h6 j hj)
      obtain ⟨xt2, xn2, xl2, e2, g2, f2⟩ := ih n (j + 1) (up xc c (nI (j + 1))) (up xt c (up (xt c) j (nI (th vals[j])))) (up xn c (up (xn c) j (nu vals[j]))) (up xl c (wr (xl c) (j * 40) (le vals[j]))) (by omega) (by omega) (by omega) (by rw [up_n (show 4 ≠ c by omega)]; exact h4) up_s (fun i hi => by
        obtain ⟨a1, b1, d1⟩ := h6 i hi
        exact ⟨by rw [up_n (show 4 ≠ c by omega)]; exact a1, by rw [up_n (show 4 ≠ c by omega)]; exact b1, fun k hk => by rw [up_n (show 4 ≠ c by omega)]; exact d1 k hk⟩) (fun i hi hij => by
        by_cases e : i = j
        · subst e
          exact XV_set _
        · exact XV_set_n e hwj.1 (hw _ (List.getElem_mem hi)).1 (h7 i hi (by omega)))
      refine ⟨xt2, xn2, xl2, ?_, g2, FrC.tr (fun d hd => ⟨up_n hd, up_n hd, up_n hd⟩) f2⟩
      have ep : p_X0_pushCopy c 4 (nI j) xk xc xt xn xl = some (up xc c (nI (j + 1)), up xt c (up (xt c) j (nI (th vals[j]))), up xn c (up (xn c) j (nu vals[j])), up xl c (wr (xl c) (j * 40) (le vals[j]))) := by
        unfold p_X0_pushCopy
        rw [h5, if_neg (by rw [ltI (by omega) (by omega)]; omega), if_pos (by rw [ltI (by omega) (by omega)]; omega), e1, bdS3, addI]
      show p_X0_become_L14 c 4 xk xo _ (nI j) xc xt xn xl = _
      rw [p_X0_become_L14, h4, if_pos (by rw [ltI (by omega) (by omega)]; omega), ep, bdS4, addI]
      refine e2.trans ?_
      rw [up_up]
theorem M_become_L {c K : Nat} {vals : List AV} {mm : Nat → Int32} {mn : Nat → Int64} {ma me mb mba mpg mdi mbl mby : Int32} {mw : Nat → Int32} {mz mso mbo mco mcd : Int32} {ml : Nat → Int32} {mr : Int32} (hc : c < 4) (hw : ∀ a ∈ vals, wfv K a) (hl : vals.length ≤ 200) (h4 : mm 4 = nI vals.length) : ∀ (m n j : Nat) (mt : Nat → Int32) (mv : Nat → Int64) (mx : Nat → Int32), vals.length - j = m → j ≤ vals.length → m < n → MCol mt mv mx 4 vals → (∀ (i : Nat) (h : i < vals.length), i < j → MV mt mv mx (200 * c + i) vals[i]) → ∃ mt' mv' mx', itr4 (p_X6_read_L105 (nI c) mm mn ma me mb mba mpg mdi mbl mby mw mz mso mbo mco mcd ml mr) n (nI j) mt mv mx = some (mm c, mm, mt', mv', mx', mn, ma, me, mb, mba, mpg, mdi, mbl, mby, mw, mz, mso, mbo, mco, mcd, ml, mr) ∧ MCol mt' mv' mx' c vals ∧ FrM c mt mv mx mt' mv' mx' := by
  intro m
  induction m with
  | zero =>
    intro n j mt mv mx h1 h2 h3 h5 h6
    have : j = vals.length := by omega
    subst this
    cases n with
    | zero => omega
    | succ n =>
      refine ⟨mt, mv, mx, ?_, fun i hi => h6 i hi hi, fun _ _ _ h => h⟩
      show p_X6_read_L105 (nI c) mm mn ma me mb mba mpg mdi mbl mby mw mz mso mbo mco mcd ml mr _ (nI vals.length) mt mv mx = _
      rw [p_X6_read_L105, gdT (by decide), show ix (nI 4) = 4 from rfl, h4, if_neg (by rw [ltI (by omega) (by omega)]; omega), inbI (by omega), gdD (by omega), ixI (by omega)]
  | succ m ih =>
    intro n j mt mv mx h1 h2 h3 h5 h6
    cases n with
    | zero => omega
    | succ n =>
      have hj : j < vals.length := by omega
      have hwj := hw _ (List.getElem_mem hj)
      have e1 := M_copies (s1 := 200 * c + j) (s2 := 800 + j) (by omega) (by omega) hwj.2.1 (h5 j hj)
      obtain ⟨mt2, mv2, mx2, e2, g2, f2⟩ := ih n (j + 1) (up mt (200 * c + j) (nI (th vals[j]))) (up mv (200 * c + j) (nu vals[j])) (wr mx (40 * (200 * c + j)) (l40 (le vals[j]))) (by omega) (by omega) (by omega) (fun i hi => MV_wr_n (a := vals[j]) (s := 200 * c + j) (by omega) (h5 i hi)) (fun i hi hij => by
        by_cases e : i = j
        · subst e
          exact MV_wr _
        · exact MV_wr_n (by omega) (h6 i hi (by omega)))
      refine ⟨mt2, mv2, mx2, ?_, g2, fun s a hs hv => f2 s a hs (MV_wr_n (by omega) hv)⟩
      show p_X6_read_L105 (nI c) mm mn ma me mb mba mpg mdi mbl mby mw mz mso mbo mco mcd ml mr _ (nI j) mt mv mx = _
      rw [p_X6_read_L105, gdT (by decide), show ix (nI 4) = 4 from rfl, h4, if_pos (by rw [ltI (by omega) (by omega)]; omega), mulI, addI, addI, e1, bdS3, addI]
      exact e2
