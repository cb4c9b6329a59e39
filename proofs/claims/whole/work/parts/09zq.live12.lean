def FrX (c : Nat) (xc : Nat → Int32) (xt : Nat → Nat → Int32) (xn : Nat → Nat → Int64) (xl : Nat → Nat → Int32) (xc' : Nat → Int32) (xt' : Nat → Nat → Int32) (xn' : Nat → Nat → Int64) (xl' : Nat → Nat → Int32) : Prop := ∀ d, d ≠ c → xc' d = xc d ∧ xt' d = xt d ∧ xn' d = xn d ∧ xl' d = xl d
theorem FrX.rf {c : Nat} {xc : Nat → Int32} {xt : Nat → Nat → Int32} {xn : Nat → Nat → Int64} {xl : Nat → Nat → Int32} : FrX c xc xt xn xl xc xt xn xl := fun _ _ => ⟨rfl, rfl, rfl, rfl⟩
theorem FrX.tr {c : Nat} {xc xc1 xc2 : Nat → Int32} {xt xt1 xt2 : Nat → Nat → Int32} {xn xn1 xn2 : Nat → Nat → Int64} {xl xl1 xl2 : Nat → Nat → Int32} (h1 : FrX c xc xt xn xl xc1 xt1 xn1 xl1) (h2 : FrX c xc1 xt1 xn1 xl1 xc2 xt2 xn2 xl2) : FrX c xc xt xn xl xc2 xt2 xn2 xl2 := fun d hd => ⟨(h2 d hd).1.trans (h1 d hd).1, (h2 d hd).2.1.trans (h1 d hd).2.1, (h2 d hd).2.2.1.trans (h1 d hd).2.2.1, (h2 d hd).2.2.2.trans (h1 d hd).2.2.2⟩
def FrN (c : Nat) (mm mt : Nat → Int32) (mv : Nat → Int64) (mx : Nat → Int32) (mm' mt' : Nat → Int32) (mv' : Nat → Int64) (mx' : Nat → Int32) : Prop := (∀ d, d ≠ c → mm' d = mm d) ∧ FrM c mt mv mx mt' mv' mx'
theorem FrN.rf {c : Nat} {mm mt : Nat → Int32} {mv : Nat → Int64} {mx : Nat → Int32} : FrN c mm mt mv mx mm mt mv mx := ⟨fun _ _ => rfl, fun _ _ _ h => h⟩
theorem FrN.tr {c : Nat} {mm mm1 mm2 mt mt1 mt2 : Nat → Int32} {mv mv1 mv2 : Nat → Int64} {mx mx1 mx2 : Nat → Int32} (h1 : FrN c mm mt mv mx mm1 mt1 mv1 mx1) (h2 : FrN c mm1 mt1 mv1 mx1 mm2 mt2 mv2 mx2) : FrN c mm mt mv mx mm2 mt2 mv2 mx2 := ⟨fun d hd => (h2.1 d hd).trans (h1.1 d hd), fun s a hs h => h2.2 s a hs (h1.2 s a hs h)⟩
theorem FrN.put {c n : Nat} {mm mt : Nat → Int32} {mv : Nat → Int64} {mx : Nat → Int32} {x : Int32} (a : AV) (h : n < 200) : FrN c mm mt mv mx (up mm c x) (up mt (200 * c + n) (nI (th a))) (up mv (200 * c + n) (nu a)) (wr mx (40 * (200 * c + n)) (l40 (le a))) := ⟨fun d hd => up_n hd, fun s b hs hv => MV_wr_n (by omega) hv⟩
abbrev PX : Type := (Nat → Int32) × (Nat → Nat → Int32) × (Nat → Nat → Int64) × (Nat → Nat → Int32) × (Nat → Nat → Int64) × Int32 × Int32 × Int32
theorem d_L37 {c n : Nat} {N i : Int32} {xk xc rc : Nat → Int32} {xt : Nat → Nat → Int32} {xn : Nat → Nat → Int64} {xl : Nat → Nat → Int32} {rb : Nat → Nat → Int32} {la : Nat → Nat → Int64} {sen ssp str stp : Int32} (hd : str ≠ nI 0) : itr8 (p_X1_readPlain_L37 c N xk rc rb la (some 1) sen) (n + 1) i xc xt xn xl ssp str stp = some (xc, xt, xn, xl, la, ssp, str, stp) := by
  show p_X1_readPlain_L37 c N xk rc rb la (some 1) sen _ i xc xt xn xl ssp str stp = _
  rw [p_X1_readPlain_L37, d_sound hd, bdS1, if_pos rfl, ite_self]
theorem L_plain1 {cx cm K N j B Bm p e S n : Nat} {xk xc rc : Nat → Int32} {xt : Nat → Nat → Int32} {xn : Nat → Nat → Int64} {xl : Nat → Nat → Int32} {rb : Nat → Nat → Int32} {la : Nat → Nat → Int64} {mf mm mt : Nat → Int32} {mv : Nat → Int64} {mx : Nat → Int32} (hs : Src rb mf e) (hS : rc 1 = nI S) (heS : e ≤ S) (hS2 : S ≤ 12000) (hp : p ≤ e) (hK : xk cx = nI K) (hK3 : K < 3) (hB : xc cx = nI B) (hB2 : B < 200) (hcm : cm < 7) (hm : mm cm = nI Bm) (hm2 : Bm < 200) (hj : j < N) (hN : N ≤ 200) :
    (∃ (t : TV) (p' : Nat), p ≤ p' ∧ p' ≤ e ∧ TVok K t ∧ itr8 (p_X1_readPlain_L37 cx (nI N) xk rc rb la (some 1) (nI e)) (n + 2) (nI j) xc xt xn xl (nI p) (nI 0) (nI 0) = itr8 (p_X1_readPlain_L37 cx (nI N) xk rc rb la (some 1) (nI e)) (n + 1) (nI (j + 1)) (up xc cx (nI (B + 1))) (up xt cx (up (xt cx) B (nI 1))) (up xn cx (up (xn cx) B t.1)) (up xl cx (wr (xl cx) (B * 40) t.2)) (nI p') (nI 0) (nI 0) ∧ p_X6_readPlain (nI cm) (nI K) mm mt mv mx mf (nI p) (nI e) (nI 0) (nI 0) = some (nI 1, up mm cm (nI (Bm + 1)), up mt (200 * cm + Bm) (nI 1), up mv (200 * cm + Bm) t.1, wr mx (40 * (200 * cm + Bm)) (l40 t.2), nI p', nI 0, nI 0)) ∨
    (∃ xc' xt' xn' xl' sx sm d q, d ≠ nI 0 ∧ FrX cx xc xt xn xl xc' xt' xn' xl' ∧ itr8 (p_X1_readPlain_L37 cx (nI N) xk rc rb la (some 1) (nI e)) (n + 2) (nI j) xc xt xn xl (nI p) (nI 0) (nI 0) = some (xc', xt', xn', xl', la, sx, d, q) ∧ p_X6_readPlain (nI cm) (nI K) mm mt mv mx mf (nI p) (nI e) (nI 0) (nI 0) = some (nI 0, mm, mt, mv, mx, sm, d, q)) := by
  have he := hs.1
  have es : p_X4_isSound (nI 0) = some (nI 1) := rfl
  have fail : p_X6_fails (nI 10) (nI p) (nI 0) (nI 0) = some (nI 0, nI 10, nI p) := rfl
  have hX : itr8 (p_X1_readPlain_L37 cx (nI N) xk rc rb la (some 1) (nI e)) (n + 2) (nI j) xc xt xn xl (nI p) (nI 0) (nI 0) = p_X1_readPlain_L37 cx (nI N) xk rc rb la (some 1) (nI e) (fun a b c d f g h i => itr8 (p_X1_readPlain_L37 cx (nI N) xk rc rb la (some 1) (nI e)) (n + 1) a b c d f g h i) (nI j) xc xt xn xl (nI p) (nI 0) (nI 0) := rfl
  rw [hX, p_X1_readPlain_L37, if_pos (show nI j < nI N by rw [ltI (by omega) (by omega)]; exact hj), es, bdS1, if_neg (show ¬ nI 1 = nI 0 by decide), hK]
  unfold p_X6_readPlain
  by_cases k2 : K = 2
  · subst k2
    rw [if_pos (show nI 2 = nI 2 from rfl), if_pos (show nI 2 = nI 2 from rfl)]
    unfold p_X6_readLength p_X4_left
    rcases L_little (N := 4) hs hp (by omega) with ⟨v, p1, q1, q2, q3, q4⟩ | ⟨vx, sx, vm, sm, d, q, hd, q3, q4⟩
    · have bad : ∀ v5, p_X1_readPlain_J136 cx (nI j) (nI p) v5 xc xt xn xl rc rb (some 1) (nI p1) (nI e) (nI 0) (nI 0) (fun a b c d f g h i => itr8 (p_X1_readPlain_L37 cx (nI N) xk rc rb la (some 1) (nI e)) (n + 1) a b c d f g h i) = some (xc, xt, xn, xl, la, nI p1, nI 10, nI p) := by
        intro v5
        rw [p_X1_readPlain_J136, p_X1_readPlain_J137, demF, bdS2, d_text (by decide), bdS5, d_L37 (by decide)]
      rw [q3, q4, bdS4, bdS4, bdS1, if_pos (show nI 0 = nI 0 from rfl), subI q2, fail, bdS3]
      rcases splitI (l2i v) with hneg | ⟨a, ha, hv⟩
      · rw [if_pos hneg, if_pos hneg, bad, bdS4, if_pos (show (-1 : Int32) < nI 0 by decide)]
        exact Or.inr ⟨_, _, _, _, _, _, nI 10, nI p, by decide, FrX.rf, rfl, rfl⟩
      · rw [hv, if_neg (show ¬ nI a < nI 0 by rw [ltI (by omega) (by omega)]; omega), if_neg (show ¬ nI a < nI 0 by rw [ltI (by omega) (by omega)]; omega)]
        by_cases h40 : 40 < a
        · rw [if_pos (show nI 40 < nI a by rw [ltI (by omega) (by omega)]; exact h40), if_pos (show nI 40 < nI a by rw [ltI (by omega) (by omega)]; exact h40), bad, ite_self, bdS4, if_pos (show (-1 : Int32) < nI 0 by decide)]
          exact Or.inr ⟨_, _, _, _, _, _, nI 10, nI p, by decide, FrX.rf, rfl, rfl⟩
        · rw [if_neg (show ¬ nI 40 < nI a by rw [ltI (by omega) (by omega)]; exact h40), if_neg (show ¬ nI 40 < nI a by rw [ltI (by omega) (by omega)]; exact h40)]
          by_cases hlt : e - p1 < a
          · rw [if_pos (show nI (e - p1) < nI a by rw [ltI (by omega) (by omega)]; exact hlt), if_pos (show nI (e - p1) < nI a by rw [ltI (by omega) (by omega)]; exact hlt), bad, bdS4, if_pos (show (-1 : Int32) < nI 0 by decide)]
            exact Or.inr ⟨_, _, _, _, _, _, nI 10, nI p, by decide, FrX.rf, rfl, rfl⟩
          · left
            refine ⟨(lN a, fl mf p1 a), p1 + a, by omega, by omega, ⟨by rw [fl_len]; omega, b8L_fl _ _ _, by rw [if_pos rfl, fl_len]⟩, ?_, ?_⟩
            · rw [if_neg (show ¬ nI (e - p1) < nI a by rw [ltI (by omega) (by omega)]; exact hlt), p_X1_readPlain_J137, demT, bdS2, X_ntext hs hS heS hS2 hB hB2 (by omega) (by omega), bdS5, addI]
            · rw [if_neg (show ¬ nI (e - p1) < nI a by rw [ltI (by omega) (by omega)]; exact hlt), bdS4, if_neg (show ¬ nI a < nI 0 by rw [ltI (by omega) (by omega)]; omega), M_ltr hs hcm hm hm2 (by omega) (by omega), bdS8, if_neg (show ¬ nI 1 = nI 0 by decide)]
    · have bad : ∀ v5 s0, p_X1_readPlain_J137 cx (nI j) (nI p) v5 s0 xc xt xn xl rc rb (some 1) sx (nI e) d q (fun a b c d f g h i => itr8 (p_X1_readPlain_L37 cx (nI N) xk rc rb la (some 1) (nI e)) (n + 1) a b c d f g h i) = some (xc, xt, xn, xl, la, sx, d, q) := by
        intro v5 s0
        rw [p_X1_readPlain_J137, d_demand hd, bdS2, d_text hd, bdS5, d_L37 hd]
      rw [q3, q4, bdS4, bdS4, bdS1, if_neg hd, bdS4, if_pos (show (-1 : Int32) < nI 0 by decide), p_X1_readPlain_J136, bad, bad, ite_self, ite_self, ite_self]
      exact Or.inr ⟨_, _, _, _, _, _, d, q, hd, FrX.rf, rfl, rfl⟩
  · rw [if_neg (show ¬ nI K = nI 2 by rw [eqI (by omega) (by omega)]; exact k2), if_neg (show ¬ nI K = nI 2 by rw [eqI (by omega) (by omega)]; exact k2)]
    -- a number of so many bytes
    have num : ∀ (W : Nat), W ≤ 8 →
        (∃ (t : TV) (p' : Nat), p ≤ p' ∧ p' ≤ e ∧ TVok K t ∧ (bd4 (p_X4_nextLittle (nI W) rb (some 1) (nI p) (nI e) (nI 0) (nI 0)) fun a_30 ssp_31 str_32 stp_33 => bd3 (p_X0_pushNumber cx a_30 xk xc xt xn) fun xc_35 xt_36 xn_37 => itr8 (p_X1_readPlain_L37 cx (nI N) xk rc rb la (some 1) (nI e)) (n + 1) (nI j + nI 1) xc_35 xt_36 xn_37 xl ssp_31 str_32 stp_33) = itr8 (p_X1_readPlain_L37 cx (nI N) xk rc rb la (some 1) (nI e)) (n + 1) (nI (j + 1)) (up xc cx (nI (B + 1))) (up xt cx (up (xt cx) B (nI 1))) (up xn cx (up (xn cx) B t.1)) (up xl cx (wr (xl cx) (B * 40) t.2)) (nI p') (nI 0) (nI 0) ∧ p_X6_readPlain_J42 (nI cm) (nI K) (nI W) mm mt mv mx mf (nI p) (nI e) (nI 0) (nI 0) = some (nI 1, up mm cm (nI (Bm + 1)), up mt (200 * cm + Bm) (nI 1), up mv (200 * cm + Bm) t.1, wr mx (40 * (200 * cm + Bm)) (l40 t.2), nI p', nI 0, nI 0)) ∨
        (∃ xc' xt' xn' xl' sx sm d q, d ≠ nI 0 ∧ FrX cx xc xt xn xl xc' xt' xn' xl' ∧ (bd4 (p_X4_nextLittle (nI W) rb (some 1) (nI p) (nI e) (nI 0) (nI 0)) fun a_30 ssp_31 str_32 stp_33 => bd3 (p_X0_pushNumber cx a_30 xk xc xt xn) fun xc_35 xt_36 xn_37 => itr8 (p_X1_readPlain_L37 cx (nI N) xk rc rb la (some 1) (nI e)) (n + 1) (nI j + nI 1) xc_35 xt_36 xn_37 xl ssp_31 str_32 stp_33) = some (xc', xt', xn', xl', la, sx, d, q) ∧ p_X6_readPlain_J42 (nI cm) (nI K) (nI W) mm mt mv mx mf (nI p) (nI e) (nI 0) (nI 0) = some (nI 0, mm, mt, mv, mx, sm, d, q)) := by
      intro W hW
      rw [p_X6_readPlain_J42]
      rcases L_little (N := W) hs hp hW with ⟨v, p1, q1, q2, q3, q4⟩ | ⟨vx, sx, vm, sm, d, q, hd, q3, q4⟩
      · left
        refine ⟨(nvB K v, []), p1, q1, q2, ⟨by simp, b8L_nil, by rw [if_neg k2]⟩, ?_, ?_⟩
        · rw [q3, bdS4, X_pushNumber hK (by omega) hB hB2, bdS3, addI, wr_nil, up_id]
        · rw [q4, bdS4, if_pos (show nI 0 = nI 0 from rfl)]
          unfold p_X6_reads nvB
          by_cases k0 : K = 0
          · rw [if_pos (show nI K = nI 0 by rw [k0]), if_pos k0, M_adds hcm hm2 hm (by omega), bdS5, bdS4]
          · rw [if_neg (show ¬ nI K = nI 0 by rw [eqI (by omega) (by omega)]; exact k0), if_neg k0, if_neg (show ¬ K = 3 by omega), M_adds hcm hm2 hm (by omega), bdS5, bdS4]
      · right
        rw [q3, bdS4, X_pushNumber hK (by omega) hB hB2, bdS3, d_L37 hd, q4, bdS4, if_neg hd]
        exact ⟨_, _, _, _, _, _, d, q, hd, fun c hc => ⟨up_n hc, up_n hc, up_n hc, rfl⟩, rfl, rfl⟩
    by_cases k1 : K = 1
    · rw [if_pos (show nI K = nI 1 by rw [k1]), if_neg (show ¬ nI K = nI 0 by rw [k1]; decide)]
      exact num 8 (by omega)
    · rw [if_neg (show ¬ nI K = nI 1 by rw [eqI (by omega) (by omega)]; exact k1), if_pos (show nI K = nI 0 by rw [show K = 0 by omega])]
      exact num 4 (by omega)
