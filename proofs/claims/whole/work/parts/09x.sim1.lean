theorem Cols.put {xk xo xc xk' xo' xc' : Nat → Int32} {xt xt' : Nat → Nat → Int32} {xn xn' : Nat → Nat → Int64} {xl xl' : Nat → Nat → Int32} {mk mo mm mt mk' mo' mm' mt' : Nat → Int32} {mv mv' : Nat → Int64} {mx mx' : Nat → Int32} {c : Nat} (h : Cols xk xo xc xt xn xl mk mo mm mt mv mx) (hc : ColR xk' xo' xc' xt' xn' xl' mk' mo' mm' mt' mv' mx' c) (h1 : ∀ d, d ≠ c → xk' d = xk d ∧ xo' d = xo d ∧ xc' d = xc d ∧ xt' d = xt d ∧ xn' d = xn d ∧ xl' d = xl d) (h2 : ∀ d, d ≠ c → mk' d = mk d ∧ mo' d = mo d ∧ mm' d = mm d) (h3 : ∀ d j a, d ≠ c → d < 4 → j < 200 → MV mt mv mx (200 * d + j) a → MV mt' mv' mx' (200 * d + j) a) : Cols xk' xo' xc' xt' xn' xl' mk' mo' mm' mt' mv' mx' := by
  intro d hd
  by_cases e : d = c
  · rw [e]; exact hc
  · obtain ⟨K, O, vals, w, x, m⟩ := h d hd
    obtain ⟨a1, a2, a3, a4, a5, a6⟩ := h1 d e
    obtain ⟨b1, b2, b3⟩ := h2 d e
    have hn := w.n
    exact ⟨K, O, vals, w, x.oth a1 a2 a3 a4 a5 a6, m.oth b1 b2 b3 (fun j a hj hv => h3 d j a e hd (by omega) hv)⟩
/-- the same, of a slot of the column c -/
theorem Cols.put1 {xk xo xc : Nat → Int32} {xt : Nat → Nat → Int32} {xn : Nat → Nat → Int64} {xl : Nat → Nat → Int32} {mk mo mm mt : Nat → Int32} {mv : Nat → Int64} {mx : Nat → Int32} {c K O : Nat} {vals : List AV} {f : Nat → Int32} (a : AV) (hl : vals.length < 200) (hw : ColW K O vals) (hx : ColX xk xo xc xt xn xl c K O vals) (hm : ColM mk mo mm mt mv mx c K O vals) (ha : wfv K a) (hf1 : ∀ j, j < vals.length * 40 → f j = xl c j) (hf2 : ∀ (k : Nat) (h : k < (le a).length), f (vals.length * 40 + k) = (le a)[k]) (h : Cols xk xo xc xt xn xl mk mo mm mt mv mx) : Cols xk xo (up xc c (nI (vals.length + 1))) (up xt c (up (xt c) vals.length (nI (th a)))) (up xn c (up (xn c) vals.length (nu a))) (up xl c f) mk mo (up mm c (nI (vals.length + 1))) (up mt (200 * c + vals.length) (nI (th a))) (up mv (200 * c + vals.length) (nu a)) (wr mx (40 * (200 * c + vals.length)) (l40 (le a))) :=
  h.put (c := c) ⟨K, O, vals ++ [a], hw.snoc hl ha, hx.snoc a hf1 hf2 (fun x hx => (hw.w x hx).1), hm.snoc a⟩ (fun d hd => ⟨rfl, rfl, up_n hd, up_n hd, up_n hd, up_n hd⟩) (fun d hd => ⟨rfl, rfl, up_n hd⟩) (fun d j b hd hd4 hj hv => MV_wr_n (by omega) hv)
theorem isB_c {x : Int32} (h : isB x = true) : ∃ O, O ≤ 1 ∧ x = nI O := by
  unfold isB at h
  rcases of_decide_eq_true h with e | e
  · exact ⟨0, by omega, e⟩
  · exact ⟨1, by omega, e⟩
abbrev S3 : Type := (Nat → Int32) × (Nat → Int32) × (Nat → Int32)
theorem sim_column {xk xo xc : Nat → Int32} {xt : Nat → Nat → Int32} {xn : Nat → Nat → Int64} {xl : Nat → Nat → Int32} {mk mo mm mt : Nat → Int32} {mv : Nat → Int64} {mx : Nat → Int32} (h : Cols xk xo xc xt xn xl mk mo mm mt mv mx) (v1 v2 v3 : Int32) (hB : isB v3 = true) : ∃ r xk' xo' xc' mk' mo' mm', p_X5_column v1 v2 v3 xk xo xc = some (r, xk', xo', xc') ∧ p_X6_column v1 v2 v3 mk mo mm = some (r, mk', mo', mm') ∧ Cols xk' xo' xc' xt xn xl mk' mo' mm' mt mv mx ∧ xc' 5 = xc 5 := by
  unfold p_X5_column p_X6_column
  rcases colAt v1 with ⟨c, hc, rfl, e1, e2⟩ | ⟨e1, e2⟩
  · rw [e1, e2, bdS1, bdS1, moS, gdD (by omega), if_neg (show ¬ nI 1 = nI 0 by decide)]
    rcases splitI v2 with hn | ⟨K, hK, rfl⟩
    · rw [if_pos hn, M_in_neg hn 0 _ (by omega), bdS1, if_pos rfl]
      exact ⟨_, _, _, _, _, _, _, rfl, rfl, h, rfl⟩
    · rw [if_neg (by rw [ltI (by omega) (by omega)]; omega), M_in_nat (by omega) (by omega) (by omega), bdS1]
      by_cases h3 : K ≤ 3
      · obtain ⟨O, hO, rfl⟩ := isB_c hB
        obtain ⟨K0, O0, vals, w, x, m⟩ := h c hc
        unfold p_X0_begin
        rw [if_neg (by rw [ltI (by omega) (by omega)]; omega), if_pos (show 0 ≤ K ∧ K ≤ 3 by omega), if_neg (by decide), gdT hB, gdT hB, bdS3, inbI (by omega), gdD (by omega), gdD (by omega), gdD (by omega), gdD (by omega), ixI (by omega), x.n, m.n]
        refine ⟨_, _, _, _, _, _, _, rfl, rfl, ?_, up_n (by omega)⟩
        exact h.put (c := c) ⟨K, O, [], ⟨h3, hO, by simp, by simp⟩, ⟨up_s, up_s, up_s, fun j hj => by simp at hj⟩, ⟨up_s, up_s, up_s, fun j hj => by simp at hj⟩⟩ (fun d hd => ⟨up_n hd, up_n hd, up_n hd, rfl, rfl, rfl⟩) (fun d hd => ⟨up_n hd, up_n hd, up_n hd⟩) (fun _ _ _ _ _ _ hv => hv)
      · rw [if_pos (by rw [ltI (by omega) (by omega)]; omega), if_neg (show ¬ (0 ≤ K ∧ K ≤ 3) by omega), if_pos rfl]
        exact ⟨_, _, _, _, _, _, _, rfl, rfl, h, rfl⟩
  · rw [e1, e2, bdS1, bdS1, moN, if_pos rfl]
    exact ⟨_, _, _, _, _, _, _, rfl, rfl, h, rfl⟩
def nvB (K : Nat) (v : Int64) : Int64 := if K = 0 then i2l (l2i v) else if K = 3 then (if v = lN 0 then lN 0 else lN 1) else v
theorem wfv_nv {K : Nat} {v : Int64} (h : K ≠ 2) : wfv K (some (v, [])) := ⟨by simp [le], by simp [le], fun _ => by rw [if_neg h]; rfl⟩
theorem X_pushNumber {c K n : Nat} {v : Int64} {xk xc : Nat → Int32} {xt : Nat → Nat → Int32} {xn : Nat → Nat → Int64} (hK : xk c = nI K) (hK3 : K ≤ 3) (hn : xc c = nI n) (h : n < 200) : p_X0_pushNumber c v xk xc xt xn = some (up xc c (nI (n + 1)), up xt c (up (xt c) n (nI 1)), up xn c (up (xn c) n (nvB K v))) := by
  unfold p_X0_pushNumber nvB
  simp only [p_X0_pushNumber_J68, hn, hK]
  by_cases k0 : K = 0
  · subst k0
    simp (disch := omega) only [ltI, eqI, addI, subI, mulI, divI, ixI, inbI, i2lI, l2iL, ltL, eqL, addL, mulL, subL, gdD, if_pos, if_neg, if_true, if_false, bdS1, bdS2, bdS3, bdS4, bdS5, bdS6, bdS7, bdS8, bdS9, bdS10, bdS11, bdS12, bdS13, moN, moS, h]
  · by_cases k3 : K = 3
    · subst k3
      by_cases v0 : v = lN 0
      · have v0' : v = 0 := v0
        subst v0'
        simp (disch := omega) only [ltI, eqI, addI, subI, mulI, divI, ixI, inbI, i2lI, l2iL, ltL, eqL, addL, mulL, subL, gdD, if_pos, if_neg, if_true, if_false, bdS1, bdS2, bdS3, bdS4, bdS5, bdS6, bdS7, bdS8, bdS9, bdS10, bdS11, bdS12, bdS13, moN, moS, h]
      · have v0' : ¬ v = 0 := v0
        simp (disch := omega) only [ltI, eqI, addI, subI, mulI, divI, ixI, inbI, i2lI, l2iL, ltL, eqL, addL, mulL, subL, gdD, if_pos, if_neg, if_true, if_false, bdS1, bdS2, bdS3, bdS4, bdS5, bdS6, bdS7, bdS8, bdS9, bdS10, bdS11, bdS12, bdS13, moN, moS, h, v0, v0']
    · simp (disch := omega) only [ltI, eqI, addI, subI, mulI, divI, ixI, inbI, i2lI, l2iL, ltL, eqL, addL, mulL, subL, gdD, if_pos, if_neg, if_true, if_false, bdS1, bdS2, bdS3, bdS4, bdS5, bdS6, bdS7, bdS8, bdS9, bdS10, bdS11, bdS12, bdS13, moN, moS, h, k0, k3]
theorem sim_add {xk xo xc : Nat → Int32} {xt : Nat → Nat → Int32} {xn : Nat → Nat → Int64} {xl : Nat → Nat → Int32} {mk mo mm mt : Nat → Int32} {mv : Nat → Int64} {mx : Nat → Int32} (h : Cols xk xo xc xt xn xl mk mo mm mt mv mx) (v1 : Int32) (v2 : Int64) : ∃ r xc' xt' xn' mm' mt' mv' mx', p_X5_add v1 v2 xk xc xt xn = some (r, xc', xt', xn') ∧ p_X6_add v1 v2 mk mm mt mv mx = some (r, mm', mt', mv', mx') ∧ Cols xk xo xc' xt' xn' xl mk mo mm' mt' mv' mx' ∧ xc' 5 = xc 5 := by
  unfold p_X5_add p_X6_add
  rcases colAt v1 with ⟨c, hc, rfl, e1, e2⟩ | ⟨e1, e2⟩
  · obtain ⟨K, O, vals, w, x, m⟩ := h c hc
    have hK3 := w.k
    have hn := w.n
    rw [e1, e2, bdS1, bdS1, moS, gdD (by omega), if_neg (show ¬ nI 1 = nI 0 by decide), inbI (by omega), gdD (by omega), gdD (by omega), gdD (by omega), gdD (by omega), ixI (by omega), x.k, m.k, x.n, m.n]
    by_cases k2 : K = 2
    · rw [if_pos (by rw [k2]), if_pos (by rw [k2])]
      exact ⟨_, _, _, _, _, _, _, _, rfl, rfl, h, rfl⟩
    · rw [if_neg (show ¬ nI K = nI 2 by rw [eqI (by omega) (by omega)]; exact k2), if_neg (show ¬ nI K = nI 2 by rw [eqI (by omega) (by omega)]; exact k2)]
      by_cases hl : vals.length < 200
      · have hput := h.put1 (some (nvB K v2, [])) hl w x m (wfv_nv k2) (f := xl c) (fun _ _ => rfl) (fun k hk => by simp [le] at hk)
        rw [up_id] at hput
        rw [if_pos (by rw [ltI (by omega) (by omega)]; exact hl), if_neg (by rw [eqI (by omega) (by omega)]; omega), X_pushNumber x.k hK3 x.n hl, bdS3, up_s, subI (by omega), Nat.add_sub_cancel]
        have hM : ∀ val, nvB K v2 = val → ∃ r xc' xt' xn' mm' mt' mv' mx', some (nI vals.length, up xc c (nI (vals.length + 1)), up xt c (up (xt c) vals.length (nI 1)), up xn c (up (xn c) vals.length (nvB K v2))) = some (r, xc', xt', xn') ∧ (bd5 (p_X6_adds (nI c) (nI 1) val mm mt mv mx) fun a_6 mm_7 mt_8 mv_9 mx_10 => some (a_6, mm_7, mt_8, mv_9, mx_10)) = some (r, mm', mt', mv', mx') ∧ Cols xk xo xc' xt' xn' xl mk mo mm' mt' mv' mx' ∧ xc' 5 = xc 5 := by
          intro val hval
          rw [M_adds (by omega) hl m.n (by omega), bdS5, ← hval]
          exact ⟨_, _, _, _, _, _, _, _, rfl, rfl, hput, up_n (by omega)⟩
        by_cases k0 : K = 0
        · rw [if_pos (by rw [k0])]
          exact hM _ (by unfold nvB; rw [if_pos k0])
        · rw [if_neg (by rw [eqI (by omega) (by omega)]; exact k0)]
          by_cases k3 : K = 3
          · rw [if_pos (by rw [k3])]
            by_cases v0 : v2 = lN 0
            · rw [if_pos v0]
              exact hM _ (by unfold nvB; rw [if_neg k0, if_pos k3, if_pos v0])
            · rw [if_neg v0]
              exact hM _ (by unfold nvB; rw [if_neg k0, if_pos k3, if_neg v0])
          · rw [if_neg (by rw [eqI (by omega) (by omega)]; exact k3)]
            exact hM _ (by unfold nvB; rw [if_neg k0, if_neg k3])
      · rw [if_neg (by rw [ltI (by omega) (by omega)]; exact hl), if_pos (by rw [eqI (by omega) (by omega)]; omega)]
        exact ⟨_, _, _, _, _, _, _, _, rfl, rfl, h, rfl⟩
  · rw [e1, e2, bdS1, bdS1, moN, if_pos rfl]
    exact ⟨_, _, _, _, _, _, _, _, rfl, rfl, h, rfl⟩
theorem sim_addNone {xk xo xc : Nat → Int32} {xt : Nat → Nat → Int32} {xn : Nat → Nat → Int64} {xl : Nat → Nat → Int32} {mk mo mm mt : Nat → Int32} {mv : Nat → Int64} {mx : Nat → Int32} (h : Cols xk xo xc xt xn xl mk mo mm mt mv mx) (v1 : Int32) : ∃ r xc' xt' xn' mm' mt' mv' mx', p_X5_addNone v1 xo xc xt xn = some (r, xc', xt', xn') ∧ p_X6_addNone v1 mo mm mt mv mx = some (r, mm', mt', mv', mx') ∧ Cols xk xo xc' xt' xn' xl mk mo mm' mt' mv' mx' ∧ xc' 5 = xc 5 := by
  unfold p_X5_addNone p_X6_addNone
  rcases colAt v1 with ⟨c, hc, rfl, e1, e2⟩ | ⟨e1, e2⟩
  · obtain ⟨K, O, vals, w, x, m⟩ := h c hc
    have hO := w.o
    have hn := w.n
    rw [e1, e2, bdS1, bdS1, moS, gdD (by omega), if_neg (show ¬ nI 1 = nI 0 by decide), inbI (by omega), gdD (by omega), gdD (by omega), ixI (by omega), x.o, m.o, x.n, m.n]
    by_cases k2 : O = 0
    · rw [if_pos (by rw [k2]), if_pos (by rw [k2])]
      exact ⟨_, _, _, _, _, _, _, _, rfl, rfl, h, rfl⟩
    · rw [if_neg (show ¬ nI O = nI 0 by rw [eqI (by omega) (by omega)]; exact k2), if_neg (show ¬ nI O = nI 0 by rw [eqI (by omega) (by omega)]; exact k2)]
      by_cases hl : vals.length < 200
      · have hput := h.put1 none hl w x m wfv_none (f := xl c) (fun _ _ => rfl) (fun k hk => by simp [le] at hk)
        rw [up_id] at hput
        have ex : p_X0_pushNone c xc xt xn = some (up xc c (nI (vals.length + 1)), up xt c (up (xt c) vals.length (nI 0)), up xn c (up (xn c) vals.length (lN 0))) := by
          unfold p_X0_pushNone p_X0_setNone
          simp only [x.n]
          simp (disch := omega) only [ltI, eqI, addI, subI, mulI, divI, ixI, inbI, i2lI, l2iL, ltL, eqL, addL, mulL, subL, gdD, if_pos, if_neg, if_true, if_false, bdS1, bdS2, bdS3, bdS4, bdS5, bdS6, bdS7, bdS8, bdS9, bdS10, bdS11, bdS12, bdS13, moN, moS, hl]
        rw [if_pos (by rw [ltI (by omega) (by omega)]; exact hl), if_neg (by rw [eqI (by omega) (by omega)]; omega), ex, bdS3, up_s, subI (by omega), Nat.add_sub_cancel, M_adds (by omega) hl m.n (by omega), bdS5]
        exact ⟨_, _, _, _, _, _, _, _, rfl, rfl, hput, up_n (by omega)⟩
      · rw [if_neg (by rw [ltI (by omega) (by omega)]; exact hl), if_pos (by rw [eqI (by omega) (by omega)]; omega)]
        exact ⟨_, _, _, _, _, _, _, _, rfl, rfl, h, rfl⟩
  · rw [e1, e2, bdS1, bdS1, moN, if_pos rfl]
    exact ⟨_, _, _, _, _, _, _, _, rfl, rfl, h, rfl⟩
