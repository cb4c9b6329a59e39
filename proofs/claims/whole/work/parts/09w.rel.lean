/-! what holds of both sides between two calls -/
def ColX (xk xo xc : Nat → Int32) (xt : Nat → Nat → Int32) (xn : Nat → Nat → Int64) (xl : Nat → Nat → Int32) (c K O : Nat) (vals : List AV) : Prop := xk c = nI K ∧ xo c = nI O ∧ xc c = nI vals.length ∧ ∀ (j : Nat) (h : j < vals.length), XV xt xn xl c j vals[j]
theorem ColX.k {xk xo xc : Nat → Int32} {xt : Nat → Nat → Int32} {xn : Nat → Nat → Int64} {xl : Nat → Nat → Int32} {c K O : Nat} {vals : List AV} (h : ColX xk xo xc xt xn xl c K O vals) : xk c = nI K := h.1
theorem ColX.o {xk xo xc : Nat → Int32} {xt : Nat → Nat → Int32} {xn : Nat → Nat → Int64} {xl : Nat → Nat → Int32} {c K O : Nat} {vals : List AV} (h : ColX xk xo xc xt xn xl c K O vals) : xo c = nI O := h.2.1
theorem ColX.n {xk xo xc : Nat → Int32} {xt : Nat → Nat → Int32} {xn : Nat → Nat → Int64} {xl : Nat → Nat → Int32} {c K O : Nat} {vals : List AV} (h : ColX xk xo xc xt xn xl c K O vals) : xc c = nI vals.length := h.2.2.1
theorem ColX.v {xk xo xc : Nat → Int32} {xt : Nat → Nat → Int32} {xn : Nat → Nat → Int64} {xl : Nat → Nat → Int32} {c K O : Nat} {vals : List AV} (h : ColX xk xo xc xt xn xl c K O vals) : ∀ (j : Nat) (h : j < vals.length), XV xt xn xl c j vals[j] := h.2.2.2
def ColM (mk mo mm mt : Nat → Int32) (mv : Nat → Int64) (mx : Nat → Int32) (c K O : Nat) (vals : List AV) : Prop := mk c = nI K ∧ mo c = nI O ∧ mm c = nI vals.length ∧ MCol mt mv mx c vals
theorem ColM.k {mk mo mm mt : Nat → Int32} {mv : Nat → Int64} {mx : Nat → Int32} {c K O : Nat} {vals : List AV} (h : ColM mk mo mm mt mv mx c K O vals) : mk c = nI K := h.1
theorem ColM.o {mk mo mm mt : Nat → Int32} {mv : Nat → Int64} {mx : Nat → Int32} {c K O : Nat} {vals : List AV} (h : ColM mk mo mm mt mv mx c K O vals) : mo c = nI O := h.2.1
theorem ColM.n {mk mo mm mt : Nat → Int32} {mv : Nat → Int64} {mx : Nat → Int32} {c K O : Nat} {vals : List AV} (h : ColM mk mo mm mt mv mx c K O vals) : mm c = nI vals.length := h.2.2.1
theorem ColM.v {mk mo mm mt : Nat → Int32} {mv : Nat → Int64} {mx : Nat → Int32} {c K O : Nat} {vals : List AV} (h : ColM mk mo mm mt mv mx c K O vals) : MCol mt mv mx c vals := h.2.2.2
def ColW (K O : Nat) (vals : List AV) : Prop := K ≤ 3 ∧ O ≤ 1 ∧ vals.length ≤ 200 ∧ ∀ a ∈ vals, wfv K a
theorem ColW.k {K O : Nat} {vals : List AV} (h : ColW K O vals) : K ≤ 3 := h.1
theorem ColW.o {K O : Nat} {vals : List AV} (h : ColW K O vals) : O ≤ 1 := h.2.1
theorem ColW.n {K O : Nat} {vals : List AV} (h : ColW K O vals) : vals.length ≤ 200 := h.2.2.1
theorem ColW.w {K O : Nat} {vals : List AV} (h : ColW K O vals) : ∀ a ∈ vals, wfv K a := h.2.2.2
def ColR (xk xo xc : Nat → Int32) (xt : Nat → Nat → Int32) (xn : Nat → Nat → Int64) (xl : Nat → Nat → Int32) (mk mo mm mt : Nat → Int32) (mv : Nat → Int64) (mx : Nat → Int32) (c : Nat) : Prop := ∃ K O vals, ColW K O vals ∧ ColX xk xo xc xt xn xl c K O vals ∧ ColM mk mo mm mt mv mx c K O vals
def FltR (xc : Nat → Int32) (str stp rwp : Int32) (mr mb mba mpg mdi : Int32) : Prop := (mr = nI 0 ∧ str = nI 0 ∧ stp = nI 0 ∧ rwp = nI 0 ∧ xc 5 = nI 0) ∨ (mr = nI 1 ∧ str = mb ∧ stp = mba ∧ rwp = mpg ∧ xc 5 = if mdi < nI 0 then nI 0 else mdi)
def Cols (xk xo xc : Nat → Int32) (xt : Nat → Nat → Int32) (xn : Nat → Nat → Int64) (xl : Nat → Nat → Int32) (mk mo mm mt : Nat → Int32) (mv : Nat → Int64) (mx : Nat → Int32) : Prop := ∀ c, c < 4 → ColR xk xo xc xt xn xl mk mo mm mt mv mx c
def Tape (rc rv : Nat → Int32) (rb : Nat → Nat → Int32) (mp : Nat → Int32) (mtd : Int32) : Prop := (∃ l, XRow rc rb 0 l ∧ MRow mp mtd 40 l) ∧ rv 0 = nI 0
def Filed (rc rv : Nat → Int32) (rb : Nat → Nat → Int32) (mf : Nat → Int32) (ms : Int32) : Prop := (∃ l, XRow rc rb 1 l ∧ MRow mf ms 12000 l) ∧ rv 1 = nI 0
theorem colAt (v : Int32) : (∃ c, c < 4 ∧ v = nI c ∧ p_X5_columnAt v = some (some c) ∧ p_X6_isColumn v = some (nI 1)) ∨ (p_X5_columnAt v = some none ∧ p_X6_isColumn v = some (nI 0)) := by
  have hm : (3 : Int64) = lN 3 := rfl
  rcases splitI v with h | ⟨j, hj, e⟩
  · right
    refine ⟨?_, ?_⟩
    · unfold p_X5_columnAt
      rw [if_pos h]
    · unfold p_X6_isColumn
      rw [M_in_neg h 0 _ (by omega), bdS1, gdT (by decide)]
  · subst e
    by_cases h4 : j < 4
    · left
      refine ⟨j, h4, rfl, ?_, ?_⟩
      · unfold p_X5_columnAt
        rw [if_neg (by rw [ltI (by omega) (by omega)]; omega), if_pos (by rw [ltI (by omega) (by omega)]; exact h4), inbI (by omega), gdD h4, ixI (by omega)]
      · unfold p_X6_isColumn
        rw [M_in_nat (by omega) (by omega) (by omega), bdS1, if_pos (show 0 ≤ j ∧ j ≤ 3 by omega), gdT (by decide)]
    · right
      refine ⟨?_, ?_⟩
      · unfold p_X5_columnAt
        rw [if_neg (by rw [ltI (by omega) (by omega)]; omega), if_neg (by rw [ltI (by omega) (by omega)]; exact h4)]
      · unfold p_X6_isColumn
        rw [M_in_nat (by omega) (by omega) (by omega), bdS1, if_neg (show ¬ (0 ≤ j ∧ j ≤ 3) by omega), gdT (by decide)]
/-- one column changes, the others stay -/
theorem ColX.oth {xk xo xc xk' xo' xc' : Nat → Int32} {xt xt' : Nat → Nat → Int32} {xn xn' : Nat → Nat → Int64} {xl xl' : Nat → Nat → Int32} {c K O : Nat} {vals : List AV} (h : ColX xk xo xc xt xn xl c K O vals) (h1 : xk' c = xk c) (h2 : xo' c = xo c) (h3 : xc' c = xc c) (h4 : xt' c = xt c) (h5 : xn' c = xn c) (h6 : xl' c = xl c) : ColX xk' xo' xc' xt' xn' xl' c K O vals :=
  ⟨h1.trans h.k, h2.trans h.o, h3.trans h.n, fun j hj => by
    obtain ⟨a, b, d⟩ := h.v j hj
    exact ⟨by rw [h4]; exact a, by rw [h5]; exact b, fun k hk => by rw [h6]; exact d k hk⟩⟩
theorem ColM.oth {mk mo mm mk' mo' mm' mt mt' : Nat → Int32} {mv mv' : Nat → Int64} {mx mx' : Nat → Int32} {c K O : Nat} {vals : List AV} (h : ColM mk mo mm mt mv mx c K O vals) (h1 : mk' c = mk c) (h2 : mo' c = mo c) (h3 : mm' c = mm c) (h4 : ∀ (j : Nat) (a : AV), j < vals.length → MV mt mv mx (200 * c + j) a → MV mt' mv' mx' (200 * c + j) a) : ColM mk' mo' mm' mt' mv' mx' c K O vals :=
  ⟨h1.trans h.k, h2.trans h.o, h3.trans h.n, fun j hj => h4 j _ hj (h.v j hj)⟩
theorem ColW.snoc {K O : Nat} {vals : List AV} {a : AV} (h : ColW K O vals) (hl : vals.length < 200) (ha : wfv K a) : ColW K O (vals ++ [a]) :=
  ⟨h.k, h.o, by rw [List.length_append]; exact hl, fun x hx => (List.mem_append.mp hx).elim (h.w x) (fun e => by rw [List.mem_singleton.mp e]; exact ha)⟩
theorem sn_get {vals : List AV} {a : AV} {j : Nat} (h : j < (vals ++ [a]).length) : (∃ h2 : j < vals.length, (vals ++ [a])[j] = vals[j]) ∨ (j = vals.length ∧ (vals ++ [a])[j] = a) := by
  by_cases hj : j < vals.length
  · exact Or.inl ⟨hj, List.getElem_append_left hj⟩
  · rw [List.length_append, List.length_cons, List.length_nil] at h
    have : j = vals.length := by omega
    subst this
    exact Or.inr ⟨rfl, by simp⟩
/-- a value more at a column's end -/
theorem ColX.snoc {xk xo xc : Nat → Int32} {xt : Nat → Nat → Int32} {xn : Nat → Nat → Int64} {xl : Nat → Nat → Int32} {c K O : Nat} {vals : List AV} (a : AV) (h : ColX xk xo xc xt xn xl c K O vals) {f : Nat → Int32} (hf1 : ∀ j, j < vals.length * 40 → f j = xl c j) (hf2 : ∀ (k : Nat) (h : k < (le a).length), f (vals.length * 40 + k) = (le a)[k]) (hle : ∀ x ∈ vals, (le x).length ≤ 40) : ColX xk xo (up xc c (nI (vals.length + 1))) (up xt c (up (xt c) vals.length (nI (th a)))) (up xn c (up (xn c) vals.length (nu a))) (up xl c f) c K O (vals ++ [a]) := by
  refine ⟨h.k, h.o, by rw [up_s, List.length_append]; rfl, fun j hj => ?_⟩
  rcases sn_get hj with ⟨h2, e⟩ | ⟨e1, e2⟩
  · obtain ⟨a1, b1, d1⟩ := h.v j h2
    rw [e]
    refine ⟨?_, ?_, fun k hk => ?_⟩
    · rw [up_s, up_n (by omega)]; exact a1
    · rw [up_s, up_n (by omega)]; exact b1
    · have := hle _ (List.getElem_mem h2)
      rw [up_s, hf1 _ (by omega)]; exact d1 k hk
  · subst e1
    rw [e2]
    refine ⟨?_, ?_, fun k hk => ?_⟩
    · rw [up_s, up_s]
    · rw [up_s, up_s]
    · rw [up_s]; exact hf2 k hk
theorem ColM.snoc {mk mo mm mt : Nat → Int32} {mv : Nat → Int64} {mx : Nat → Int32} {c K O : Nat} {vals : List AV} (a : AV) (h : ColM mk mo mm mt mv mx c K O vals) : ColM mk mo (up mm c (nI (vals.length + 1))) (up mt (200 * c + vals.length) (nI (th a))) (up mv (200 * c + vals.length) (nu a)) (wr mx (40 * (200 * c + vals.length)) (l40 (le a))) c K O (vals ++ [a]) := by
  refine ⟨h.k, h.o, by rw [up_s, List.length_append]; rfl, fun j hj => ?_⟩
  rcases sn_get hj with ⟨h2, e⟩ | ⟨e1, e2⟩
  · rw [e]
    exact MV_wr_n (by omega) (h.v j h2)
  · subst e1
    rw [e2]
    exact MV_wr a
