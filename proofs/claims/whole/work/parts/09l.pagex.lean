/-! a page's body, as the class makes it -/
theorem th0 : nI (th none) = nI 0 := rfl
theorem th1 (q : Int64 × List Int32) : ¬ nI (th (some q)) = nI 0 := by
  show ¬ nI 1 = nI 0
  decide
abbrev TV : Type := Int64 × List Int32
def tq (pv : List AV) : List TV := pv.filterMap id
def fn (l : List Int64) : Nat → Int64 := fun j => l[j]?.getD (lN 0)
def ownB (l : List Int64) : List Int32 := litB (lN (runsB (fn l) 1 l.length l.length 0).length) 4 ++ runsB (fn l) 1 l.length l.length 0
def plB (K : Nat) (q : TV) : List Int32 := litB q.1 (if K = 1 then 8 else 4) ++ q.2
def bodyB (K code : Nat) (Q : List TV) (pls : List Int64) (w : Nat) : List Int32 :=
  if code = 0 then (if K = 3 then packB (fn (Q.map Prod.fst)) 1 ((Q.length + 7) / 8 * 8) else Q.flatMap (plB K))
  else if code = 3 then ownB (Q.map Prod.fst)
  else if code = 5 then diffB (fn (Q.map Prod.fst)) Q.length (if K = 0 then 1 else 0)
  else if code = 6 then diffB (fn (Q.map Prod.fst)) Q.length 1 ++ Q.flatMap Prod.snd
  else [b8 (nI w)] ++ runsB (fn pls) w Q.length Q.length 0
def pbodyB (K O code : Nat) (pv : List AV) (pls : List Int64) (w : Nat) : List Int32 := (if O = 1 then ownB (pv.map (fun a => lN (th a))) else []) ++ bodyB K code (tq pv) pls w
def pageB (K O code : Nat) (pv : List AV) (pls : List Int64) (w : Nat) : List Int32 := headB 0 (pbodyB K O code pv pls w).length pv.length code ++ pbodyB K O code pv pls w
theorem fn_at {l : List Int64} {j : Nat} (h : j < l.length) : fn l j = l[j] := by
  unfold fn
  rw [List.getElem?_eq_getElem h]
  rfl
abbrev CS : Type := List (Nat × TV)
def tvx : Nat → List AV → CS
  | _, [] => []
  | i, none :: t => tvx (i + 1) t
  | i, some q :: t => (i, q) :: tvx (i + 1) t
theorem tvx_app : ∀ (l m : List AV) (i : Nat), tvx i (l ++ m) = tvx i l ++ tvx (i + l.length) m := by
  intro l
  induction l with
  | nil => intro m i; simp [tvx]
  | cons a l ih =>
    intro m i
    cases a with
    | none => rw [List.cons_append, tvx, tvx, ih, List.length_cons, show i + 1 + l.length = i + (l.length + 1) by omega]
    | some q => rw [List.cons_append, tvx, tvx, ih, List.length_cons, show i + 1 + l.length = i + (l.length + 1) by omega, List.cons_append]
theorem tvx_map : ∀ (l : List AV) (i : Nat), (tvx i l).map Prod.snd = tq l := by
  intro l
  induction l with
  | nil => intro i; rfl
  | cons a l ih =>
    intro i
    cases a with
    | none => rw [tvx, ih]; simp [tq]
    | some q => rw [tvx, List.map_cons, ih]; simp [tq]
theorem tvx_len (l : List AV) (i : Nat) : (tvx i l).length = (tq l).length := by rw [← tvx_map l i, List.length_map]
theorem tq_le (l : List AV) : (tq l).length ≤ l.length := List.length_filterMap_le _ _
theorem tvx_at : ∀ (l : List AV) (i t : Nat) (h : t < (tvx i l).length), ∃ (k : Nat) (hk : k < l.length), l[k] = some (tvx i l)[t].2 ∧ (tvx i l)[t].1 = i + k := by
  intro l
  induction l with
  | nil => intro i t h; simp [tvx] at h
  | cons a l ih =>
    intro i t h
    cases a with
    | none =>
      obtain ⟨k, hk, h1, h2⟩ := ih (i + 1) t h
      exact ⟨k + 1, by simp; omega, h1, by show (tvx (i + 1) l)[t].1 = _; omega⟩
    | some q =>
      cases t with
      | zero => exact ⟨0, by simp, rfl, rfl⟩
      | succ t =>
        have h' : t < (tvx (i + 1) l).length := by simpa [tvx] using h
        obtain ⟨k, hk, h1, h2⟩ := ih (i + 1) t h'
        exact ⟨k + 1, by simp; omega, h1, by show (tvx (i + 1) l)[t].1 = _; omega⟩
def CHW (wch : Nat → Int32) (cs : CS) : Prop := ∀ (t : Nat) (h : t < cs.length), wch t = nI cs[t].1 ∧ cs[t].1 < 200
theorem CHW.snoc {wch : Nat → Int32} {cs : CS} (h : CHW wch cs) {i : Nat} (q : TV) (hi : i < 200) : CHW (up wch cs.length (nI i)) (cs ++ [(i, q)]) := by
  intro t ht
  unfold up
  by_cases e : t = cs.length
  · subst e
    rw [if_pos rfl]
    simp [hi]
  · rw [if_neg e]
    simp only [List.length_append, List.length_cons, List.length_nil] at ht
    rw [List.getElem_append_left (by omega)]
    exact h t (by omega)
theorem X_choose_L {c f0 : Nat} {xt : Nat → Nat → Int32} {xn : Nat → Nat → Int64} {xl : Nat → Nat → Int32} {pv : List AV} (hl : f0 + pv.length ≤ 200) (hv : ∀ (j : Nat) (h : j < pv.length), XV xt xn xl c (f0 + j) pv[j]) : ∀ (m n j : Nat) (wch : Nat → Int32), pv.length - j = m → j ≤ pv.length → m < n → CHW wch (tvx f0 (pv.take j)) → ∃ wch', itr3 (p_X2_chooseThere_L8 c (nI (f0 + pv.length)) xt) n (nI (f0 + j)) wch (nI (tvx f0 (pv.take j)).length) = some (wch', nI (tvx f0 pv).length) ∧ CHW wch' (tvx f0 pv) := by
  intro m
  induction m with
  | zero =>
    intro n j wch h1 h2 h3 h
    have : j = pv.length := by omega
    subst this
    cases n with
    | zero => omega
    | succ n =>
      rw [List.take_length] at h
      refine ⟨wch, ?_, h⟩
      show p_X2_chooseThere_L8 c (nI (f0 + pv.length)) xt _ (nI (f0 + pv.length)) wch _ = _
      rw [p_X2_chooseThere_L8, if_neg (by rw [ltI (by omega) (by omega)]; omega), List.take_length]
  | succ m ih =>
    intro n j wch h1 h2 h3 h
    cases n with
    | zero => omega
    | succ n =>
      have hj : j < pv.length := by omega
      obtain ⟨v1, v2, v3⟩ := hv j hj
      have hlen := tvx_len (pv.take j) f0
      have hle := tq_le (pv.take j)
      rw [List.length_take] at hle
      show ∃ wch', p_X2_chooseThere_L8 c (nI (f0 + pv.length)) xt _ (nI (f0 + j)) wch _ = _ ∧ _
      rw [p_X2_chooseThere_L8, if_pos (by rw [ltI (by omega) (by omega)]; omega), X_isThere v1 (th_le _) (by omega), bdS1]
      have hsn : tvx f0 (pv.take (j + 1)) = tvx f0 (pv.take j) ++ tvx (f0 + j) [pv[j]] := by
        rw [← take_snoc hj, tvx_app, List.length_take, Nat.min_eq_left (by omega)]
      cases ha : pv[j] with
      | none =>
        rw [ha] at hsn
        simp only [tvx, List.append_nil] at hsn
        rw [if_pos th0, addI]
        obtain ⟨wch', e1, g1⟩ := ih n (j + 1) wch (by omega) (by omega) (by omega) (by rw [hsn]; exact h)
        rw [hsn] at e1
        exact ⟨wch', e1, g1⟩
      | some q =>
        rw [ha] at hsn
        simp only [tvx] at hsn
        obtain ⟨wch', e1, g1⟩ := ih n (j + 1) _ (by omega) (by omega) (by omega) (by rw [hsn]; exact h.snoc q (show f0 + j < 200 by omega))
        refine ⟨wch', ?_, g1⟩
        rw [if_neg (th1 q), if_neg (by rw [ltI (by omega) (by omega)]; omega), if_pos (by rw [ltI (by omega) (by omega)]; omega), inbI (by omega), gdD (by omega), ixI (by omega), addI, addI]
        rw [hsn, List.length_append] at e1
        exact e1
theorem X_choose {c f0 : Nat} {xt : Nat → Nat → Int32} {xn : Nat → Nat → Int64} {xl : Nat → Nat → Int32} {pv : List AV} {wch : Nat → Int32} {wcc : Int32} (hl : f0 + pv.length ≤ 200) (hv : ∀ (j : Nat) (h : j < pv.length), XV xt xn xl c (f0 + j) pv[j]) : ∃ wch', p_X2_chooseThere c (nI f0) (nI (f0 + pv.length)) xt wch wcc = some (wch', nI (tvx f0 pv).length) ∧ CHW wch' (tvx f0 pv) := by
  unfold p_X2_chooseThere
  exact X_choose_L hl hv pv.length fu 0 wch (by omega) (by omega) (by rw [fu_eq]; omega) (fun t ht => by simp [tvx] at ht)
/-- the rows of what was chosen -/
def CHV (xn : Nat → Nat → Int64) (xl : Nat → Nat → Int32) (c : Nat) (cs : CS) : Prop := ∀ (t : Nat) (h : t < cs.length), xn c cs[t].1 = cs[t].2.1 ∧ ∀ (k : Nat) (hk : k < cs[t].2.2.length), xl c (cs[t].1 * 40 + k) = cs[t].2.2[k]
theorem CHV_tvx {c f0 : Nat} {xt : Nat → Nat → Int32} {xn : Nat → Nat → Int64} {xl : Nat → Nat → Int32} {pv : List AV} (hv : ∀ (j : Nat) (h : j < pv.length), XV xt xn xl c (f0 + j) pv[j]) : CHV xn xl c (tvx f0 pv) := by
  intro t ht
  obtain ⟨k, hk, h1, h2⟩ := tvx_at pv f0 t ht
  obtain ⟨v1, v2, v3⟩ := hv k hk
  rw [h1] at v2 v3
  rw [h2]
  exact ⟨v2, v3⟩
theorem X_gather_L {c : Nat} {xn : Nat → Nat → Int64} {wch : Nat → Int32} {cs : CS} (hc : cs.length ≤ 200) (hw : CHW wch cs) : ∀ (m n t : Nat) (la : Nat → Nat → Int64), cs.length - t = m → t ≤ cs.length → m < n → (∀ (j : Nat) (h : j < cs.length), j < t → la 0 j = xn c cs[j].1) → ∃ la', itr2 (p_X2_gatherNumbers_L2 c xn wch (nI cs.length)) n (nI t) la = some la' ∧ ∀ (j : Nat) (h : j < cs.length), la' 0 j = xn c cs[j].1 := by
  intro m
  induction m with
  | zero =>
    intro n t la h1 h2 h3 h
    cases n with
    | zero => omega
    | succ n =>
      refine ⟨la, ?_, fun j hj => h j hj (by omega)⟩
      show p_X2_gatherNumbers_L2 c xn wch (nI cs.length) _ (nI t) la = _
      rw [p_X2_gatherNumbers_L2, if_neg (by rw [ltI (by omega) (by omega)]; omega)]
  | succ m ih =>
    intro n t la h1 h2 h3 h
    cases n with
    | zero => omega
    | succ n =>
      have ht : t < cs.length := by omega
      obtain ⟨w1, w2⟩ := hw t ht
      obtain ⟨la', e1, g1⟩ := ih n (t + 1) (up la 0 (up (la 0) t (xn c cs[t].1))) (by omega) (by omega) (by omega) (fun j hj hjt => by
        rw [up_s]
        unfold up
        by_cases e : j = t
        · subst e; rw [if_pos rfl]
        · rw [if_neg e, h j hj (by omega)])
      refine ⟨la', ?_, g1⟩
      show p_X2_gatherNumbers_L2 c xn wch (nI cs.length) _ (nI t) la = _
      rw [p_X2_gatherNumbers_L2, if_pos (by rw [ltI (by omega) (by omega)]; omega), if_pos (by rw [ltI (by omega) (by omega)]; omega), if_pos (by rw [ltI (by omega) (by omega)]; omega), inbI (by omega), gdD (by omega), ixI (by omega), w1, X_numberAt w2, bdS1, gdD (by omega), addI]
      exact e1
theorem X_gather {c : Nat} {xn : Nat → Nat → Int64} {xl : Nat → Nat → Int32} {wch : Nat → Int32} {cs : CS} {la : Nat → Nat → Int64} (hc : cs.length ≤ 200) (hw : CHW wch cs) (hv : CHV xn xl c cs) : ∃ la', p_X2_gatherNumbers c xn la wch (nI cs.length) = some la' ∧ ∀ j, j < cs.length → la' 0 j = fn ((cs.map Prod.snd).map Prod.fst) j := by
  obtain ⟨la', e1, g1⟩ := X_gather_L hc hw cs.length fu 0 la (by omega) (by omega) (by rw [fu_eq]; omega) (fun j _ h => by omega)
  refine ⟨la', e1, fun j hj => ?_⟩
  rw [g1 j hj, fn_at (by simpa using hj), (hv j hj).1]
  simp
theorem X_levels_L {c f0 : Nat} {xt : Nat → Nat → Int32} {xn : Nat → Nat → Int64} {xl : Nat → Nat → Int32} {pv : List AV} (hl : f0 + pv.length ≤ 200) (hv : ∀ (j : Nat) (h : j < pv.length), XV xt xn xl c (f0 + j) pv[j]) : ∀ (m n j : Nat) (la : Nat → Nat → Int64), pv.length - j = m → j ≤ pv.length → m < n → (∀ (i : Nat) (h : i < pv.length), i < j → la 0 i = lN (th pv[i])) → ∃ la', itr2 (p_X2_gatherLevels_L3 c (nI f0) (nI (f0 + pv.length)) xt) n (nI (f0 + j)) la = some la' ∧ ∀ (i : Nat) (h : i < pv.length), la' 0 i = lN (th pv[i]) := by
  intro m
  induction m with
  | zero =>
    intro n j la h1 h2 h3 h
    cases n with
    | zero => omega
    | succ n =>
      refine ⟨la, ?_, fun i hi => h i hi (by omega)⟩
      show p_X2_gatherLevels_L3 c (nI f0) (nI (f0 + pv.length)) xt _ (nI (f0 + j)) la = _
      rw [p_X2_gatherLevels_L3, if_neg (by rw [ltI (by omega) (by omega)]; omega), if_neg (by rw [ltI (by omega) (by omega)]; omega)]
  | succ m ih =>
    intro n j la h1 h2 h3 h
    cases n with
    | zero => omega
    | succ n =>
      have hj : j < pv.length := by omega
      obtain ⟨v1, v2, v3⟩ := hv j hj
      obtain ⟨la', e1, g1⟩ := ih n (j + 1) (up la 0 (up (la 0) j (lN (th pv[j])))) (by omega) (by omega) (by omega) (fun i hi hij => by
        rw [up_s]
        unfold up
        by_cases e : i = j
        · subst e; rw [if_pos rfl]
        · rw [if_neg e, h i hi (by omega)])
      refine ⟨la', ?_, g1⟩
      show p_X2_gatherLevels_L3 c (nI f0) (nI (f0 + pv.length)) xt _ (nI (f0 + j)) la = _
      rw [p_X2_gatherLevels_L3, if_neg (by rw [ltI (by omega) (by omega)]; omega), if_pos (by rw [ltI (by omega) (by omega)]; omega), subI (by omega), Nat.add_sub_cancel_left, if_pos (by rw [ltI (by omega) (by omega)]; omega), X_isThere v1 (th_le _) (by omega), bdS1, inbI (by omega), gdD (by omega), gdD (by omega), ixI (by omega), addI]
      cases ha : pv[j] with
      | none => rw [ha] at e1; rw [if_pos th0]; exact e1
      | some q => rw [ha] at e1; rw [if_neg (th1 q)]; exact e1
theorem X_levels {c f0 : Nat} {xt : Nat → Nat → Int32} {xn : Nat → Nat → Int64} {xl : Nat → Nat → Int32} {pv : List AV} {la : Nat → Nat → Int64} (hl : f0 + pv.length ≤ 200) (hv : ∀ (j : Nat) (h : j < pv.length), XV xt xn xl c (f0 + j) pv[j]) : ∃ la', p_X2_gatherLevels c (nI f0) (nI (f0 + pv.length)) xt la = some la' ∧ ∀ i, i < pv.length → la' 0 i = fn (pv.map (fun a => lN (th a))) i := by
  obtain ⟨la', e1, g1⟩ := X_levels_L hl hv pv.length fu 0 la (by omega) (by omega) (by rw [fu_eq]; omega) (fun j _ h => by omega)
  refine ⟨la', e1, fun i hi => ?_⟩
  rw [g1 i hi, fn_at (by simpa using hi)]
  simp
theorem X_ownB {n0 : Nat} {la : Nat → Nat → Int64} {l : List Int64} {L : List Int32} {rc rv : Nat → Int32} {rb : Nat → Nat → Int32} (hn : n0 ≤ 200) (hl : l.length = n0) (hla : ∀ i, i < n0 → la 0 i = fn l i) (h : XOut rc rv rb 3 L) : ∃ rc' rv' rb', p_X2_pushOwnRuns (nI n0) rc rv rb la = some (rc', rv', rb') ∧ XOut rc' rv' rb' 3 (L ++ ownB l) ∧ FrR 3 rc rv rb rc' rv' rb' := by
  have := X_ownRuns (la := la) hn h
  rw [runsB_cong hla] at this
  unfold ownB
  rw [hl]
  exact this
theorem X_letters_L {c i : Nat} {xl : Nat → Nat → Int32} {ls L : List Int32} (hi : i < 200) (hl : ls.length ≤ 40) (hb : b8L ls) (hx : ∀ (k : Nat) (hk : k < ls.length), xl c (i * 40 + k) = ls[k]) : ∀ (m n k : Nat) (rc rv : Nat → Int32) (rb : Nat → Nat → Int32), ls.length - k = m → k ≤ ls.length → m < n → XOut rc rv rb 3 (L ++ ls.take k) → ∃ rc' rv' rb', itr4 (p_X2_pushLetters_L9 c (nI i) (lN ls.length) xl) n (nI k) rc rv rb = some (rc', rv', rb') ∧ XOut rc' rv' rb' 3 (L ++ ls) ∧ FrR 3 rc rv rb rc' rv' rb' := by
  intro m
  induction m with
  | zero =>
    intro n k rc rv rb h1 h2 h3 h
    have : k = ls.length := by omega
    subst this
    cases n with
    | zero => omega
    | succ n =>
      rw [List.take_length] at h
      refine ⟨rc, rv, rb, ?_, h, FrR.rf⟩
      show p_X2_pushLetters_L9 c (nI i) (lN ls.length) xl _ (nI ls.length) rc rv rb = _
      rw [p_X2_pushLetters_L9]
      rw [i2lI (by omega), if_neg (show ¬ lN ls.length < lN ls.length by rw [ltL (by omega) (by omega)]; omega)]
      split <;> rfl
  | succ m ih =>
    intro n k rc rv rb h1 h2 h3 h
    cases n with
    | zero => omega
    | succ n =>
      have hk : k < ls.length := by omega
      obtain ⟨a1, b1, c1, e1, g1, f1⟩ := XOut_push (ls[k] &&& nI 255) h
      rw [b8_and, hb _ (List.getElem_mem hk), List.append_assoc, take_snoc hk] at g1
      obtain ⟨a2, b2, c2, e2, g2, f2⟩ := ih n (k + 1) a1 b1 c1 (by omega) (by omega) (by omega) g1
      refine ⟨a2, b2, c2, ?_, g2, f1.tr f2⟩
      show p_X2_pushLetters_L9 c (nI i) (lN ls.length) xl _ (nI k) rc rv rb = _
      rw [p_X2_pushLetters_L9, if_pos (by rw [ltI (by omega) (by omega)]; omega), i2lI (by omega), if_pos (by rw [ltL (by omega) (by omega)]; omega), X_letterAt hi (by omega), bdS1, hx k hk, e1, bdS3, addI]
      exact e2
theorem X_letters {c i : Nat} {xn : Nat → Nat → Int64} {xl : Nat → Nat → Int32} {ls L : List Int32} {rc rv : Nat → Int32} {rb : Nat → Nat → Int32} (hi : i < 200) (hl : ls.length ≤ 40) (hb : b8L ls) (hn : xn c i = lN ls.length) (hx : ∀ (k : Nat) (hk : k < ls.length), xl c (i * 40 + k) = ls[k]) (h : XOut rc rv rb 3 L) : ∃ rc' rv' rb', p_X2_pushLetters c (nI i) xn xl rc rv rb = some (rc', rv', rb') ∧ XOut rc' rv' rb' 3 (L ++ ls) ∧ FrR 3 rc rv rb rc' rv' rb' := by
  unfold p_X2_pushLetters
  rw [X_numberAt hi, bdS1, hn]
  exact X_letters_L hi hl hb hx ls.length fu 0 rc rv rb (by omega) (by omega) (by rw [fu_eq]; omega) (by simpa using h)
/-- of the chosen, what their column's kind says -/
def TVok (K : Nat) (q : TV) : Prop := q.2.length ≤ 40 ∧ b8L q.2 ∧ if K = 2 then q.1 = lN q.2.length else q.2 = []
theorem TVok_of {K : Nat} {q : TV} (h : wfv K (some q)) : TVok K q := ⟨h.1, h.2.1, h.2.2 (by simp)⟩
theorem flatMap_snoc {α β : Type} (l : List α) (a : α) (f : α → List β) : (l ++ [a]).flatMap f = l.flatMap f ++ f a := by simp
theorem X_allLetters_L {c : Nat} {xn : Nat → Nat → Int64} {xl : Nat → Nat → Int32} {wch : Nat → Int32} {cs : CS} {L : List Int32} (hc : cs.length ≤ 200) (hw : CHW wch cs) (hv : CHV xn xl c cs) (hk : ∀ p ∈ cs, TVok 2 p.2) : ∀ (m n t : Nat) (rc rv : Nat → Int32) (rb : Nat → Nat → Int32), cs.length - t = m → t ≤ cs.length → m < n → XOut rc rv rb 3 (L ++ (cs.take t).flatMap (fun p => p.2.2)) → ∃ rc' rv' rb', itr4 (p_X2_pushAllLetters_L2 c xn xl wch (nI cs.length)) n (nI t) rc rv rb = some (rc', rv', rb') ∧ XOut rc' rv' rb' 3 (L ++ cs.flatMap (fun p => p.2.2)) ∧ FrR 3 rc rv rb rc' rv' rb' := by
  intro m
  induction m with
  | zero =>
    intro n t rc rv rb h1 h2 h3 h
    have : t = cs.length := by omega
    subst this
    cases n with
    | zero => omega
    | succ n =>
      rw [List.take_length] at h
      refine ⟨rc, rv, rb, ?_, h, FrR.rf⟩
      show p_X2_pushAllLetters_L2 c xn xl wch (nI cs.length) _ (nI cs.length) rc rv rb = _
      rw [p_X2_pushAllLetters_L2, if_neg (show ¬ nI cs.length < nI cs.length by rw [ltI (by omega) (by omega)]; omega)]
  | succ m ih =>
    intro n t rc rv rb h1 h2 h3 h
    cases n with
    | zero => omega
    | succ n =>
      have ht : t < cs.length := by omega
      obtain ⟨w1, w2⟩ := hw t ht
      obtain ⟨k1, k2, k3⟩ := hk _ (List.getElem_mem ht)
      rw [if_pos rfl] at k3
      obtain ⟨v1, v2⟩ := hv t ht
      obtain ⟨a1, b1, c1, e1, g1, f1⟩ := X_letters (xn := xn) w2 k1 k2 (v1.trans k3) v2 h
      rw [List.append_assoc, ← flatMap_snoc (cs.take t) cs[t] (fun p => p.2.2), take_snoc ht] at g1
      obtain ⟨a2, b2, c2, e2, g2, f2⟩ := ih n (t + 1) a1 b1 c1 (by omega) (by omega) (by omega) g1
      refine ⟨a2, b2, c2, ?_, g2, f1.tr f2⟩
      show p_X2_pushAllLetters_L2 c xn xl wch (nI cs.length) _ (nI t) rc rv rb = _
      rw [p_X2_pushAllLetters_L2, if_pos (by rw [ltI (by omega) (by omega)]; omega), if_pos (by rw [ltI (by omega) (by omega)]; omega), inbI (by omega), gdD (by omega), ixI (by omega), w1, e1, bdS3, addI]
      exact e2
theorem X_plain_L {c K : Nat} {xk : Nat → Int32} {xn : Nat → Nat → Int64} {xl : Nat → Nat → Int32} {wch : Nat → Int32} {cs : CS} {la : Nat → Nat → Int64} {L : List Int32} (hK : xk c = nI K) (hK3 : K ≤ 2) (hc : cs.length ≤ 200) (hw : CHW wch cs) (hv : CHV xn xl c cs) (hk : ∀ p ∈ cs, TVok K p.2) : ∀ (m n t : Nat) (rc rv : Nat → Int32) (rb : Nat → Nat → Int32), cs.length - t = m → t ≤ cs.length → m < n → XOut rc rv rb 3 (L ++ (cs.take t).flatMap (fun p => plB K p.2)) → ∃ rc' rv' rb', itr4 (p_X2_pushPlain_L43 c xk xn xl la wch (nI cs.length)) n (nI t) rc rv rb = some (rc', rv', rb', la) ∧ XOut rc' rv' rb' 3 (L ++ cs.flatMap (fun p => plB K p.2)) ∧ FrR 3 rc rv rb rc' rv' rb' := by
  intro m
  induction m with
  | zero =>
    intro n t rc rv rb h1 h2 h3 h
    have : t = cs.length := by omega
    subst this
    cases n with
    | zero => omega
    | succ n =>
      rw [List.take_length] at h
      refine ⟨rc, rv, rb, ?_, h, FrR.rf⟩
      show p_X2_pushPlain_L43 c xk xn xl la wch (nI cs.length) _ (nI cs.length) rc rv rb = _
      rw [p_X2_pushPlain_L43, if_neg (show ¬ nI cs.length < nI cs.length by rw [ltI (by omega) (by omega)]; omega)]
  | succ m ih =>
    intro n t rc rv rb h1 h2 h3 h
    cases n with
    | zero => omega
    | succ n =>
      have ht : t < cs.length := by omega
      obtain ⟨w1, w2⟩ := hw t ht
      obtain ⟨k1, k2, k3⟩ := hk _ (List.getElem_mem ht)
      obtain ⟨v1, v2⟩ := hv t ht
      show ∃ rc' rv' rb', p_X2_pushPlain_L43 c xk xn xl la wch (nI cs.length) _ (nI t) rc rv rb = _ ∧ _
      rw [p_X2_pushPlain_L43, if_pos (by rw [ltI (by omega) (by omega)]; omega), if_pos (by rw [ltI (by omega) (by omega)]; omega), inbI (by omega), gdD (by omega), ixI (by omega), w1, X_numberAt w2, bdS1, hK]
      have step : ∀ N, N ≤ 8 → N = (if K = 1 then 8 else 4) → ∃ rc' rv' rb', p_X2_pushPlain_J88 c (nI t) (xn c cs[t].1) (nI N) xk xn xl rc rv rb wch (itr4 (p_X2_pushPlain_L43 c xk xn xl la wch (nI cs.length)) n) = some (rc', rv', rb', la) ∧ XOut rc' rv' rb' 3 (L ++ cs.flatMap (fun p => plB K p.2)) ∧ FrR 3 rc rv rb rc' rv' rb' := by
        intro N hN hNe
        obtain ⟨a0, b0, c0, e0, g0, f0⟩ := X_lit (N := N) (w := xn c cs[t].1) hN h
        rw [p_X2_pushPlain_J88, e0, bdS3, hK]
        by_cases h2 : K = 2
        · subst h2
          rw [if_pos rfl] at k3
          rw [if_pos rfl, inbI (by omega), gdD (by omega), ixI (by omega), w1, addI]
          obtain ⟨a1, b1, c1, e1, g1, f1⟩ := X_letters (xn := xn) w2 k1 k2 (v1.trans k3) v2 g0
          rw [v1, hNe, List.append_assoc, List.append_assoc, show litB cs[t].2.1 (if 2 = 1 then 8 else 4) ++ cs[t].2.2 = plB 2 cs[t].2 from rfl, ← flatMap_snoc (cs.take t) cs[t] (fun p => plB 2 p.2), take_snoc ht] at g1
          obtain ⟨a2, b2, c2, e2, g2, f2⟩ := ih n (t + 1) a1 b1 c1 (by omega) (by omega) (by omega) g1
          exact ⟨a2, b2, c2, by rw [e1, bdS3]; exact e2, g2, (f0.tr f1).tr f2⟩
        · rw [if_neg h2] at k3
          have g1 : XOut a0 b0 c0 3 (L ++ (cs.take (t + 1)).flatMap (fun p => plB K p.2)) := by
            have ep : plB K cs[t].2 = litB (xn c cs[t].1) N := by
              unfold plB
              rw [k3, List.append_nil, ← hNe, ← v1]
            rw [← take_snoc ht, flatMap_snoc, ep, ← List.append_assoc]
            exact g0
          obtain ⟨a2, b2, c2, e2, g2, f2⟩ := ih n (t + 1) a0 b0 c0 (by omega) (by omega) (by omega) g1
          rw [if_neg (by rw [eqI (by omega) (by omega)]; exact h2), addI]
          exact ⟨a2, b2, c2, e2, g2, f0.tr f2⟩
      by_cases h1 : K = 1
      · rw [if_pos (by rw [h1])]
        exact step 8 (by omega) (by rw [if_pos h1])
      · rw [if_neg (by rw [eqI (by omega) (by omega)]; exact h1)]
        exact step 4 (by omega) (by rw [if_neg h1])
