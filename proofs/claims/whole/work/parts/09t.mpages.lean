/-! lengths of what is written -/
theorem head_len (a n b d : Nat) : (headB a n b d).length ≤ 58 := by
  have h1 := varB_len (zz (lN a))
  have h2 := varB_len (zz (lN n))
  have h3 := varB_len (zz (lN b))
  have h4 := varB_len (zz (lN d))
  unfold headB
  simp only [List.length_append, List.length_cons, List.length_nil]
  omega
theorem own_len (l : List Int64) : (ownB l).length ≤ 12 * l.length + 84 := by
  unfold ownB
  have := runsB_len (g := fn l) (w := 1) (n := l.length) (by omega) l.length 0
  rw [List.length_append, litB_len]
  omega
theorem blks_len {ints : Nat} {st : Nat → Int64} {N : Nat} (h : N < 200) : (blksB ints st N 2 0).length ≤ if N = 0 then 0 else 11 * N + 262 := by
  unfold blksB
  by_cases h0 : N = 0
  · rw [if_pos h0, if_neg (by omega)]
    simp
  · have b1 := blkB_len (ints := ints) (st := st) (a := 0) (e := min (0 + 128) N) (by omega)
    rw [if_neg h0, if_pos (by omega)]
    unfold blksB
    by_cases h1 : 0 + 128 < N
    · have b2 := blkB_len (ints := ints) (st := st) (a := 0 + 128) (e := min (0 + 128 + 128) N) (by omega)
      rw [if_pos h1]
      unfold blksB
      simp only [List.length_append, List.length_nil]
      omega
    · rw [if_neg h1]
      simp only [List.length_append, List.length_nil]
      omega
theorem diff_len {g : Nat → Int64} {n ints : Nat} (h : n ≤ 200) : (diffB g n ints).length ≤ 40 + 273 * (n - 1) ∧ (diffB g n ints).length ≤ 11 * n + 302 := by
  have h1 := varB_len (lN 128)
  have h2 := varB_len (lN 4)
  have h3 := varB_len (lN n)
  have h4 := varB_len (zz (if n = 0 then lN 0 else g 0))
  have h5 := blks_len (ints := ints) (st := dstep ints g) (N := n - 1) (by omega)
  unfold diffB
  simp only [List.length_append]
  generalize (varB (zz (if n = 0 then lN 0 else g 0))).length = d at *
  split at h5
  · omega
  · omega
theorem flat_len {Q : List TV} {f : TV → List Int32} {B : Nat} (h : ∀ q ∈ Q, (f q).length ≤ B) : (Q.flatMap f).length ≤ B * Q.length := by
  induction Q with
  | nil => simp
  | cons q Q ih =>
    rw [List.flatMap_cons, List.length_append, List.length_cons]
    have h1 := h q (by simp)
    have h2 := ih (fun x hx => h x (by simp [hx]))
    rw [Nat.mul_succ]
    omega
theorem pl_len {K : Nat} {q : TV} (h : TVok K q) : (plB K q).length ≤ 44 := by
  unfold plB
  rw [List.length_append, litB_len]
  by_cases k1 : K = 1
  · subst k1
    have := h.2.2
    rw [if_neg (by omega)] at this
    rw [this]
    simp
  · rw [if_neg k1]
    have := h.1
    omega
theorem body_len {K code : Nat} {Q : List TV} {pls : List Int64} {w m : Nat} (hQ : ∀ q ∈ Q, TVok K q) (hm : Q.length ≤ m) (h200 : m ≤ 200) (h1 : 1 ≤ m) (hw : w ≤ 8) (hc : code = 0 ∨ code = 3 ∨ code = 5 ∨ code = 6 ∨ code = 8) : (code = 8 → (bodyB K code Q pls w).length ≤ 12 * m + 81) ∧ (code ≠ 8 → (bodyB K code Q pls w).length ≤ 51 * m + 302 ∧ (m = 1 → (bodyB K code Q pls w).length ≤ 96)) := by
  unfold bodyB
  rcases hc with c | c | c | c | c <;> subst c
  · refine ⟨fun h => by omega, fun _ => ?_⟩
    rw [if_pos rfl]
    by_cases k3 : K = 3
    · rw [if_pos k3, packB_len]
      omega
    · rw [if_neg k3]
      have := flat_len (f := plB K) (fun q hq => pl_len (hQ q hq))
      omega
  · refine ⟨fun h => by omega, fun _ => ?_⟩
    rw [if_neg (by omega), if_pos rfl]
    have hr := own_len (Q.map Prod.fst)
    rw [List.length_map] at hr
    omega
  · refine ⟨fun h => by omega, fun _ => ?_⟩
    rw [if_neg (by omega), if_neg (by omega), if_pos rfl]
    have := diff_len (g := fn (Q.map Prod.fst)) (n := Q.length) (ints := if K = 0 then 1 else 0) (by omega)
    omega
  · refine ⟨fun h => by omega, fun _ => ?_⟩
    rw [if_neg (by omega), if_neg (by omega), if_neg (by omega), if_pos rfl, List.length_append]
    have := diff_len (g := fn (Q.map Prod.fst)) (n := Q.length) (ints := 1) (by omega)
    have h2 := flat_len (f := Prod.snd) (B := 40) (fun q hq => (hQ q hq).1)
    omega
  · refine ⟨fun _ => ?_, fun h => absurd rfl h⟩
    rw [if_neg (by omega), if_neg (by omega), if_neg (by omega), if_neg (by omega), List.length_append, List.length_cons, List.length_nil]
    have hr := runsB_len (g := fn pls) (w := w) (n := Q.length) hw Q.length 0
    omega
theorem codeOf_in {K way : Nat} : codeOf K way = 0 ∨ codeOf K way = 3 ∨ codeOf K way = 5 ∨ codeOf K way = 6 ∨ codeOf K way = 8 := by
  unfold codeOf
  split
  · omega
  · split
    · omega
    · split
      · omega
      · split <;> omega
theorem tq_ok {K : Nat} {pv : List AV} (h : ∀ a ∈ pv, wfv K a) : ∀ q ∈ tq pv, TVok K q := fun q hq => TVok_of (h _ (tq_mem.mp hq))
theorem pbody_len {K O code : Nat} {pv : List AV} {pls : List Int64} {w : Nat} (hw : ∀ a ∈ pv, wfv K a) (h200 : pv.length ≤ 200) (h1 : 1 ≤ pv.length) (h8 : w ≤ 8) (hc : code = 0 ∨ code = 3 ∨ code = 5 ∨ code = 6 ∨ code = 8) : (pbodyB K O code pv pls w).length ≤ 20000 ∧ (pageB K O code pv pls w).length ≤ if code = 8 then 247 * pv.length else 300 * pv.length := by
  have hb := body_len (K := K) (pls := pls) (tq_ok hw) (tq_le pv) h200 h1 h8 hc
  have ho := own_len (pv.map (fun a => lN (th a)))
  rw [List.length_map] at ho
  have hh := head_len 0 (pbodyB K O code pv pls w).length pv.length code
  have hp : (pbodyB K O code pv pls w).length ≤ 12 * pv.length + 84 + (bodyB K code (tq pv) pls w).length := by
    unfold pbodyB
    rw [List.length_append]
    by_cases hO : O = 1
    · rw [if_pos hO]; omega
    · rw [if_neg hO]; simp
  unfold pageB
  rw [List.length_append]
  by_cases c8 : code = 8
  · have := hb.1 c8
    rw [if_pos c8]
    omega
  · have := hb.2 c8
    rw [if_neg c8]
    omega
theorem pages_len {K O code q D : Nat} {vals : List AV} {Ds : List TV} (hw : ∀ a ∈ vals, wfv K a) (h200 : vals.length ≤ 200) (hq : 1 ≤ q) (hD : Ds.length ≤ 200) (hc : code = 0 ∨ code = 3 ∨ code = 5 ∨ code = 6 ∨ code = 8) : ∀ (f a : Nat), (pagesB K O code vals Ds q f a).length ≤ (if code = 8 then 247 else 300) * (vals.length - a) := by
  intro f
  induction f with
  | zero => intro a; simp [pagesB]
  | succ f ih =>
    intro a
    rw [pagesB]
    by_cases ha : a < vals.length
    · have hl := pv_len (vals := vals) (a := a) (q := q)
      have hp := pbody_len (K := K) (O := O) (code := code) (pv := (vals.drop a).take q) (pls := plsB Ds ((vals.drop a).take q)) (w := widD Ds.length) (fun x hx => hw x (List.mem_of_mem_drop (List.mem_of_mem_take hx))) (by omega) (by omega) (widD_le hD) hc
      have hi := ih (a + q)
      have hp2 := hp.2
      rw [if_pos ha, List.length_append]
      by_cases c8 : code = 8
      · rw [if_pos c8] at hi hp2 ⊢
        omega
      · rw [if_neg c8] at hi hp2 ⊢
        omega
    · rw [if_neg ha]
      simp
theorem dict_len {K : Nat} {D : List TV} (hD : D.length ≤ 200) (h3 : K ≠ 3) (hw : ∀ d ∈ D, TVok K d) : (bodyB K 0 D [] 0).length ≤ 44 * D.length ∧ (dictB K D).length ≤ 58 + 44 * D.length := by
  have hh := head_len 2 (bodyB K 0 D [] 0).length D.length 0
  have hb : (bodyB K 0 D [] 0).length ≤ 44 * D.length := by
    unfold bodyB
    rw [if_pos rfl, if_neg h3]
    exact flat_len (fun q hq => pl_len (hw q hq))
  refine ⟨hb, ?_⟩
  unfold dictB
  rw [List.length_append]
  omega
theorem write_len {K O way q : Nat} {vals : List AV} (hw : ∀ a ∈ vals, wfv K a) (h200 : vals.length ≤ 200) (hq : 1 ≤ q) (h13 : way = 1 → K ≠ 3) : (writeB K O vals way q).length ≤ 60000 := by
  have hD := DL_len (tq vals)
  have hql := tq_le vals
  have hp := pages_len (K := K) (O := O) (q := q) (D := 0) (Ds := DL (tq vals)) hw h200 hq (by omega) (codeOf_in (K := K) (way := way)) vals.length 0
  unfold writeB
  rw [List.length_append]
  by_cases w1 : way = 1
  · have ec : codeOf K way = 8 := by unfold codeOf; rw [if_neg (by omega), if_pos w1]
    have hd := dict_len (K := K) (D := DL (tq vals)) (by omega) (h13 w1) (fun d hd => tq_ok hw d ((DL_mem _ _).mp hd))
    rw [if_pos ec] at hp
    split
    · omega
    · simp only [List.length_nil]; omega
  · rw [if_neg (fun h => w1 h.1)]
    simp only [List.length_nil]
    split at hp <;> omega
theorem b8L_pages {K O code q : Nat} {vals : List AV} {Ds : List TV} (hw : ∀ a ∈ vals, wfv K a) : ∀ (f a : Nat), b8L (pagesB K O code vals Ds q f a) := by
  intro f
  induction f with
  | zero => intro a; exact b8L_nil
  | succ f ih =>
    intro a
    rw [pagesB]
    split
    · refine b8L.app ?_ (ih _)
      unfold pageB
      exact (b8L_head _ _ _ _).app (b8L_pbody (fun t ht => (hw _ (List.mem_of_mem_drop (List.mem_of_mem_take (tq_mem.mp ht)))).2.1))
    · exact b8L_nil
theorem b8L_write {K O way q : Nat} {vals : List AV} (hw : ∀ a ∈ vals, wfv K a) : b8L (writeB K O vals way q) := by
  unfold writeB
  refine b8L.app ?_ (b8L_pages hw _ _)
  split
  · unfold dictB
    exact (b8L_head _ _ _ _).app (b8L_body (fun t ht => (hw _ (tq_mem.mp ((DL_mem _ _).mp ht))).2.1))
  · exact b8L_nil
