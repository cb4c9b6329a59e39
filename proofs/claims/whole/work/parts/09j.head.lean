/-! heads, lengths ahead of rows, texts -/
def headB (what n cnt code : Nat) : List Int32 := [b8 (nI 21)] ++ varB (zz (lN what)) ++ [b8 (nI 21)] ++ varB (zz (lN n)) ++ [b8 (nI 21)] ++ varB (zz (lN n)) ++ [b8 (nI (if what = 0 then 44 else 76))] ++ [b8 (nI 21)] ++ varB (zz (lN cnt)) ++ [b8 (nI 21)] ++ varB (zz (lN code)) ++ [b8 (nI 0)] ++ [b8 (nI 0)]
theorem M_head {what n cnt code : Nat} {L : List Int32} {md : Nat → Int32} {mdd : Int32} (h1 : what < 2 ^ 31) (h2 : n < 2 ^ 31) (h3 : cnt < 2 ^ 31) (h4 : code < 2 ^ 31) (hL : L.length + (headB what n cnt code).length ≤ 60000) (h : MOut md mdd L) : ∃ md' mdd', p_X6_head (nI what) (nI n) (nI cnt) (nI code) md mdd = some (md', mdd') ∧ MOut md' mdd' (L ++ headB what n cnt code) := by
  unfold headB at hL ⊢
  simp only [List.length_append, List.length_cons, List.length_nil] at hL
  obtain ⟨d1, c1, e1, g1⟩ := MOut_byte (nI 21) h (by omega)
  obtain ⟨d2, c2, e2, g2⟩ := M_zig (v := lN what) (by simp only [List.length_append, List.length_cons, List.length_nil]; omega) g1
  obtain ⟨d3, c3, e3, g3⟩ := MOut_byte (nI 21) g2 (by simp only [List.length_append, List.length_cons, List.length_nil]; omega)
  obtain ⟨d4, c4, e4, g4⟩ := M_zig (v := lN n) (by simp only [List.length_append, List.length_cons, List.length_nil]; omega) g3
  obtain ⟨d5, c5, e5, g5⟩ := MOut_byte (nI 21) g4 (by simp only [List.length_append, List.length_cons, List.length_nil]; omega)
  obtain ⟨d6, c6, e6, g6⟩ := M_zig (v := lN n) (by simp only [List.length_append, List.length_cons, List.length_nil]; omega) g5
  obtain ⟨d7, c7, e7, g7⟩ := MOut_byte (nI (if what = 0 then 44 else 76)) g6 (by simp only [List.length_append, List.length_cons, List.length_nil]; omega)
  obtain ⟨d8, c8, e8, g8⟩ := MOut_byte (nI 21) g7 (by simp only [List.length_append, List.length_cons, List.length_nil]; omega)
  obtain ⟨d9, c9, e9, g9⟩ := M_zig (v := lN cnt) (by simp only [List.length_append, List.length_cons, List.length_nil]; omega) g8
  obtain ⟨d10, c10, e10, g10⟩ := MOut_byte (nI 21) g9 (by simp only [List.length_append, List.length_cons, List.length_nil]; omega)
  obtain ⟨d11, c11, e11, g11⟩ := M_zig (v := lN code) (by simp only [List.length_append, List.length_cons, List.length_nil]; omega) g10
  obtain ⟨d12, c12, e12, g12⟩ := MOut_byte (nI 0) g11 (by simp only [List.length_append, List.length_cons, List.length_nil]; omega)
  obtain ⟨d13, c13, e13, g13⟩ := MOut_byte (nI 0) g12 (by simp only [List.length_append, List.length_cons, List.length_nil]; omega)
  refine ⟨d13, c13, ?_, by simpa [List.append_assoc] using g13⟩
  unfold p_X6_head
  rw [i2lI h1, i2lI h2, e1, bdS2, e2, bdS2, e3, bdS2, e4, bdS2, e5, bdS2, e6, bdS2]
  by_cases h0 : what = 0
  · rw [if_pos (by rw [eqI h1 (by omega)]; exact h0), p_X6_head_J48, i2lI h3, i2lI h4]
    rw [if_pos h0] at e7
    rw [e7, bdS2, e8, bdS2, e9, bdS2, e10, bdS2, e11, bdS2, e12, bdS2, e13, bdS2]
  · rw [if_neg (by rw [eqI h1 (by omega)]; exact h0), p_X6_head_J48, i2lI h3, i2lI h4]
    rw [if_neg h0] at e7
    rw [e7, bdS2, e8, bdS2, e9, bdS2, e10, bdS2, e11, bdS2, e12, bdS2, e13, bdS2]
theorem X_head {what n cnt code : Nat} {L : List Int32} {rc rv : Nat → Int32} {rb : Nat → Nat → Int32} (h1 : what < 2 ^ 31) (h2 : n < 2 ^ 31) (h3 : cnt < 2 ^ 31) (h4 : code < 2 ^ 31) (hn : rc 3 = nI n) (h : XOut rc rv rb 2 L) : ∃ rc' rv' rb', p_X2_pushHead (nI what) (nI cnt) (nI code) rc rv rb = some (rc', rv', rb') ∧ XOut rc' rv' rb' 2 (L ++ headB what n cnt code) ∧ FrR 2 rc rv rb rc' rv' rb' := by
  unfold headB
  obtain ⟨a1, b1, c1, e1, g1, f1⟩ := XOut_push (nI 21) h
  obtain ⟨a2, b2, c2, e2, g2, f2⟩ := X_var (v := zz (lN what)) g1
  obtain ⟨a3, b3, c3, e3, g3, f3⟩ := XOut_push (nI 21) g2
  obtain ⟨a4, b4, c4, e4, g4, f4⟩ := X_var (v := zz (lN n)) g3
  obtain ⟨a5, b5, c5, e5, g5, f5⟩ := XOut_push (nI 21) g4
  obtain ⟨a6, b6, c6, e6, g6, f6⟩ := X_var (v := zz (lN n)) g5
  obtain ⟨a7, b7, c7, e7, g7, f7⟩ := XOut_push (nI (if what = 0 then 44 else 76)) g6
  obtain ⟨a8, b8, c8, e8, g8, f8⟩ := XOut_push (nI 21) g7
  obtain ⟨a9, b9, c9, e9, g9, f9⟩ := X_var (v := zz (lN cnt)) g8
  obtain ⟨a10, b10, c10, e10, g10, f10⟩ := XOut_push (nI 21) g9
  obtain ⟨a11, b11, c11, e11, g11, f11⟩ := X_var (v := zz (lN code)) g10
  obtain ⟨a12, b12, c12, e12, g12, f12⟩ := XOut_push (nI 0) g11
  obtain ⟨a13, b13, c13, e13, g13, f13⟩ := XOut_push (nI 0) g12
  have fA := (f1.tr f2).tr f3
  have fB := (fA.tr f4).tr f5
  have n3 : a3 3 = nI n := (fA 3 (by omega)).1.trans hn
  have n5 : a5 3 = nI n := (fB 3 (by omega)).1.trans hn
  refine ⟨a13, b13, c13, ?_, by simpa [List.append_assoc] using g13, ((((((((fB.tr f6).tr f7).tr f8).tr f9).tr f10).tr f11).tr f12).tr f13)⟩
  unfold p_X2_pushHead
  rw [i2lI h1, X_zigged, e1, bdS3, bdS1, e2, bdS3, e3, bdS3, n3, i2lI h2, X_zigged, bdS1, e4, bdS3, e5, bdS3, n5, i2lI h2, X_zigged, bdS1, e6, bdS3]
  by_cases h0 : what = 0
  · rw [if_pos (by rw [eqI h1 (by omega)]; exact h0), p_X2_pushHead_J90, i2lI h3, i2lI h4, X_zigged, X_zigged]
    rw [if_pos h0] at e7
    rw [e7, bdS3, e8, bdS3, bdS1, e9, bdS3, e10, bdS3, bdS1, e11, bdS3, e12, bdS3, e13, bdS3]
  · rw [if_neg (by rw [eqI h1 (by omega)]; exact h0), p_X2_pushHead_J90, i2lI h3, i2lI h4, X_zigged, X_zigged]
    rw [if_neg h0] at e7
    rw [e7, bdS3, e8, bdS3, bdS1, e9, bdS3, e10, bdS3, bdS1, e11, bdS3, e12, bdS3, e13, bdS3]
def b8L (l : List Int32) : Prop := ∀ x ∈ l, b8 x = x
theorem b8L.app {l m : List Int32} (h1 : b8L l) (h2 : b8L m) : b8L (l ++ m) := fun x hx => (List.mem_append.mp hx).elim (h1 x) (h2 x)
theorem b8L.one (x : Int32) : b8L [b8 x] := fun y hy => by rw [List.mem_singleton.mp hy, b8_b8']
theorem b8L_lit (w : Int64) (n : Nat) : b8L (litB w n) := by
  intro x hx
  obtain ⟨k, -, rfl⟩ := List.mem_map.mp hx
  exact b8_b8' _
theorem b8L_varn : ∀ (n : Nat) (v : Int64), b8L (varBn n v) := by
  intro n
  induction n with
  | zero => intro v; exact b8L.one _
  | succ n ih =>
    intro v
    unfold varBn
    split
    · exact b8L.one _
    · intro x hx
      rcases List.mem_cons.mp hx with h | h
      · rw [h, b8_b8']
      · exact ih _ x h
theorem b8L_var (v : Int64) : b8L (varB v) := b8L_varn 9 v
theorem b8L_pst (x : Int32) (s : PS) (h : b8L s.2.2) : b8L (pst x s).2.2 := by
  unfold pst
  split
  · exact h.app (b8L.one _)
  · exact h
theorem b8L_pbits (x : Int64) (k : Nat) (s : PS) (h : b8L s.2.2) : b8L (pbits x k s).2.2 := by
  induction k with
  | zero => exact h
  | succ k ih => exact b8L_pst _ _ ih
theorem b8L_pnums (g : Nat → Int64) (w j : Nat) (s : PS) (h : b8L s.2.2) : b8L (pnums g w j s).2.2 := by
  induction j with
  | zero => exact h
  | succ j ih => exact b8L_pbits _ _ _ ih
theorem b8L_nil : b8L [] := fun x hx => by cases hx
theorem b8L_pack (g : Nat → Int64) (w c : Nat) : b8L (packB g w c) := b8L_pnums g w c _ b8L_nil
theorem b8L_runs (g : Nat → Int64) (w n : Nat) : ∀ (f a : Nat), b8L (runsB g w n f a) := by
  intro f
  induction f with
  | zero => intro a; exact b8L_nil
  | succ f ih =>
    intro a
    unfold runsB
    split
    · split
      · exact ((b8L_var _).app (b8L_pack _ _ _)).app (ih _)
      · exact ((b8L_var _).app (b8L_lit _ _)).app (ih _)
    · exact b8L_nil
theorem b8L_wds (lo : Nat → Int64) (a e p : Nat) : b8L (wdsN lo a e p) := by
  induction p with
  | zero => exact b8L_nil
  | succ p ih => exact ih.app (b8L.one _)
theorem b8L_pks (lo : Nat → Int64) (a e p : Nat) : b8L (pksN lo a e p) := by
  induction p with
  | zero => exact b8L_nil
  | succ p ih =>
    unfold pksN
    refine ih.app ?_
    split
    · exact b8L_pack _ _ _
    · exact b8L_nil
theorem b8L_blks (ints : Nat) (st : Nat → Int64) (N : Nat) : ∀ (f a : Nat), b8L (blksB ints st N f a) := by
  intro f
  induction f with
  | zero => intro a; exact b8L_nil
  | succ f ih =>
    intro a
    unfold blksB
    split
    · unfold blkB
      exact ((b8L_var _).app ((b8L_wds _ _ _ _).app (b8L_pks _ _ _ _))).app (ih _)
    · exact b8L_nil
theorem b8L_diff (g : Nat → Int64) (n ints : Nat) : b8L (diffB g n ints) := by
  unfold diffB
  exact (b8L_var _).app ((b8L_var _).app ((b8L_var _).app ((b8L_var _).app (b8L_blks _ _ _ _ _))))
theorem b8L_head (a b c d : Nat) : b8L (headB a b c d) := by
  unfold headB
  exact ((((((((((((b8L.one _).app (b8L_var _)).app (b8L.one _)).app (b8L_var _)).app (b8L.one _)).app (b8L_var _)).app (b8L.one _)).app (b8L.one _)).app (b8L_var _)).app (b8L.one _)).app (b8L_var _)).app (b8L.one _)).app (b8L.one _)
-- the reference moves what it drafted to make room
theorem M_mv_L {F n0 : Nat} {md : Nat → Int32} {kx : (Nat → Int32) → Option ((Nat → Int32) × Int32 × (Nat → Int32))} {B : List Int32} (hB : B.length = n0) (hb : b8L B) (hn : n0 ≤ 20000) (hF : F + n0 ≤ 60000) (hmd : ∀ (k : Nat) (h : k < B.length), md (F + k) = B[k]) : ∀ (m n i : Nat) (mbb : Nat → Int32), n0 - i = m → i ≤ n0 → m < n → (∀ (k : Nat) (h : k < B.length), k < i → mbb k = B[k]) → ∃ mbb', itr2 (p_X6_headed_L11 (nI F) (nI n0) md kx) n (nI i) mbb = kx mbb' ∧ ∀ (k : Nat) (h : k < B.length), mbb' k = B[k] := by
  intro m
  induction m with
  | zero =>
    intro n i mbb h1 h2 h3 h
    cases n with
    | zero => omega
    | succ n =>
      refine ⟨mbb, ?_, fun k hk => h k hk (by omega)⟩
      show p_X6_headed_L11 (nI F) (nI n0) md kx _ (nI i) mbb = _
      rw [p_X6_headed_L11, if_neg (by rw [ltI (by omega) (by omega)]; omega)]
  | succ m ih =>
    intro n i mbb h1 h2 h3 h
    cases n with
    | zero => omega
    | succ n =>
      obtain ⟨mbb', e1, g1⟩ := ih n (i + 1) (up mbb i (b8 (md (F + i)))) (by omega) (by omega) (by omega) (fun k hk hki => by
        unfold up
        by_cases e : k = i
        · subst e
          rw [if_pos rfl, hmd k hk, hb _ (List.getElem_mem hk)]
        · rw [if_neg e, h k hk (by omega)])
      refine ⟨mbb', ?_, g1⟩
      show p_X6_headed_L11 (nI F) (nI n0) md kx _ (nI i) mbb = _
      rw [p_X6_headed_L11, if_pos (by rw [ltI (by omega) (by omega)]; omega), addI, inbI (by omega), gdD (by omega), inbI (by omega), gdD (by omega), ixI (by omega), ixI (by omega), addI]
      exact e1
theorem M_mv2_L {F n0 : Nat} {md : Nat → Int32} {kx : (Nat → Int32) → Option ((Nat → Int32) × Int32 × (Nat → Int32))} {B : List Int32} (hB : B.length = n0) (hb : b8L B) (hn : n0 ≤ 20000) (hF : F + n0 ≤ 60000) (hmd : ∀ (k : Nat) (h : k < B.length), md (F + k) = B[k]) : ∀ (m n i : Nat) (mbb : Nat → Int32), n0 - i = m → i ≤ n0 → m < n → (∀ (k : Nat) (h : k < B.length), k < i → mbb k = B[k]) → ∃ mbb', itr2 (p_X6_sized_L9 (nI F) (nI n0) md kx) n (nI i) mbb = kx mbb' ∧ ∀ (k : Nat) (h : k < B.length), mbb' k = B[k] := by
  intro m n i mbb
  exact M_mv_L (F := F) (n0 := n0) (md := md) (kx := kx) hB hb hn hF hmd m n i mbb
theorem M_back_L {n0 : Nat} {mbb : Nat → Int32} {L B : List Int32} (hB : B.length = n0) (hb : b8L B) (hn : n0 ≤ 20000) (hL : L.length + n0 ≤ 60000) (hm : ∀ (k : Nat) (h : k < B.length), mbb k = B[k]) : ∀ (m n i : Nat) (md : Nat → Int32) (mdd : Int32), n0 - i = m → i ≤ n0 → m < n → MOut md mdd (L ++ B.take i) → ∃ md' mdd', itr3 (p_X6_headed_L58 (nI n0) mbb) n (nI i) md mdd = some (md', mdd', mbb) ∧ MOut md' mdd' (L ++ B) := by
  intro m
  induction m with
  | zero =>
    intro n i md mdd h1 h2 h3 h
    have : i = n0 := by omega
    subst this
    cases n with
    | zero => omega
    | succ n =>
      rw [← hB, List.take_length] at h
      refine ⟨md, mdd, ?_, h⟩
      show p_X6_headed_L58 (nI i) mbb _ (nI i) md mdd = _
      rw [p_X6_headed_L58, if_neg (by rw [ltI (by omega) (by omega)]; omega)]
  | succ m ih =>
    intro n i md mdd h1 h2 h3 h
    cases n with
    | zero => omega
    | succ n =>
      have hi : i < B.length := by omega
      obtain ⟨md1, mdd1, e1, g1⟩ := MOut_byte (mbb i) h (by rw [List.length_append, List.length_take]; omega)
      rw [hm i hi, hb _ (List.getElem_mem hi), List.append_assoc, take_snoc hi] at g1
      obtain ⟨md2, mdd2, e2, g2⟩ := ih n (i + 1) md1 mdd1 (by omega) (by omega) (by omega) g1
      refine ⟨md2, mdd2, ?_, g2⟩
      show p_X6_headed_L58 (nI n0) mbb _ (nI i) md mdd = _
      rw [p_X6_headed_L58, if_pos (by rw [ltI (by omega) (by omega)]; omega), inbI (by omega), gdD (by omega), ixI (by omega), e1, bdS2, addI]
      exact e2
theorem MOut.cut {md : Nat → Int32} {mdd : Int32} {L B : List Int32} (h : MOut md mdd (L ++ B)) : MOut md (nI L.length) L ∧ (∀ (k : Nat) (h : k < B.length), md (L.length + k) = B[k]) ∧ mdd = nI (L.length + B.length) := by
  obtain ⟨h1, h2⟩ := h
  refine ⟨⟨rfl, fun k hk => ?_⟩, fun k hk => ?_, by rw [h1, List.length_append]⟩
  · rw [h2 k (by rw [List.length_append]; omega), List.getElem_append_left hk]
  · rw [h2 (L.length + k) (by rw [List.length_append]; omega), List.getElem_append_right (by omega)]
    simp
theorem M_headed {what cnt code : Nat} {L B : List Int32} {md mbb : Nat → Int32} {mdd : Int32} (h1 : what < 2 ^ 31) (h3 : cnt < 2 ^ 31) (h4 : code < 2 ^ 31) (hb : b8L B) (hn : B.length ≤ 20000) (hL : L.length + (headB what B.length cnt code).length + B.length ≤ 60000) (h : MOut md mdd (L ++ B)) : ∃ md' mdd' mbb', p_X6_headed (nI L.length) (nI what) (nI cnt) (nI code) md mdd mbb = some (md', mdd', mbb') ∧ MOut md' mdd' (L ++ (headB what B.length cnt code ++ B)) := by
  obtain ⟨c1, c2, c3⟩ := h.cut
  obtain ⟨md1, mdd1, e1, g1⟩ := M_head (n := B.length) h1 (by omega) h3 h4 (by omega) c1
  obtain ⟨mbb', e2, g2⟩ := M_mv_L (F := L.length) (n0 := B.length) (md := md) (kx := fun mbb_3 =>
      bd2 (p_X6_head (nI what) (nI B.length) (nI cnt) (nI code) md (nI L.length)) <| fun md_4 mdd_5 =>
      itr3 (p_X6_headed_L58 (nI B.length) mbb_3 ) fu (nI 0) md_4 mdd_5) rfl hb hn (by omega) c2 B.length fu 0 mbb (by omega) (by omega) (by rw [fu_eq]; omega) (fun k _ hk => by omega)
  obtain ⟨md3, mdd3, e3, g3⟩ := M_back_L (n0 := B.length) (mbb := mbb') (L := L ++ headB what B.length cnt code) rfl hb hn (by rw [List.length_append]; omega) g2 B.length fu 0 md1 mdd1 (by omega) (by omega) (by rw [fu_eq]; omega) (by simpa using g1)
  refine ⟨md3, mdd3, mbb', ?_, by simpa [List.append_assoc] using g3⟩
  unfold p_X6_headed
  rw [c3, subI (by omega), Nat.add_sub_cancel_left]
  refine e2.trans ?_
  rw [e1, bdS2]
  exact e3
theorem M_sized {L B : List Int32} {md mbb : Nat → Int32} {mdd : Int32} (hb : b8L B) (hn : B.length ≤ 20000) (hL : L.length + 4 + B.length ≤ 60000) (h : MOut md mdd (L ++ B)) : ∃ md' mdd' mbb', p_X6_sized (nI L.length) md mdd mbb = some (md', mdd', mbb') ∧ MOut md' mdd' (L ++ (litB (lN B.length) 4 ++ B)) := by
  obtain ⟨c1, c2, c3⟩ := h.cut
  obtain ⟨md1, mdd1, e1, g1⟩ := M_lit (N := 4) (w := lN B.length) (by omega) (by omega) c1
  obtain ⟨mbb', e2, g2⟩ := M_mv2_L (F := L.length) (n0 := B.length) (md := md) (kx := fun mbb_3 =>
      bd2 (p_X6_bytesTo (lN B.length) (nI 4) md (nI L.length)) <| fun md_4 mdd_5 =>
      itr3 (p_X6_sized_L48 (nI B.length) mbb_3 ) fu (nI 0) md_4 mdd_5) rfl hb hn (by omega) c2 B.length fu 0 mbb (by omega) (by omega) (by rw [fu_eq]; omega) (fun k _ hk => by omega)
  obtain ⟨md3, mdd3, e3, g3⟩ := M_back_L (n0 := B.length) (mbb := mbb') (L := L ++ litB (lN B.length) 4) rfl hb hn (by rw [List.length_append, litB_len]; omega) g2 B.length fu 0 md1 mdd1 (by omega) (by omega) (by rw [fu_eq]; omega) (by simpa using g1)
  refine ⟨md3, mdd3, mbb', ?_, by simpa [List.append_assoc] using g3⟩
  unfold p_X6_sized
  rw [c3, subI (by omega), Nat.add_sub_cancel_left, i2lI (by omega)]
  refine e2.trans ?_
  rw [e1, bdS2]
  exact e3
