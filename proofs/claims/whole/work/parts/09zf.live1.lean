/-! both readers while no fault is there -/
def Src (rb : Nat → Nat → Int32) (mf : Nat → Int32) (e : Nat) : Prop := e ≤ 12000 ∧ ∀ k, k < e → rb 1 k = mf k
def Oc {α : Type} (p e : Nat) (x m : Option (α × Int32 × Int32 × Int32)) : Prop :=
  (∃ v p', p ≤ p' ∧ p' ≤ e ∧ x = some (v, nI p', nI 0, nI 0) ∧ m = some (v, nI p', nI 0, nI 0)) ∨ (∃ vx sx vm sm d q, d ≠ nI 0 ∧ x = some (vx, sx, d, q) ∧ m = some (vm, sm, d, q))
theorem b255 (x : Int32) : ∃ m, m < 256 ∧ x &&& nI 255 = nI m := by
  refine ⟨(x &&& nI 255).toNatClampNeg, ?_, ?_⟩
  · have : ∀ y : BitVec 32, (y &&& 255#32).toInt.toNat < 256 := by
      intro y
      have h : (y &&& 255#32).toNat ≤ 255 := by
        rw [BitVec.toNat_and]
        exact Nat.and_le_right
      have h2 : (y &&& 255#32).toInt = (y &&& 255#32).toNat := BitVec.toInt_eq_toNat_of_lt (by omega)
      rw [h2]
      omega
    exact this x.toBitVec
  · apply Int32.toBitVec_inj.mp
    have h : (x.toBitVec &&& 255#32).toNat ≤ 255 := by
      rw [BitVec.toNat_and]
      exact Nat.and_le_right
    have h2 : (x.toBitVec &&& 255#32).toInt = (x.toBitVec &&& 255#32).toNat := BitVec.toInt_eq_toNat_of_lt (by omega)
    show x.toBitVec &&& 255#32 = BitVec.ofNat 32 ((x.toBitVec &&& 255#32).toInt.toNat)
    rw [h2]
    apply BitVec.eq_of_toNat_eq
    rw [BitVec.toNat_ofNat, Nat.mod_eq_of_lt (by omega)]
    rfl
theorem L_next {rb : Nat → Nat → Int32} {mf : Nat → Int32} {p e : Nat} (hs : Src rb mf e) (hp : p ≤ e) : (∃ b, b < 256 ∧ p < e ∧ p_X4_next rb (some 1) (nI p) (nI e) (nI 0) (nI 0) = some (nI b, nI (p + 1), nI 0, nI 0) ∧ p_X6_next mf (nI p) (nI e) (nI 0) (nI 0) = some (nI b, nI (p + 1), nI 0, nI 0)) ∨ (p = e ∧ p_X4_next rb (some 1) (nI p) (nI e) (nI 0) (nI 0) = some (nI 0, nI p, nI 1, nI p) ∧ p_X6_next mf (nI p) (nI e) (nI 0) (nI 0) = some (nI 0, nI p, nI 1, nI p)) := by
  obtain ⟨he, hs⟩ := hs
  unfold p_X4_next p_X6_next
  have r1 : rlen 1 = 12000 := rfl
  rw [if_pos rfl, moS, gdD (by omega), if_neg (by rw [ltI (by omega) (by omega)]; omega), r1]
  by_cases h : p < e
  · left
    obtain ⟨b, hb, e1⟩ := b255 (mf p)
    refine ⟨b, hb, h, ?_, ?_⟩
    · rw [if_pos (by rw [ltI (by omega) (by omega)]; exact h), if_pos (by rw [ltI (by omega) (by omega)]; omega), inbI (by omega), gdD (by omega), ixI (by omega), hs p h, e1, addI]
    · rw [if_pos (by rw [ltI (by omega) (by omega)]; exact h), addI, subI (by omega), Nat.add_sub_cancel, inbI (by omega), gdD (by omega), ixI (by omega), e1]
  · right
    have : p = e := by omega
    subst this
    refine ⟨rfl, ?_, ?_⟩
    · rw [if_neg (by rw [ltI (by omega) (by omega)]; exact h)]
      rfl
    · rw [if_neg (by rw [ltI (by omega) (by omega)]; exact h)]
      rfl
theorem demT {c q str stp : Int32} : p_X4_demand (nI 1) c q str stp = some (str, stp) := by
  unfold p_X4_demand
  rw [if_neg (show ¬ nI 1 = nI 0 by decide), ite_self]
theorem demF {c q stp : Int32} : p_X4_demand (nI 0) c q (nI 0) stp = some (c, q) := by
  unfold p_X4_demand
  rw [if_pos rfl, if_pos rfl]
theorem L_var_L {rb : Nat → Nat → Int32} {mf : Nat → Int32} {e : Nat} (hs : Src rb mf e) : ∀ (m n k p : Nat) (v : Int64), 9 - k = m → k ≤ 9 → m + 1 < n → p ≤ e → Oc (p + 1) e (itr5 (p_X4_nextVar_L4 rb (some 1) (nI e)) n v (nI k) (nI p) (nI 0) (nI 0)) (itr5 (p_X6_readVar_L4 mf (nI e)) n v (nI k) (nI p) (nI 0) (nI 0)) := by
  have he := hs.1
  intro m
  induction m with
  | zero =>
    intro n k p v h1 h2 h3 hp
    have : k = 9 := by omega
    subst this
    cases n with
    | zero => omega
    | succ n =>
      show Oc (p + 1) e (p_X4_nextVar_L4 rb (some 1) (nI e) _ v (nI 9) (nI p) (nI 0) (nI 0)) (p_X6_readVar_L4 mf (nI e) _ v (nI 9) (nI p) (nI 0) (nI 0))
      rw [p_X4_nextVar_L4, p_X6_readVar_L4, if_pos (show nI 9 < nI 10 by decide), if_pos (show nI 9 < nI 10 by decide)]
      rcases L_next hs hp with ⟨b, hb, hlt, e1, e2⟩ | ⟨rfl, e1, e2⟩
      · rw [e1, e2, bdS4, bdS4, if_pos (show nI 9 = nI 9 from rfl), if_pos (show nI 0 = nI 0 from rfl), if_pos (show nI 9 = nI 9 from rfl)]
        by_cases h : 1 < b
        · rw [if_pos (show nI 1 < nI b by rw [ltI (by omega) (by omega)]; exact h), if_pos (show nI 1 < nI b by rw [ltI (by omega) (by omega)]; exact h), p_X4_nextVar_J48, demF, bdS2, p_X4_nextVar_J58, subI (by omega), Nat.add_sub_cancel]
          right
          cases n with
          | zero => omega
          | succ n =>
            by_cases h128 : b < 128
            · rw [if_pos (by rw [ltI (by omega) (by omega)]; exact h128)]
              exact ⟨_, _, _, _, nI 2, nI p, by decide, rfl, rfl⟩
            · rw [if_neg (by rw [ltI (by omega) (by omega)]; exact h128)]
              refine ⟨v ||| lshl (i2l (nI b &&& nI 127)) (nI 7 * nI 9), nI (p + 1), _, _, nI 2, nI p, by decide, ?_, rfl⟩
              show p_X4_nextVar_L4 rb (some 1) (nI e) _ _ (nI 10) _ _ _ = _
              rw [p_X4_nextVar_L4, if_neg (by decide)]
        · rw [if_neg (show ¬ nI 1 < nI b by rw [ltI (by omega) (by omega)]; exact h), if_neg (show ¬ nI 1 < nI b by rw [ltI (by omega) (by omega)]; exact h), p_X4_nextVar_J48, demT, bdS2, p_X4_nextVar_J58, p_X6_readVar_J54, if_pos (show nI b < nI 128 by rw [ltI (by omega) (by omega)]; omega), if_pos (show nI b < nI 128 by rw [ltI (by omega) (by omega)]; omega)]
          exact Or.inl ⟨_, p + 1, by omega, by omega, rfl, rfl⟩
      · rw [e1, e2, bdS4, bdS4, if_pos (show nI 9 = nI 9 from rfl), if_neg (show ¬ nI 1 = nI 0 by decide), if_neg (show ¬ nI 1 < nI 0 by decide), p_X4_nextVar_J48, demT, bdS2, p_X4_nextVar_J58, if_pos (show nI 0 < nI 128 by decide)]
        exact Or.inr ⟨_, _, _, _, nI 1, nI p, by decide, rfl, rfl⟩
  | succ m ih =>
    intro n k p v h1 h2 h3 hp
    cases n with
    | zero => omega
    | succ n =>
      show Oc (p + 1) e (p_X4_nextVar_L4 rb (some 1) (nI e) _ v (nI k) (nI p) (nI 0) (nI 0)) (p_X6_readVar_L4 mf (nI e) _ v (nI k) (nI p) (nI 0) (nI 0))
      rw [p_X4_nextVar_L4, p_X6_readVar_L4, if_pos (show nI k < nI 10 by rw [ltI (by omega) (by omega)]; omega), if_pos (show nI k < nI 10 by rw [ltI (by omega) (by omega)]; omega)]
      rcases L_next hs hp with ⟨b, hb, hlt, e1, e2⟩ | ⟨rfl, e1, e2⟩
      · rw [e1, e2, bdS4, bdS4, if_neg (show ¬ nI k = nI 9 by rw [eqI (by omega) (by omega)]; omega), if_pos (show nI 0 = nI 0 from rfl), if_neg (show ¬ nI k = nI 9 by rw [eqI (by omega) (by omega)]; omega), p_X4_nextVar_J58, p_X6_readVar_J54]
        by_cases h128 : b < 128
        · rw [if_pos (show nI b < nI 128 by rw [ltI (by omega) (by omega)]; exact h128), if_pos (show nI b < nI 128 by rw [ltI (by omega) (by omega)]; exact h128)]
          exact Or.inl ⟨_, p + 1, by omega, by omega, rfl, rfl⟩
        · rw [if_neg (show ¬ nI b < nI 128 by rw [ltI (by omega) (by omega)]; exact h128), if_neg (show ¬ nI b < nI 128 by rw [ltI (by omega) (by omega)]; exact h128), addI]
          rcases ih n (k + 1) (p + 1) (v ||| lshl (i2l (nI b &&& nI 127)) (nI 7 * nI k)) (by omega) (by omega) (by omega) (by omega) with ⟨v', p', q1, q2, q3, q4⟩ | hd
          · exact Or.inl ⟨v', p', by omega, q2, q3, q4⟩
          · exact Or.inr hd
      · rw [e1, e2, bdS4, bdS4, if_neg (show ¬ nI k = nI 9 by rw [eqI (by omega) (by omega)]; omega), if_neg (show ¬ nI 1 = nI 0 by decide), p_X4_nextVar_J58, if_pos (show nI 0 < nI 128 by decide)]
        exact Or.inr ⟨_, _, _, _, nI 1, nI p, by decide, rfl, rfl⟩
theorem L_var {rb : Nat → Nat → Int32} {mf : Nat → Int32} {p e : Nat} (hs : Src rb mf e) (hp : p ≤ e) : Oc (p + 1) e (p_X4_nextVar rb (some 1) (nI p) (nI e) (nI 0) (nI 0)) (p_X6_readVar mf (nI p) (nI e) (nI 0) (nI 0)) :=
  L_var_L hs 9 fu 0 p (lN 0) (by omega) (by omega) (by rw [fu_eq]; omega) hp
def unz (v : Int64) : Int64 := lushr v (nI 1) ^^^ -(v &&& lN 1)
theorem X_unz (v : Int64) : p_X5_unzigged v = some (unz v) := rfl
theorem L_zig {rb : Nat → Nat → Int32} {mf : Nat → Int32} {p e : Nat} (hs : Src rb mf e) (hp : p ≤ e) : (∃ v p', p + 1 ≤ p' ∧ p' ≤ e ∧ p_X4_nextVar rb (some 1) (nI p) (nI e) (nI 0) (nI 0) = some (v, nI p', nI 0, nI 0) ∧ p_X6_readZig mf (nI p) (nI e) (nI 0) (nI 0) = some (unz v, nI p', nI 0, nI 0)) ∨ (∃ vx sx vm sm d q, d ≠ nI 0 ∧ p_X4_nextVar rb (some 1) (nI p) (nI e) (nI 0) (nI 0) = some (vx, sx, d, q) ∧ p_X6_readZig mf (nI p) (nI e) (nI 0) (nI 0) = some (vm, sm, d, q)) := by
  unfold p_X6_readZig
  rcases L_var hs hp with ⟨v, p', q1, q2, q3, q4⟩ | ⟨vx, sx, vm, sm, d, q, h1, h2, h3⟩
  · left
    refine ⟨v, p', q1, q2, q3, ?_⟩
    rw [q4, bdS4]
    unfold unz
    rw [← Int64.zero_sub]
    rfl
  · right
    exact ⟨vx, sx, _, sm, d, q, h1, h2, by rw [h3, bdS4]⟩
theorem L_little_L {rb : Nat → Nat → Int32} {mf : Nat → Int32} {e N : Nat} (hs : Src rb mf e) (hN : N ≤ 8) : ∀ (m n k p : Nat) (v : Int64), N - k = m → k ≤ N → m + 1 < n → p ≤ e → Oc p e (itr5 (p_X4_nextLittle_L5 (nI N) rb (some 1) (nI e)) n v (nI k) (nI p) (nI 0) (nI 0)) (itr5 (p_X6_readBytes_L5 (nI N) mf (nI e)) n v (nI k) (nI p) (nI 0) (nI 0)) := by
  have he := hs.1
  intro m
  induction m with
  | zero =>
    intro n k p v h1 h2 h3 hp
    cases n with
    | zero => omega
    | succ n =>
      show Oc p e (p_X4_nextLittle_L5 (nI N) rb (some 1) (nI e) _ v (nI k) (nI p) (nI 0) (nI 0)) (p_X6_readBytes_L5 (nI N) mf (nI e) _ v (nI k) (nI p) (nI 0) (nI 0))
      rw [p_X4_nextLittle_L5, p_X6_readBytes_L5, if_neg (show ¬ nI k < nI N by rw [ltI (by omega) (by omega)]; omega), if_neg (show ¬ nI k < nI N by rw [ltI (by omega) (by omega)]; omega)]
      exact Or.inl ⟨v, p, by omega, hp, rfl, rfl⟩
  | succ m ih =>
    intro n k p v h1 h2 h3 hp
    cases n with
    | zero => omega
    | succ n =>
      show Oc p e (p_X4_nextLittle_L5 (nI N) rb (some 1) (nI e) _ v (nI k) (nI p) (nI 0) (nI 0)) (p_X6_readBytes_L5 (nI N) mf (nI e) _ v (nI k) (nI p) (nI 0) (nI 0))
      rw [p_X4_nextLittle_L5, p_X6_readBytes_L5, if_pos (show nI k < nI N by rw [ltI (by omega) (by omega)]; omega), if_pos (show nI k < nI N by rw [ltI (by omega) (by omega)]; omega), if_pos (show nI 0 = nI 0 from rfl)]
      rcases L_next hs hp with ⟨b, hb, hlt, e1, e2⟩ | ⟨rfl, e1, e2⟩
      · rw [e1, e2, bdS4, bdS4, addI]
        rcases ih n (k + 1) (p + 1) (v ||| lshl (i2l (nI b)) (nI 8 * nI k)) (by omega) (by omega) (by omega) (by omega) with ⟨v', p', q1, q2, q3, q4⟩ | hd
        · exact Or.inl ⟨v', p', by omega, q2, q3, q4⟩
        · exact Or.inr hd
      · rw [e1, e2, bdS4, bdS4, addI]
        obtain ⟨v', e3⟩ := d_little_L (rb := rb) (srow := some 1) (ssp := nI p) (sen := nI p) (str := nI 1) (stp := nI p) (N := N) (by decide) (by omega) (N - (k + 1)) n (k + 1) (v ||| lshl (i2l (nI 0)) (nI 8 * nI k)) rfl (by omega) (by omega)
        right
        cases n with
        | zero => omega
        | succ n =>
          refine ⟨v', nI p, v ||| lshl (i2l (nI 0)) (nI 8 * nI k), nI p, nI 1, nI p, by decide, e3, ?_⟩
          show p_X6_readBytes_L5 (nI N) mf (nI p) _ _ (nI (k + 1)) (nI p) (nI 1) (nI p) = _
          rw [p_X6_readBytes_L5, if_neg (show ¬ nI 1 = nI 0 by decide), ite_self]
theorem L_little {rb : Nat → Nat → Int32} {mf : Nat → Int32} {p e N : Nat} (hs : Src rb mf e) (hp : p ≤ e) (hN : N ≤ 8) : Oc p e (p_X4_nextLittle (nI N) rb (some 1) (nI p) (nI e) (nI 0) (nI 0)) (p_X6_readBytes (nI N) mf (nI p) (nI e) (nI 0) (nI 0)) :=
  L_little_L hs hN N fu 0 p (lN 0) (by omega) (by omega) (by rw [fu_eq]; omega) hp
theorem L_expect {c : Int32} {rb : Nat → Nat → Int32} {mf : Nat → Int32} {p e : Nat} (hs : Src rb mf e) (hp : p ≤ e) : (p < e ∧ p_X4_expect c rb (some 1) (nI p) (nI e) (nI 0) (nI 0) = some (nI (p + 1), nI 0, nI 0) ∧ p_X6_field c mf (nI p) (nI e) (nI 0) (nI 0) = some (nI 1, nI (p + 1), nI 0, nI 0)) ∨ (∃ sx sm d q, d ≠ nI 0 ∧ p_X4_expect c rb (some 1) (nI p) (nI e) (nI 0) (nI 0) = some (sx, d, q) ∧ p_X6_field c mf (nI p) (nI e) (nI 0) (nI 0) = some (nI 0, sm, d, q)) := by
  unfold p_X4_expect p_X6_field
  rcases L_next hs hp with ⟨b, hb, hlt, e1, e2⟩ | ⟨rfl, e1, e2⟩
  · rw [e1, e2, bdS4, bdS4, if_pos (show nI 0 = nI 0 from rfl), demT, demF, bdS2, bdS2]
    by_cases h : nI b = c
    · rw [if_pos h, if_pos h]
      exact Or.inl ⟨hlt, rfl, rfl⟩
    · rw [if_neg h, if_neg h]
      exact Or.inr ⟨_, nI (p + 1), nI 7, nI p, by decide, rfl, rfl⟩
  · rw [e1, e2, bdS4, bdS4, if_neg (show ¬ nI 1 = nI 0 by decide), demT, bdS2, d_demand (by decide), bdS2, ite_self]
    exact Or.inr ⟨_, _, nI 1, nI p, by decide, rfl, rfl⟩
/-- a field with a zigzag number: 21, then the number -/
theorem L_zf {rb : Nat → Nat → Int32} {mf : Nat → Int32} {p e : Nat} {rzp mz : Int32} (hs : Src rb mf e) (hp : p ≤ e) :
    (∃ a p', p + 2 ≤ p' ∧ p' ≤ e ∧ p_X1_nextZigField rb (some 1) (nI p) (nI e) (nI 0) (nI 0) rzp = some (a, nI p', nI 0, nI 0, nI (p + 1)) ∧ p_X6_field (nI 21) mf (nI p) (nI e) (nI 0) (nI 0) = some (nI 1, nI (p + 1), nI 0, nI 0) ∧ p_X6_fieldZig mf (nI (p + 1)) (nI e) (nI 0) (nI 0) mz = some (a, nI p', nI 0, nI 0, nI (p + 1))) ∨
    (∃ a sx z sm d q, d ≠ nI 0 ∧ p_X1_nextZigField rb (some 1) (nI p) (nI e) (nI 0) (nI 0) rzp = some (a, sx, d, q, z) ∧ p_X6_field (nI 21) mf (nI p) (nI e) (nI 0) (nI 0) = some (nI 0, sm, d, q)) ∨
    (∃ a sx z am sm zm d q, d ≠ nI 0 ∧ p_X1_nextZigField rb (some 1) (nI p) (nI e) (nI 0) (nI 0) rzp = some (a, sx, d, q, z) ∧ p_X6_field (nI 21) mf (nI p) (nI e) (nI 0) (nI 0) = some (nI 1, nI (p + 1), nI 0, nI 0) ∧ p_X6_fieldZig mf (nI (p + 1)) (nI e) (nI 0) (nI 0) mz = some (am, sm, d, q, zm)) := by
  unfold p_X1_nextZigField p_X6_fieldZig
  rcases L_expect (c := nI 21) hs hp with ⟨hlt, e1, e2⟩ | ⟨sx, sm, d, q, hd, e1, e2⟩
  · rcases L_zig hs (show p + 1 ≤ e by omega) with ⟨v, p', q1, q2, q3, q4⟩ | ⟨vx, sx, vm, sm, d, q, h1, h2, h3⟩
    · left
      refine ⟨unz v, p', by omega, q2, ?_, e2, by rw [q4, bdS4]⟩
      rw [e1, bdS3, q3, bdS4, X_unz, bdS1]
    · right; right
      refine ⟨unz vx, sx, nI (p + 1), vm, sm, nI (p + 1), d, q, h1, ?_, e2, by rw [h3, bdS4]⟩
      rw [e1, bdS3, h2, bdS4, X_unz, bdS1]
  · right; left
    obtain ⟨v, e3⟩ := d_nextVar (rb := rb) (srow := some 1) (ssp := sx) (sen := nI e) (stp := q) hd
    exact ⟨unz v, sx, sx, sm, d, q, hd, by rw [e1, bdS3, e3, bdS4, X_unz, bdS1], e2⟩
