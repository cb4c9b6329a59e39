/-! numbers, places, written pieces -/
theorem ltI {a b : Nat} (ha : a < 2 ^ 31) (hb : b < 2 ^ 31) : (nI a < nI b) = (a < b) := propext (nI_ltI ha hb)
theorem eqI {a b : Nat} (ha : a < 2 ^ 31) (hb : b < 2 ^ 31) : (nI a = nI b) = (a = b) := propext (nI_eq ha hb)
theorem addI (a b : Nat) : nI a + nI b = nI (a + b) := nI_add a b
theorem subI {a b : Nat} (h : b ≤ a) : nI a - nI b = nI (a - b) := pk_sub h
theorem mulI (a b : Nat) : nI a * nI b = nI (a * b) := pk_mul a b
theorem divI {a d : Nat} (ha : a < 2 ^ 31) (h0 : 0 < d) (hd : d < 2 ^ 31) : nI a / nI d = nI (a / d) := pk_div ha h0 hd
theorem ixI {n : Nat} (h : n < 2 ^ 31) : ix (nI n) = n := nI_clamp h
theorem inbI {n N : Nat} (h : n < 2 ^ 31) : inb (nI n) N = decide (n < N) := by
  unfold inb
  rw [nI_toInt h]
  simp
theorem gdT {α : Type} {x : Option α} {b : Bool} (h : b = true) : gd b x = x := by
  subst h; rfl
theorem i2lI {n : Nat} (h : n < 2 ^ 31) : i2l (nI n) = lN n := nI_l h
theorem l2iL (n : Nat) : l2i (lN n) = nI n := lN_i n
theorem ltL {a b : Nat} (ha : a < 2 ^ 63) (hb : b < 2 ^ 63) : (lN a < lN b) = (a < b) := propext (pk_lLT ha hb)
theorem eqL {a b : Nat} (ha : a < 2 ^ 63) (hb : b < 2 ^ 63) : (lN a = lN b) = (a = b) := propext (pk_lEQ ha hb)
theorem addL (a b : Nat) : lN a + lN b = lN (a + b) := lN_add a b
theorem mulL (a b : Nat) : lN a * lN b = lN (a * b) := lN_mul a b
theorem subL {a b : Nat} (h : b ≤ a) : lN a - lN b = lN (a - b) := lN_sub h
theorem fu_eq : fu = 1048576 := rfl
section UP
variable {α : Type} {f : Nat → α} {k j : Nat} {x y : α}
theorem up_s : up f k x k = x := if_pos rfl
theorem up_n (h : j ≠ k) : up f k x j = f j := if_neg h
theorem up_up : up (up f k x) k y = up f k y := by
  funext j
  unfold up
  split <;> rfl
theorem up_id : up f k (f k) = f := by
  funext j
  unfold up
  split
  · next h => rw [h]
  · rfl
theorem up_c {a b : Nat} (h : a ≠ b) : up (up f a x) b y = up (up f b y) a x := by
  funext j
  unfold up
  by_cases h1 : j = b
  · have h2 : j ≠ a := by omega
    rw [if_pos h1, if_neg h2, if_pos h1]
  · rw [if_neg h1, if_neg h1]
end UP
theorem bd_none1 {α β : Type} {k : α → Option β} : bd1 none k = none := rfl
theorem b8_b8' (x : Int32) : b8 (b8 x) = b8 x := by
  have h := pk_vb x
  rw [vp_nar_byte] at h
  exact h
def wr (f : Nat → Int32) (a : Nat) (l : List Int32) : Nat → Int32 := fun j => if a ≤ j ∧ j < a + l.length then l.getD (j - a) 0 else f j
theorem wr_nil {f : Nat → Int32} {a : Nat} : wr f a [] = f := by
  funext j
  unfold wr
  rw [if_neg (by simp)]
theorem wr_app {f : Nat → Int32} {a : Nat} {l m : List Int32} : wr (wr f a l) (a + l.length) m = wr f a (l ++ m) := by
  funext j
  unfold wr
  by_cases h1 : a + l.length ≤ j ∧ j < a + l.length + m.length
  · rw [if_pos h1, if_pos (by simp; omega), List.getD_append_right _ _ _ _ (by omega)]
    congr 1
    omega
  · rw [if_neg h1]
    by_cases h2 : a ≤ j ∧ j < a + l.length
    · rw [if_pos h2, if_pos (by simp; omega), List.getD_append _ _ _ _ (by omega)]
    · rw [if_neg h2, if_neg (by simp; omega)]
theorem wr_snoc {f : Nat → Int32} {a : Nat} {l : List Int32} {x : Int32} : up (wr f a l) (a + l.length) x = wr f a (l ++ [x]) := by
  rw [← wr_app]
  funext j
  unfold up
  by_cases h : j = a + l.length
  · rw [if_pos h]
    show x = wr (wr f a l) (a + l.length) [x] j
    unfold wr
    rw [if_pos (by simp; omega), h]
    simp
  · rw [if_neg h]
    conv => rhs; unfold wr
    rw [if_neg (by simp; omega)]
theorem wr_one {f : Nat → Int32} {a : Nat} {x : Int32} : up f a x = wr f a [x] := by
  have h := wr_snoc (f := f) (a := a) (l := []) (x := x)
  rw [wr_nil] at h
  exact h
theorem wr_in {f : Nat → Int32} {a j : Nat} {l : List Int32} (h1 : a ≤ j) (h2 : j < a + l.length) : wr f a l j = l.getD (j - a) 0 := if_pos ⟨h1, h2⟩
theorem wr_out {f : Nat → Int32} {a j : Nat} {l : List Int32} (h : j < a ∨ a + l.length ≤ j) : wr f a l j = f j := if_neg (by omega)
