/-! numbers, places, written pieces -/
theorem ltI {a b : Nat} (ha : a < 2 ^ 31) (hb : b < 2 ^ 31) : (nI a < nI b) = (a < b) := propext (nI_ltI ha hb)
theorem eqI {a b : Nat} (ha : a < 2 ^ 31) (hb : b < 2 ^ 31) : (nI a = nI b) = (a = b) := propext (nI_eq ha hb)
theorem addI (a b : Nat) : nI a + nI b = nI (a + b) := nI_add a b
theorem subI {a b : Nat} (h : b ≤ a) : nI a - nI b = nI (a - b) := pk_sub h
theorem mulI (a b : Nat) : nI a * nI b = nI (a * b) := pk_mul a b
theorem divI {a d : Nat} (ha : a < 2 ^ 31) (h0 : 0 < d) (hd : d < 2 ^ 31) : nI a / nI d = nI (a / d) := pk_div ha h0 hd
theorem ixI {n : Nat} (h : n < 2 ^ 31) : ix (nI n) = n := nI_clamp h
theorem inbI {n N : Nat} (h : n < 2 ^ 31) : inb (nI n) N = decide (n < N) := by
  unfold inb
  rw [nI_toInt h]
  simp
theorem gdT {α : Type} {x : Option α} {b : Bool} (h : b = true) : gd b x = x := by
  subst h; rfl
theorem i2lI {n : Nat} (h : n < 2 ^ 31) : i2l (nI n) = lN n := nI_l h
theorem l2iL (n : Nat) : l2i (lN n) = nI n := lN_i n
theorem ltL {a b : Nat} (ha : a < 2 ^ 63) (hb : b < 2 ^ 63) : (lN a < lN b) = (a < b) := propext (pk_lLT ha hb)
theorem eqL {a b : Nat} (ha : a < 2 ^ 63) (hb : b < 2 ^ 63) : (lN a = lN b) = (a = b) := propext (pk_lEQ ha hb)
theorem addL (a b : Nat) : lN a + lN b = lN (a + b) := lN_add a b
theorem mulL (a b : Nat) : lN a * lN b = lN (a * b) := lN_mul a b
theorem subL {a b : Nat} (h : b ≤ a) : lN a - lN b = lN (a - b) := lN_sub h
theorem fu_eq : fu = 1048576 := rfl
section UP
variable {α : Type} {f : Nat → α} {k j : Nat} {x y : α}
theorem up_s : up f k x k = x := if_pos rfl
theorem up_n (h : j ≠ k) : up f k x j = f j := if_neg h
theorem up_up : up (up f k x) k y = up f k y := by
  funext j
  unfold up
  split <;> rfl
theorem up_id : up f k (f k) = f := by
  funext j
  unfold up
  split
  · next h => rw [h]
  · rfl
theorem up_c {a b : Nat} (h : a ≠ b) : up (up f a x) b y = up (up f b y) a x := by
  funext j
  unfold up
  by_cases h1 : j = b
  · have h2 : j ≠ a := by omega
    rw [if_pos h1, if_neg h2, if_pos h1]
  · rw [if_neg h1, if_neg h1]
end UP
theorem bd_none1 {α β : Type} {k : α → Option β} : bd1 none k = none := rfl
theorem b8_b8' (x : Int32) : b8 (b8 x) = b8 x := by
  have h := pk_vb x
  rw [vp_nar_byte] at h
  exact h
def wr (f : Nat → Int32) (a : Nat) (l : List Int32) : Nat → Int32 := fun j => if a ≤ j then (l[j - a]?).getD (f j) else f j
theorem wr_nil {f : Nat → Int32} {a : Nat} : wr f a [] = f := by
  funext j
  simp [wr]
theorem wr_app {f : Nat → Int32} {a : Nat} {l m : List Int32} : wr (wr f a l) (a + l.length) m = wr f a (l ++ m) := by
  funext j
  unfold wr
  by_cases h1 : a ≤ j
  · by_cases h2 : a + l.length ≤ j
    · rw [if_pos h2, if_pos h1, if_pos h1, List.getElem?_append_right (by omega), List.getElem?_eq_none (l := l) (by omega)]
      simp only [Option.getD_none]
      congr 2
      omega
    · rw [if_neg h2, if_pos h1, if_pos h1, List.getElem?_append_left (by omega)]
  · rw [if_neg h1, if_neg (by omega), if_neg h1]
theorem wr_one {f : Nat → Int32} {a : Nat} {x : Int32} : up f a x = wr f a [x] := by
  funext j
  unfold wr up
  by_cases h : j = a
  · subst h
    simp
  · by_cases h1 : a ≤ j
    · rw [if_neg h, if_pos h1, List.getElem?_eq_none (by simp; omega)]
      rfl
    · rw [if_neg h, if_neg h1]
theorem wr_snoc {f : Nat → Int32} {a : Nat} {l : List Int32} {x : Int32} : up (wr f a l) (a + l.length) x = wr f a (l ++ [x]) := by
  rw [wr_one, wr_app]
theorem wr_in {f : Nat → Int32} {a j : Nat} {l : List Int32} (h1 : a ≤ j) (h2 : j - a < l.length) : wr f a l j = l[j - a] := by
  unfold wr
  rw [if_pos h1, List.getElem?_eq_getElem h2]
  rfl
theorem wr_out {f : Nat → Int32} {a j : Nat} {l : List Int32} (h : j < a ∨ a + l.length ≤ j) : wr f a l j = f j := by
  unfold wr
  by_cases h1 : a ≤ j
  · rw [if_pos h1, List.getElem?_eq_none (by omega)]
    rfl
  · rw [if_neg h1]
theorem gdD {α : Type} {x : Option α} {p : Prop} {dec : Decidable p} (h : p) : gd (@decide p dec) x = x := gdT (decide_eq_true h)
theorem moN {α β : Type} {a : Option β} {b : α → Option β} : mo none a b = a := rfl
theorem moS {α β : Type} {k : α} {a : Option β} {b : α → Option β} : mo (some k) a b = b k := rfl
theorem bdS1 {α1 β : Type} {a1 : α1} {k : α1 → Option β} : bd1 (some a1) k = k a1 := rfl
theorem bdS2 {α1 α2 β : Type} {a1 : α1} {a2 : α2} {k : α1 → α2 → Option β} : bd2 (some (a1, a2)) k = k a1 a2 := rfl
theorem bdS3 {α1 α2 α3 β : Type} {a1 : α1} {a2 : α2} {a3 : α3} {k : α1 → α2 → α3 → Option β} : bd3 (some (a1, a2, a3)) k = k a1 a2 a3 := rfl
theorem bdS4 {α1 α2 α3 α4 β : Type} {a1 : α1} {a2 : α2} {a3 : α3} {a4 : α4} {k : α1 → α2 → α3 → α4 → Option β} : bd4 (some (a1, a2, a3, a4)) k = k a1 a2 a3 a4 := rfl
theorem bdS5 {α1 α2 α3 α4 α5 β : Type} {a1 : α1} {a2 : α2} {a3 : α3} {a4 : α4} {a5 : α5} {k : α1 → α2 → α3 → α4 → α5 → Option β} : bd5 (some (a1, a2, a3, a4, a5)) k = k a1 a2 a3 a4 a5 := rfl
theorem bdS6 {α1 α2 α3 α4 α5 α6 β : Type} {a1 : α1} {a2 : α2} {a3 : α3} {a4 : α4} {a5 : α5} {a6 : α6} {k : α1 → α2 → α3 → α4 → α5 → α6 → Option β} : bd6 (some (a1, a2, a3, a4, a5, a6)) k = k a1 a2 a3 a4 a5 a6 := rfl
theorem bdS7 {α1 α2 α3 α4 α5 α6 α7 β : Type} {a1 : α1} {a2 : α2} {a3 : α3} {a4 : α4} {a5 : α5} {a6 : α6} {a7 : α7} {k : α1 → α2 → α3 → α4 → α5 → α6 → α7 → Option β} : bd7 (some (a1, a2, a3, a4, a5, a6, a7)) k = k a1 a2 a3 a4 a5 a6 a7 := rfl
theorem bdS8 {α1 α2 α3 α4 α5 α6 α7 α8 β : Type} {a1 : α1} {a2 : α2} {a3 : α3} {a4 : α4} {a5 : α5} {a6 : α6} {a7 : α7} {a8 : α8} {k : α1 → α2 → α3 → α4 → α5 → α6 → α7 → α8 → Option β} : bd8 (some (a1, a2, a3, a4, a5, a6, a7, a8)) k = k a1 a2 a3 a4 a5 a6 a7 a8 := rfl
theorem bdS9 {α1 α2 α3 α4 α5 α6 α7 α8 α9 β : Type} {a1 : α1} {a2 : α2} {a3 : α3} {a4 : α4} {a5 : α5} {a6 : α6} {a7 : α7} {a8 : α8} {a9 : α9} {k : α1 → α2 → α3 → α4 → α5 → α6 → α7 → α8 → α9 → Option β} : bd9 (some (a1, a2, a3, a4, a5, a6, a7, a8, a9)) k = k a1 a2 a3 a4 a5 a6 a7 a8 a9 := rfl
theorem bdS10 {α1 α2 α3 α4 α5 α6 α7 α8 α9 α10 β : Type} {a1 : α1} {a2 : α2} {a3 : α3} {a4 : α4} {a5 : α5} {a6 : α6} {a7 : α7} {a8 : α8} {a9 : α9} {a10 : α10} {k : α1 → α2 → α3 → α4 → α5 → α6 → α7 → α8 → α9 → α10 → Option β} : bd10 (some (a1, a2, a3, a4, a5, a6, a7, a8, a9, a10)) k = k a1 a2 a3 a4 a5 a6 a7 a8 a9 a10 := rfl
theorem bdS11 {α1 α2 α3 α4 α5 α6 α7 α8 α9 α10 α11 β : Type} {a1 : α1} {a2 : α2} {a3 : α3} {a4 : α4} {a5 : α5} {a6 : α6} {a7 : α7} {a8 : α8} {a9 : α9} {a10 : α10} {a11 : α11} {k : α1 → α2 → α3 → α4 → α5 → α6 → α7 → α8 → α9 → α10 → α11 → Option β} : bd11 (some (a1, a2, a3, a4, a5, a6, a7, a8, a9, a10, a11)) k = k a1 a2 a3 a4 a5 a6 a7 a8 a9 a10 a11 := rfl
theorem bdS12 {α1 α2 α3 α4 α5 α6 α7 α8 α9 α10 α11 α12 β : Type} {a1 : α1} {a2 : α2} {a3 : α3} {a4 : α4} {a5 : α5} {a6 : α6} {a7 : α7} {a8 : α8} {a9 : α9} {a10 : α10} {a11 : α11} {a12 : α12} {k : α1 → α2 → α3 → α4 → α5 → α6 → α7 → α8 → α9 → α10 → α11 → α12 → Option β} : bd12 (some (a1, a2, a3, a4, a5, a6, a7, a8, a9, a10, a11, a12)) k = k a1 a2 a3 a4 a5 a6 a7 a8 a9 a10 a11 a12 := rfl
theorem bdS13 {α1 α2 α3 α4 α5 α6 α7 α8 α9 α10 α11 α12 α13 β : Type} {a1 : α1} {a2 : α2} {a3 : α3} {a4 : α4} {a5 : α5} {a6 : α6} {a7 : α7} {a8 : α8} {a9 : α9} {a10 : α10} {a11 : α11} {a12 : α12} {a13 : α13} {k : α1 → α2 → α3 → α4 → α5 → α6 → α7 → α8 → α9 → α10 → α11 → α12 → α13 → Option β} : bd13 (some (a1, a2, a3, a4, a5, a6, a7, a8, a9, a10, a11, a12, a13)) k = k a1 a2 a3 a4 a5 a6 a7 a8 a9 a10 a11 a12 a13 := rfl
