section
/-! pure base: what the printed pure functions are made of -/
def up {α : Type} (f : Nat → α) (k : Nat) (x : α) : Nat → α := fun j => if j = k then x else f j
def ix (i : Int32) : Nat := i.toNatClampNeg
def inb (i : Int32) (n : Nat) : Bool := decide (0 ≤ i.toInt ∧ i.toInt < n)
def nz (x : Int32) : Bool := decide (¬ x = 0)
def isB (x : Int32) : Bool := decide (x = 0 ∨ x = 1)
def rlen (r : Nat) : Nat := if r = 0 then 40 else 12000
def b8 (x : Int32) : Int32 := x.toInt8.toInt32
def i2l (x : Int32) : Int64 := x.toInt64
def l2i (x : Int64) : Int32 := x.toInt32
def ishl (x y : Int32) : Int32 := x <<< (y &&& 31)
def ishr (x y : Int32) : Int32 := x >>> (y &&& 31)
def iushr (x y : Int32) : Int32 := (x.toUInt32 >>> (y.toUInt32 &&& Int32.toUInt32 31)).toInt32
def lshl (x : Int64) (y : Int32) : Int64 := x <<< (y.toInt64 &&& 63)
def lshr (x : Int64) (y : Int32) : Int64 := x >>> (y.toInt64 &&& 63)
def lushr (x : Int64) (y : Int32) : Int64 := (x.toUInt64 >>> (y.toInt64.toUInt64 &&& Int64.toUInt64 63)).toInt64
def imin (x y : Int32) : Int32 := if y < x then y else x
def imax (x y : Int32) : Int32 := if x < y then y else x
def lmin (x y : Int64) : Int64 := if y < x then y else x
def fu : Nat := 1048576
def gd {α : Type} (b : Bool) (x : Option α) : Option α := match b with
  | true => x
  | false => none
theorem gd_some {α : Type} {b : Bool} {x : Option α} {r : α} (h : gd b x = some r) : b = true ∧ x = some r := by
  cases b
  · cases h
  · exact ⟨rfl, h⟩
def mo {α β : Type} (o : Option α) (a : Option β) (b : α → Option β) : Option β := match o with
  | none => a
  | some k => b k
theorem mo_n {α β : Type} {a : Option β} {b : α → Option β} {r : Option β} (h : mo none a b = r) : a = r := h
theorem mo_s {α β : Type} {k : α} {a : Option β} {b : α → Option β} {r : Option β} (h : mo (some k) a b = r) : b k = r := h
def bd1 {α1 β : Type} (o : Option (α1)) (k : α1 → Option β) : Option β := match o with
  | none => none
  | some x1 => k x1
theorem bd1_some {α1 β : Type} {o : Option (α1)} {k : α1 → Option β} {r : β} (h : bd1 o k = some r) : ∃ x1, o = some x1 ∧ k x1 = some r := by
  cases o with
  | none => cases h
  | some q => exact ⟨q, rfl, h⟩
def bd2 {α1 α2 β : Type} (o : Option (α1 × α2)) (k : α1 → α2 → Option β) : Option β := match o with
  | none => none
  | some (x1, x2) => k x1 x2
theorem bd2_some {α1 α2 β : Type} {o : Option (α1 × α2)} {k : α1 → α2 → Option β} {r : β} (h : bd2 o k = some r) : ∃ x1 x2, o = some (x1, x2) ∧ k x1 x2 = some r := by
  cases o with
  | none => cases h
  | some q => exact ⟨q.1, q.2, rfl, h⟩
def bd3 {α1 α2 α3 β : Type} (o : Option (α1 × α2 × α3)) (k : α1 → α2 → α3 → Option β) : Option β := match o with
  | none => none
  | some (x1, x2, x3) => k x1 x2 x3
theorem bd3_some {α1 α2 α3 β : Type} {o : Option (α1 × α2 × α3)} {k : α1 → α2 → α3 → Option β} {r : β} (h : bd3 o k = some r) : ∃ x1 x2 x3, o = some (x1, x2, x3) ∧ k x1 x2 x3 = some r := by
  cases o with
  | none => cases h
  | some q => exact ⟨q.1, q.2.1, q.2.2, rfl, h⟩
def bd4 {α1 α2 α3 α4 β : Type} (o : Option (α1 × α2 × α3 × α4)) (k : α1 → α2 → α3 → α4 → Option β) : Option β := match o with
  | none => none
  | some (x1, x2, x3, x4) => k x1 x2 x3 x4
theorem bd4_some {α1 α2 α3 α4 β : Type} {o : Option (α1 × α2 × α3 × α4)} {k : α1 → α2 → α3 → α4 → Option β} {r : β} (h : bd4 o k = some r) : ∃ x1 x2 x3 x4, o = some (x1, x2, x3, x4) ∧ k x1 x2 x3 x4 = some r := by
  cases o with
  | none => cases h
  | some q => exact ⟨q.1, q.2.1, q.2.2.1, q.2.2.2, rfl, h⟩
def bd5 {α1 α2 α3 α4 α5 β : Type} (o : Option (α1 × α2 × α3 × α4 × α5)) (k : α1 → α2 → α3 → α4 → α5 → Option β) : Option β := match o with
  | none => none
  | some (x1, x2, x3, x4, x5) => k x1 x2 x3 x4 x5
theorem bd5_some {α1 α2 α3 α4 α5 β : Type} {o : Option (α1 × α2 × α3 × α4 × α5)} {k : α1 → α2 → α3 → α4 → α5 → Option β} {r : β} (h : bd5 o k = some r) : ∃ x1 x2 x3 x4 x5, o = some (x1, x2, x3, x4, x5) ∧ k x1 x2 x3 x4 x5 = some r := by
  cases o with
  | none => cases h
  | some q => exact ⟨q.1, q.2.1, q.2.2.1, q.2.2.2.1, q.2.2.2.2, rfl, h⟩
def bd6 {α1 α2 α3 α4 α5 α6 β : Type} (o : Option (α1 × α2 × α3 × α4 × α5 × α6)) (k : α1 → α2 → α3 → α4 → α5 → α6 → Option β) : Option β := match o with
  | none => none
  | some (x1, x2, x3, x4, x5, x6) => k x1 x2 x3 x4 x5 x6
theorem bd6_some {α1 α2 α3 α4 α5 α6 β : Type} {o : Option (α1 × α2 × α3 × α4 × α5 × α6)} {k : α1 → α2 → α3 → α4 → α5 → α6 → Option β} {r : β} (h : bd6 o k = some r) : ∃ x1 x2 x3 x4 x5 x6, o = some (x1, x2, x3, x4, x5, x6) ∧ k x1 x2 x3 x4 x5 x6 = some r := by
  cases o with
  | none => cases h
  | some q => exact ⟨q.1, q.2.1, q.2.2.1, q.2.2.2.1, q.2.2.2.2.1, q.2.2.2.2.2, rfl, h⟩
def bd7 {α1 α2 α3 α4 α5 α6 α7 β : Type} (o : Option (α1 × α2 × α3 × α4 × α5 × α6 × α7)) (k : α1 → α2 → α3 → α4 → α5 → α6 → α7 → Option β) : Option β := match o with
  | none => none
  | some (x1, x2, x3, x4, x5, x6, x7) => k x1 x2 x3 x4 x5 x6 x7
theorem bd7_some {α1 α2 α3 α4 α5 α6 α7 β : Type} {o : Option (α1 × α2 × α3 × α4 × α5 × α6 × α7)} {k : α1 → α2 → α3 → α4 → α5 → α6 → α7 → Option β} {r : β} (h : bd7 o k = some r) : ∃ x1 x2 x3 x4 x5 x6 x7, o = some (x1, x2, x3, x4, x5, x6, x7) ∧ k x1 x2 x3 x4 x5 x6 x7 = some r := by
  cases o with
  | none => cases h
  | some q => exact ⟨q.1, q.2.1, q.2.2.1, q.2.2.2.1, q.2.2.2.2.1, q.2.2.2.2.2.1, q.2.2.2.2.2.2, rfl, h⟩
def bd8 {α1 α2 α3 α4 α5 α6 α7 α8 β : Type} (o : Option (α1 × α2 × α3 × α4 × α5 × α6 × α7 × α8)) (k : α1 → α2 → α3 → α4 → α5 → α6 → α7 → α8 → Option β) : Option β := match o with
  | none => none
  | some (x1, x2, x3, x4, x5, x6, x7, x8) => k x1 x2 x3 x4 x5 x6 x7 x8
theorem bd8_some {α1 α2 α3 α4 α5 α6 α7 α8 β : Type} {o : Option (α1 × α2 × α3 × α4 × α5 × α6 × α7 × α8)} {k : α1 → α2 → α3 → α4 → α5 → α6 → α7 → α8 → Option β} {r : β} (h : bd8 o k = some r) : ∃ x1 x2 x3 x4 x5 x6 x7 x8, o = some (x1, x2, x3, x4, x5, x6, x7, x8) ∧ k x1 x2 x3 x4 x5 x6 x7 x8 = some r := by
  cases o with
  | none => cases h
  | some q => exact ⟨q.1, q.2.1, q.2.2.1, q.2.2.2.1, q.2.2.2.2.1, q.2.2.2.2.2.1, q.2.2.2.2.2.2.1, q.2.2.2.2.2.2.2, rfl, h⟩
def bd9 {α1 α2 α3 α4 α5 α6 α7 α8 α9 β : Type} (o : Option (α1 × α2 × α3 × α4 × α5 × α6 × α7 × α8 × α9)) (k : α1 → α2 → α3 → α4 → α5 → α6 → α7 → α8 → α9 → Option β) : Option β := match o with
  | none => none
  | some (x1, x2, x3, x4, x5, x6, x7, x8, x9) => k x1 x2 x3 x4 x5 x6 x7 x8 x9
theorem bd9_some {α1 α2 α3 α4 α5 α6 α7 α8 α9 β : Type} {o : Option (α1 × α2 × α3 × α4 × α5 × α6 × α7 × α8 × α9)} {k : α1 → α2 → α3 → α4 → α5 → α6 → α7 → α8 → α9 → Option β} {r : β} (h : bd9 o k = some r) : ∃ x1 x2 x3 x4 x5 x6 x7 x8 x9, o = some (x1, x2, x3, x4, x5, x6, x7, x8, x9) ∧ k x1 x2 x3 x4 x5 x6 x7 x8 x9 = some r := by
  cases o with
  | none => cases h
  | some q => exact ⟨q.1, q.2.1, q.2.2.1, q.2.2.2.1, q.2.2.2.2.1, q.2.2.2.2.2.1, q.2.2.2.2.2.2.1, q.2.2.2.2.2.2.2.1, q.2.2.2.2.2.2.2.2, rfl, h⟩
def bd10 {α1 α2 α3 α4 α5 α6 α7 α8 α9 α10 β : Type} (o : Option (α1 × α2 × α3 × α4 × α5 × α6 × α7 × α8 × α9 × α10)) (k : α1 → α2 → α3 → α4 → α5 → α6 → α7 → α8 → α9 → α10 → Option β) : Option β := match o with
  | none => none
  | some (x1, x2, x3, x4, x5, x6, x7, x8, x9, x10) => k x1 x2 x3 x4 x5 x6 x7 x8 x9 x10
theorem bd10_some {α1 α2 α3 α4 α5 α6 α7 α8 α9 α10 β : Type} {o : Option (α1 × α2 × α3 × α4 × α5 × α6 × α7 × α8 × α9 × α10)} {k : α1 → α2 → α3 → α4 → α5 → α6 → α7 → α8 → α9 → α10 → Option β} {r : β} (h : bd10 o k = some r) : ∃ x1 x2 x3 x4 x5 x6 x7 x8 x9 x10, o = some (x1, x2, x3, x4, x5, x6, x7, x8, x9, x10) ∧ k x1 x2 x3 x4 x5 x6 x7 x8 x9 x10 = some r := by
  cases o with
  | none => cases h
  | some q => exact ⟨q.1, q.2.1, q.2.2.1, q.2.2.2.1, q.2.2.2.2.1, q.2.2.2.2.2.1, q.2.2.2.2.2.2.1, q.2.2.2.2.2.2.2.1, q.2.2.2.2.2.2.2.2.1, q.2.2.2.2.2.2.2.2.2, rfl, h⟩
def bd11 {α1 α2 α3 α4 α5 α6 α7 α8 α9 α10 α11 β : Type} (o : Option (α1 × α2 × α3 × α4 × α5 × α6 × α7 × α8 × α9 × α10 × α11)) (k : α1 → α2 → α3 → α4 → α5 → α6 → α7 → α8 → α9 → α10 → α11 → Option β) : Option β := match o with
  | none => none
  | some (x1, x2, x3, x4, x5, x6, x7, x8, x9, x10, x11) => k x1 x2 x3 x4 x5 x6 x7 x8 x9 x10 x11
theorem bd11_some {α1 α2 α3 α4 α5 α6 α7 α8 α9 α10 α11 β : Type} {o : Option (α1 × α2 × α3 × α4 × α5 × α6 × α7 × α8 × α9 × α10 × α11)} {k : α1 → α2 → α3 → α4 → α5 → α6 → α7 → α8 → α9 → α10 → α11 → Option β} {r : β} (h : bd11 o k = some r) : ∃ x1 x2 x3 x4 x5 x6 x7 x8 x9 x10 x11, o = some (x1, x2, x3, x4, x5, x6, x7, x8, x9, x10, x11) ∧ k x1 x2 x3 x4 x5 x6 x7 x8 x9 x10 x11 = some r := by
  cases o with
  | none => cases h
  | some q => exact ⟨q.1, q.2.1, q.2.2.1, q.2.2.2.1, q.2.2.2.2.1, q.2.2.2.2.2.1, q.2.2.2.2.2.2.1, q.2.2.2.2.2.2.2.1, q.2.2.2.2.2.2.2.2.1, q.2.2.2.2.2.2.2.2.2.1, q.2.2.2.2.2.2.2.2.2.2, rfl, h⟩
def bd12 {α1 α2 α3 α4 α5 α6 α7 α8 α9 α10 α11 α12 β : Type} (o : Option (α1 × α2 × α3 × α4 × α5 × α6 × α7 × α8 × α9 × α10 × α11 × α12)) (k : α1 → α2 → α3 → α4 → α5 → α6 → α7 → α8 → α9 → α10 → α11 → α12 → Option β) : Option β := match o with
  | none => none
  | some (x1, x2, x3, x4, x5, x6, x7, x8, x9, x10, x11, x12) => k x1 x2 x3 x4 x5 x6 x7 x8 x9 x10 x11 x12
theorem bd12_some {α1 α2 α3 α4 α5 α6 α7 α8 α9 α10 α11 α12 β : Type} {o : Option (α1 × α2 × α3 × α4 × α5 × α6 × α7 × α8 × α9 × α10 × α11 × α12)} {k : α1 → α2 → α3 → α4 → α5 → α6 → α7 → α8 → α9 → α10 → α11 → α12 → Option β} {r : β} (h : bd12 o k = some r) : ∃ x1 x2 x3 x4 x5 x6 x7 x8 x9 x10 x11 x12, o = some (x1, x2, x3, x4, x5, x6, x7, x8, x9, x10, x11, x12) ∧ k x1 x2 x3 x4 x5 x6 x7 x8 x9 x10 x11 x12 = some r := by
  cases o with
  | none => cases h
  | some q => exact ⟨q.1, q.2.1, q.2.2.1, q.2.2.2.1, q.2.2.2.2.1, q.2.2.2.2.2.1, q.2.2.2.2.2.2.1, q.2.2.2.2.2.2.2.1, q.2.2.2.2.2.2.2.2.1, q.2.2.2.2.2.2.2.2.2.1, q.2.2.2.2.2.2.2.2.2.2.1, q.2.2.2.2.2.2.2.2.2.2.2, rfl, h⟩
def bd13 {α1 α2 α3 α4 α5 α6 α7 α8 α9 α10 α11 α12 α13 β : Type} (o : Option (α1 × α2 × α3 × α4 × α5 × α6 × α7 × α8 × α9 × α10 × α11 × α12 × α13)) (k : α1 → α2 → α3 → α4 → α5 → α6 → α7 → α8 → α9 → α10 → α11 → α12 → α13 → Option β) : Option β := match o with
  | none => none
  | some (x1, x2, x3, x4, x5, x6, x7, x8, x9, x10, x11, x12, x13) => k x1 x2 x3 x4 x5 x6 x7 x8 x9 x10 x11 x12 x13
theorem bd13_some {α1 α2 α3 α4 α5 α6 α7 α8 α9 α10 α11 α12 α13 β : Type} {o : Option (α1 × α2 × α3 × α4 × α5 × α6 × α7 × α8 × α9 × α10 × α11 × α12 × α13)} {k : α1 → α2 → α3 → α4 → α5 → α6 → α7 → α8 → α9 → α10 → α11 → α12 → α13 → Option β} {r : β} (h : bd13 o k = some r) : ∃ x1 x2 x3 x4 x5 x6 x7 x8 x9 x10 x11 x12 x13, o = some (x1, x2, x3, x4, x5, x6, x7, x8, x9, x10, x11, x12, x13) ∧ k x1 x2 x3 x4 x5 x6 x7 x8 x9 x10 x11 x12 x13 = some r := by
  cases o with
  | none => cases h
  | some q => exact ⟨q.1, q.2.1, q.2.2.1, q.2.2.2.1, q.2.2.2.2.1, q.2.2.2.2.2.1, q.2.2.2.2.2.2.1, q.2.2.2.2.2.2.2.1, q.2.2.2.2.2.2.2.2.1, q.2.2.2.2.2.2.2.2.2.1, q.2.2.2.2.2.2.2.2.2.2.1, q.2.2.2.2.2.2.2.2.2.2.2.1, q.2.2.2.2.2.2.2.2.2.2.2.2, rfl, h⟩
def bd19 {α1 α2 α3 α4 α5 α6 α7 α8 α9 α10 α11 α12 α13 α14 α15 α16 α17 α18 α19 β : Type} (o : Option (α1 × α2 × α3 × α4 × α5 × α6 × α7 × α8 × α9 × α10 × α11 × α12 × α13 × α14 × α15 × α16 × α17 × α18 × α19)) (k : α1 → α2 → α3 → α4 → α5 → α6 → α7 → α8 → α9 → α10 → α11 → α12 → α13 → α14 → α15 → α16 → α17 → α18 → α19 → Option β) : Option β := match o with
  | none => none
  | some (x1, x2, x3, x4, x5, x6, x7, x8, x9, x10, x11, x12, x13, x14, x15, x16, x17, x18, x19) => k x1 x2 x3 x4 x5 x6 x7 x8 x9 x10 x11 x12 x13 x14 x15 x16 x17 x18 x19
theorem bd19_some {α1 α2 α3 α4 α5 α6 α7 α8 α9 α10 α11 α12 α13 α14 α15 α16 α17 α18 α19 β : Type} {o : Option (α1 × α2 × α3 × α4 × α5 × α6 × α7 × α8 × α9 × α10 × α11 × α12 × α13 × α14 × α15 × α16 × α17 × α18 × α19)} {k : α1 → α2 → α3 → α4 → α5 → α6 → α7 → α8 → α9 → α10 → α11 → α12 → α13 → α14 → α15 → α16 → α17 → α18 → α19 → Option β} {r : β} (h : bd19 o k = some r) : ∃ x1 x2 x3 x4 x5 x6 x7 x8 x9 x10 x11 x12 x13 x14 x15 x16 x17 x18 x19, o = some (x1, x2, x3, x4, x5, x6, x7, x8, x9, x10, x11, x12, x13, x14, x15, x16, x17, x18, x19) ∧ k x1 x2 x3 x4 x5 x6 x7 x8 x9 x10 x11 x12 x13 x14 x15 x16 x17 x18 x19 = some r := by
  cases o with
  | none => cases h
  | some q => exact ⟨q.1, q.2.1, q.2.2.1, q.2.2.2.1, q.2.2.2.2.1, q.2.2.2.2.2.1, q.2.2.2.2.2.2.1, q.2.2.2.2.2.2.2.1, q.2.2.2.2.2.2.2.2.1, q.2.2.2.2.2.2.2.2.2.1, q.2.2.2.2.2.2.2.2.2.2.1, q.2.2.2.2.2.2.2.2.2.2.2.1, q.2.2.2.2.2.2.2.2.2.2.2.2.1, q.2.2.2.2.2.2.2.2.2.2.2.2.2.1, q.2.2.2.2.2.2.2.2.2.2.2.2.2.2.1, q.2.2.2.2.2.2.2.2.2.2.2.2.2.2.2.1, q.2.2.2.2.2.2.2.2.2.2.2.2.2.2.2.2.1, q.2.2.2.2.2.2.2.2.2.2.2.2.2.2.2.2.2.1, q.2.2.2.2.2.2.2.2.2.2.2.2.2.2.2.2.2.2, rfl, h⟩
def bd21 {α1 α2 α3 α4 α5 α6 α7 α8 α9 α10 α11 α12 α13 α14 α15 α16 α17 α18 α19 α20 α21 β : Type} (o : Option (α1 × α2 × α3 × α4 × α5 × α6 × α7 × α8 × α9 × α10 × α11 × α12 × α13 × α14 × α15 × α16 × α17 × α18 × α19 × α20 × α21)) (k : α1 → α2 → α3 → α4 → α5 → α6 → α7 → α8 → α9 → α10 → α11 → α12 → α13 → α14 → α15 → α16 → α17 → α18 → α19 → α20 → α21 → Option β) : Option β := match o with
  | none => none
  | some (x1, x2, x3, x4, x5, x6, x7, x8, x9, x10, x11, x12, x13, x14, x15, x16, x17, x18, x19, x20, x21) => k x1 x2 x3 x4 x5 x6 x7 x8 x9 x10 x11 x12 x13 x14 x15 x16 x17 x18 x19 x20 x21
theorem bd21_some {α1 α2 α3 α4 α5 α6 α7 α8 α9 α10 α11 α12 α13 α14 α15 α16 α17 α18 α19 α20 α21 β : Type} {o : Option (α1 × α2 × α3 × α4 × α5 × α6 × α7 × α8 × α9 × α10 × α11 × α12 × α13 × α14 × α15 × α16 × α17 × α18 × α19 × α20 × α21)} {k : α1 → α2 → α3 → α4 → α5 → α6 → α7 → α8 → α9 → α10 → α11 → α12 → α13 → α14 → α15 → α16 → α17 → α18 → α19 → α20 → α21 → Option β} {r : β} (h : bd21 o k = some r) : ∃ x1 x2 x3 x4 x5 x6 x7 x8 x9 x10 x11 x12 x13 x14 x15 x16 x17 x18 x19 x20 x21, o = some (x1, x2, x3, x4, x5, x6, x7, x8, x9, x10, x11, x12, x13, x14, x15, x16, x17, x18, x19, x20, x21) ∧ k x1 x2 x3 x4 x5 x6 x7 x8 x9 x10 x11 x12 x13 x14 x15 x16 x17 x18 x19 x20 x21 = some r := by
  cases o with
  | none => cases h
  | some q => exact ⟨q.1, q.2.1, q.2.2.1, q.2.2.2.1, q.2.2.2.2.1, q.2.2.2.2.2.1, q.2.2.2.2.2.2.1, q.2.2.2.2.2.2.2.1, q.2.2.2.2.2.2.2.2.1, q.2.2.2.2.2.2.2.2.2.1, q.2.2.2.2.2.2.2.2.2.2.1, q.2.2.2.2.2.2.2.2.2.2.2.1, q.2.2.2.2.2.2.2.2.2.2.2.2.1, q.2.2.2.2.2.2.2.2.2.2.2.2.2.1, q.2.2.2.2.2.2.2.2.2.2.2.2.2.2.1, q.2.2.2.2.2.2.2.2.2.2.2.2.2.2.2.1, q.2.2.2.2.2.2.2.2.2.2.2.2.2.2.2.2.1, q.2.2.2.2.2.2.2.2.2.2.2.2.2.2.2.2.2.1, q.2.2.2.2.2.2.2.2.2.2.2.2.2.2.2.2.2.2.1, q.2.2.2.2.2.2.2.2.2.2.2.2.2.2.2.2.2.2.2.1, q.2.2.2.2.2.2.2.2.2.2.2.2.2.2.2.2.2.2.2.2, rfl, h⟩
def itr1 {α1 β : Type} (F : (α1 → Option β) → α1 → Option β) : Nat → α1 → Option β
  | 0 => fun _ => none
  | n + 1 => F (itr1 F n)
theorem itr1_ind {α1 β : Type} {F : (α1 → Option β) → α1 → Option β} {r : β} {P : α1 → Prop} (step : ∀ k : α1 → Option β, (∀ x1, k x1 = some r → P x1) → ∀ x1, F k x1 = some r → P x1) : ∀ (n : Nat) (x1 : α1), itr1 F n x1 = some r → P x1 := by
  intro n
  induction n with
  | zero => intro x1 h; cases h
  | succ n ih => exact step _ ih
def itr2 {α1 α2 β : Type} (F : (α1 → α2 → Option β) → α1 → α2 → Option β) : Nat → α1 → α2 → Option β
  | 0 => fun _ _ => none
  | n + 1 => F (itr2 F n)
theorem itr2_ind {α1 α2 β : Type} {F : (α1 → α2 → Option β) → α1 → α2 → Option β} {r : β} {P : α1 → α2 → Prop} (step : ∀ k : α1 → α2 → Option β, (∀ x1 x2, k x1 x2 = some r → P x1 x2) → ∀ x1 x2, F k x1 x2 = some r → P x1 x2) : ∀ (n : Nat) (x1 : α1) (x2 : α2), itr2 F n x1 x2 = some r → P x1 x2 := by
  intro n
  induction n with
  | zero => intro x1 x2 h; cases h
  | succ n ih => exact step _ ih
def itr3 {α1 α2 α3 β : Type} (F : (α1 → α2 → α3 → Option β) → α1 → α2 → α3 → Option β) : Nat → α1 → α2 → α3 → Option β
  | 0 => fun _ _ _ => none
  | n + 1 => F (itr3 F n)
theorem itr3_ind {α1 α2 α3 β : Type} {F : (α1 → α2 → α3 → Option β) → α1 → α2 → α3 → Option β} {r : β} {P : α1 → α2 → α3 → Prop} (step : ∀ k : α1 → α2 → α3 → Option β, (∀ x1 x2 x3, k x1 x2 x3 = some r → P x1 x2 x3) → ∀ x1 x2 x3, F k x1 x2 x3 = some r → P x1 x2 x3) : ∀ (n : Nat) (x1 : α1) (x2 : α2) (x3 : α3), itr3 F n x1 x2 x3 = some r → P x1 x2 x3 := by
  intro n
  induction n with
  | zero => intro x1 x2 x3 h; cases h
  | succ n ih => exact step _ ih
def itr4 {α1 α2 α3 α4 β : Type} (F : (α1 → α2 → α3 → α4 → Option β) → α1 → α2 → α3 → α4 → Option β) : Nat → α1 → α2 → α3 → α4 → Option β
  | 0 => fun _ _ _ _ => none
  | n + 1 => F (itr4 F n)
theorem itr4_ind {α1 α2 α3 α4 β : Type} {F : (α1 → α2 → α3 → α4 → Option β) → α1 → α2 → α3 → α4 → Option β} {r : β} {P : α1 → α2 → α3 → α4 → Prop} (step : ∀ k : α1 → α2 → α3 → α4 → Option β, (∀ x1 x2 x3 x4, k x1 x2 x3 x4 = some r → P x1 x2 x3 x4) → ∀ x1 x2 x3 x4, F k x1 x2 x3 x4 = some r → P x1 x2 x3 x4) : ∀ (n : Nat) (x1 : α1) (x2 : α2) (x3 : α3) (x4 : α4), itr4 F n x1 x2 x3 x4 = some r → P x1 x2 x3 x4 := by
  intro n
  induction n with
  | zero => intro x1 x2 x3 x4 h; cases h
  | succ n ih => exact step _ ih
def itr5 {α1 α2 α3 α4 α5 β : Type} (F : (α1 → α2 → α3 → α4 → α5 → Option β) → α1 → α2 → α3 → α4 → α5 → Option β) : Nat → α1 → α2 → α3 → α4 → α5 → Option β
  | 0 => fun _ _ _ _ _ => none
  | n + 1 => F (itr5 F n)
theorem itr5_ind {α1 α2 α3 α4 α5 β : Type} {F : (α1 → α2 → α3 → α4 → α5 → Option β) → α1 → α2 → α3 → α4 → α5 → Option β} {r : β} {P : α1 → α2 → α3 → α4 → α5 → Prop} (step : ∀ k : α1 → α2 → α3 → α4 → α5 → Option β, (∀ x1 x2 x3 x4 x5, k x1 x2 x3 x4 x5 = some r → P x1 x2 x3 x4 x5) → ∀ x1 x2 x3 x4 x5, F k x1 x2 x3 x4 x5 = some r → P x1 x2 x3 x4 x5) : ∀ (n : Nat) (x1 : α1) (x2 : α2) (x3 : α3) (x4 : α4) (x5 : α5), itr5 F n x1 x2 x3 x4 x5 = some r → P x1 x2 x3 x4 x5 := by
  intro n
  induction n with
  | zero => intro x1 x2 x3 x4 x5 h; cases h
  | succ n ih => exact step _ ih
def itr6 {α1 α2 α3 α4 α5 α6 β : Type} (F : (α1 → α2 → α3 → α4 → α5 → α6 → Option β) → α1 → α2 → α3 → α4 → α5 → α6 → Option β) : Nat → α1 → α2 → α3 → α4 → α5 → α6 → Option β
  | 0 => fun _ _ _ _ _ _ => none
  | n + 1 => F (itr6 F n)
theorem itr6_ind {α1 α2 α3 α4 α5 α6 β : Type} {F : (α1 → α2 → α3 → α4 → α5 → α6 → Option β) → α1 → α2 → α3 → α4 → α5 → α6 → Option β} {r : β} {P : α1 → α2 → α3 → α4 → α5 → α6 → Prop} (step : ∀ k : α1 → α2 → α3 → α4 → α5 → α6 → Option β, (∀ x1 x2 x3 x4 x5 x6, k x1 x2 x3 x4 x5 x6 = some r → P x1 x2 x3 x4 x5 x6) → ∀ x1 x2 x3 x4 x5 x6, F k x1 x2 x3 x4 x5 x6 = some r → P x1 x2 x3 x4 x5 x6) : ∀ (n : Nat) (x1 : α1) (x2 : α2) (x3 : α3) (x4 : α4) (x5 : α5) (x6 : α6), itr6 F n x1 x2 x3 x4 x5 x6 = some r → P x1 x2 x3 x4 x5 x6 := by
  intro n
  induction n with
  | zero => intro x1 x2 x3 x4 x5 x6 h; cases h
  | succ n ih => exact step _ ih
def itr7 {α1 α2 α3 α4 α5 α6 α7 β : Type} (F : (α1 → α2 → α3 → α4 → α5 → α6 → α7 → Option β) → α1 → α2 → α3 → α4 → α5 → α6 → α7 → Option β) : Nat → α1 → α2 → α3 → α4 → α5 → α6 → α7 → Option β
  | 0 => fun _ _ _ _ _ _ _ => none
  | n + 1 => F (itr7 F n)
theorem itr7_ind {α1 α2 α3 α4 α5 α6 α7 β : Type} {F : (α1 → α2 → α3 → α4 → α5 → α6 → α7 → Option β) → α1 → α2 → α3 → α4 → α5 → α6 → α7 → Option β} {r : β} {P : α1 → α2 → α3 → α4 → α5 → α6 → α7 → Prop} (step : ∀ k : α1 → α2 → α3 → α4 → α5 → α6 → α7 → Option β, (∀ x1 x2 x3 x4 x5 x6 x7, k x1 x2 x3 x4 x5 x6 x7 = some r → P x1 x2 x3 x4 x5 x6 x7) → ∀ x1 x2 x3 x4 x5 x6 x7, F k x1 x2 x3 x4 x5 x6 x7 = some r → P x1 x2 x3 x4 x5 x6 x7) : ∀ (n : Nat) (x1 : α1) (x2 : α2) (x3 : α3) (x4 : α4) (x5 : α5) (x6 : α6) (x7 : α7), itr7 F n x1 x2 x3 x4 x5 x6 x7 = some r → P x1 x2 x3 x4 x5 x6 x7 := by
  intro n
  induction n with
  | zero => intro x1 x2 x3 x4 x5 x6 x7 h; cases h
  | succ n ih => exact step _ ih
def itr8 {α1 α2 α3 α4 α5 α6 α7 α8 β : Type} (F : (α1 → α2 → α3 → α4 → α5 → α6 → α7 → α8 → Option β) → α1 → α2 → α3 → α4 → α5 → α6 → α7 → α8 → Option β) : Nat → α1 → α2 → α3 → α4 → α5 → α6 → α7 → α8 → Option β
  | 0 => fun _ _ _ _ _ _ _ _ => none
  | n + 1 => F (itr8 F n)
theorem itr8_ind {α1 α2 α3 α4 α5 α6 α7 α8 β : Type} {F : (α1 → α2 → α3 → α4 → α5 → α6 → α7 → α8 → Option β) → α1 → α2 → α3 → α4 → α5 → α6 → α7 → α8 → Option β} {r : β} {P : α1 → α2 → α3 → α4 → α5 → α6 → α7 → α8 → Prop} (step : ∀ k : α1 → α2 → α3 → α4 → α5 → α6 → α7 → α8 → Option β, (∀ x1 x2 x3 x4 x5 x6 x7 x8, k x1 x2 x3 x4 x5 x6 x7 x8 = some r → P x1 x2 x3 x4 x5 x6 x7 x8) → ∀ x1 x2 x3 x4 x5 x6 x7 x8, F k x1 x2 x3 x4 x5 x6 x7 x8 = some r → P x1 x2 x3 x4 x5 x6 x7 x8) : ∀ (n : Nat) (x1 : α1) (x2 : α2) (x3 : α3) (x4 : α4) (x5 : α5) (x6 : α6) (x7 : α7) (x8 : α8), itr8 F n x1 x2 x3 x4 x5 x6 x7 x8 = some r → P x1 x2 x3 x4 x5 x6 x7 x8 := by
  intro n
  induction n with
  | zero => intro x1 x2 x3 x4 x5 x6 x7 x8 h; cases h
  | succ n ih => exact step _ ih
def itr9 {α1 α2 α3 α4 α5 α6 α7 α8 α9 β : Type} (F : (α1 → α2 → α3 → α4 → α5 → α6 → α7 → α8 → α9 → Option β) → α1 → α2 → α3 → α4 → α5 → α6 → α7 → α8 → α9 → Option β) : Nat → α1 → α2 → α3 → α4 → α5 → α6 → α7 → α8 → α9 → Option β
  | 0 => fun _ _ _ _ _ _ _ _ _ => none
  | n + 1 => F (itr9 F n)
theorem itr9_ind {α1 α2 α3 α4 α5 α6 α7 α8 α9 β : Type} {F : (α1 → α2 → α3 → α4 → α5 → α6 → α7 → α8 → α9 → Option β) → α1 → α2 → α3 → α4 → α5 → α6 → α7 → α8 → α9 → Option β} {r : β} {P : α1 → α2 → α3 → α4 → α5 → α6 → α7 → α8 → α9 → Prop} (step : ∀ k : α1 → α2 → α3 → α4 → α5 → α6 → α7 → α8 → α9 → Option β, (∀ x1 x2 x3 x4 x5 x6 x7 x8 x9, k x1 x2 x3 x4 x5 x6 x7 x8 x9 = some r → P x1 x2 x3 x4 x5 x6 x7 x8 x9) → ∀ x1 x2 x3 x4 x5 x6 x7 x8 x9, F k x1 x2 x3 x4 x5 x6 x7 x8 x9 = some r → P x1 x2 x3 x4 x5 x6 x7 x8 x9) : ∀ (n : Nat) (x1 : α1) (x2 : α2) (x3 : α3) (x4 : α4) (x5 : α5) (x6 : α6) (x7 : α7) (x8 : α8) (x9 : α9), itr9 F n x1 x2 x3 x4 x5 x6 x7 x8 x9 = some r → P x1 x2 x3 x4 x5 x6 x7 x8 x9 := by
  intro n
  induction n with
  | zero => intro x1 x2 x3 x4 x5 x6 x7 x8 x9 h; cases h
  | succ n ih => exact step _ ih
def itr10 {α1 α2 α3 α4 α5 α6 α7 α8 α9 α10 β : Type} (F : (α1 → α2 → α3 → α4 → α5 → α6 → α7 → α8 → α9 → α10 → Option β) → α1 → α2 → α3 → α4 → α5 → α6 → α7 → α8 → α9 → α10 → Option β) : Nat → α1 → α2 → α3 → α4 → α5 → α6 → α7 → α8 → α9 → α10 → Option β
  | 0 => fun _ _ _ _ _ _ _ _ _ _ => none
  | n + 1 => F (itr10 F n)
theorem itr10_ind {α1 α2 α3 α4 α5 α6 α7 α8 α9 α10 β : Type} {F : (α1 → α2 → α3 → α4 → α5 → α6 → α7 → α8 → α9 → α10 → Option β) → α1 → α2 → α3 → α4 → α5 → α6 → α7 → α8 → α9 → α10 → Option β} {r : β} {P : α1 → α2 → α3 → α4 → α5 → α6 → α7 → α8 → α9 → α10 → Prop} (step : ∀ k : α1 → α2 → α3 → α4 → α5 → α6 → α7 → α8 → α9 → α10 → Option β, (∀ x1 x2 x3 x4 x5 x6 x7 x8 x9 x10, k x1 x2 x3 x4 x5 x6 x7 x8 x9 x10 = some r → P x1 x2 x3 x4 x5 x6 x7 x8 x9 x10) → ∀ x1 x2 x3 x4 x5 x6 x7 x8 x9 x10, F k x1 x2 x3 x4 x5 x6 x7 x8 x9 x10 = some r → P x1 x2 x3 x4 x5 x6 x7 x8 x9 x10) : ∀ (n : Nat) (x1 : α1) (x2 : α2) (x3 : α3) (x4 : α4) (x5 : α5) (x6 : α6) (x7 : α7) (x8 : α8) (x9 : α9) (x10 : α10), itr10 F n x1 x2 x3 x4 x5 x6 x7 x8 x9 x10 = some r → P x1 x2 x3 x4 x5 x6 x7 x8 x9 x10 := by
  intro n
  induction n with
  | zero => intro x1 x2 x3 x4 x5 x6 x7 x8 x9 x10 h; cases h
  | succ n ih => exact step _ ih
def itr17 {α1 α2 α3 α4 α5 α6 α7 α8 α9 α10 α11 α12 α13 α14 α15 α16 α17 β : Type} (F : (α1 → α2 → α3 → α4 → α5 → α6 → α7 → α8 → α9 → α10 → α11 → α12 → α13 → α14 → α15 → α16 → α17 → Option β) → α1 → α2 → α3 → α4 → α5 → α6 → α7 → α8 → α9 → α10 → α11 → α12 → α13 → α14 → α15 → α16 → α17 → Option β) : Nat → α1 → α2 → α3 → α4 → α5 → α6 → α7 → α8 → α9 → α10 → α11 → α12 → α13 → α14 → α15 → α16 → α17 → Option β
  | 0 => fun _ _ _ _ _ _ _ _ _ _ _ _ _ _ _ _ _ => none
  | n + 1 => F (itr17 F n)
theorem itr17_ind {α1 α2 α3 α4 α5 α6 α7 α8 α9 α10 α11 α12 α13 α14 α15 α16 α17 β : Type} {F : (α1 → α2 → α3 → α4 → α5 → α6 → α7 → α8 → α9 → α10 → α11 → α12 → α13 → α14 → α15 → α16 → α17 → Option β) → α1 → α2 → α3 → α4 → α5 → α6 → α7 → α8 → α9 → α10 → α11 → α12 → α13 → α14 → α15 → α16 → α17 → Option β} {r : β} {P : α1 → α2 → α3 → α4 → α5 → α6 → α7 → α8 → α9 → α10 → α11 → α12 → α13 → α14 → α15 → α16 → α17 → Prop} (step : ∀ k : α1 → α2 → α3 → α4 → α5 → α6 → α7 → α8 → α9 → α10 → α11 → α12 → α13 → α14 → α15 → α16 → α17 → Option β, (∀ x1 x2 x3 x4 x5 x6 x7 x8 x9 x10 x11 x12 x13 x14 x15 x16 x17, k x1 x2 x3 x4 x5 x6 x7 x8 x9 x10 x11 x12 x13 x14 x15 x16 x17 = some r → P x1 x2 x3 x4 x5 x6 x7 x8 x9 x10 x11 x12 x13 x14 x15 x16 x17) → ∀ x1 x2 x3 x4 x5 x6 x7 x8 x9 x10 x11 x12 x13 x14 x15 x16 x17, F k x1 x2 x3 x4 x5 x6 x7 x8 x9 x10 x11 x12 x13 x14 x15 x16 x17 = some r → P x1 x2 x3 x4 x5 x6 x7 x8 x9 x10 x11 x12 x13 x14 x15 x16 x17) : ∀ (n : Nat) (x1 : α1) (x2 : α2) (x3 : α3) (x4 : α4) (x5 : α5) (x6 : α6) (x7 : α7) (x8 : α8) (x9 : α9) (x10 : α10) (x11 : α11) (x12 : α12) (x13 : α13) (x14 : α14) (x15 : α15) (x16 : α16) (x17 : α17), itr17 F n x1 x2 x3 x4 x5 x6 x7 x8 x9 x10 x11 x12 x13 x14 x15 x16 x17 = some r → P x1 x2 x3 x4 x5 x6 x7 x8 x9 x10 x11 x12 x13 x14 x15 x16 x17 := by
  intro n
  induction n with
  | zero => intro x1 x2 x3 x4 x5 x6 x7 x8 x9 x10 x11 x12 x13 x14 x15 x16 x17 h; cases h
  | succ n ih => exact step _ ih
def itr20 {α1 α2 α3 α4 α5 α6 α7 α8 α9 α10 α11 α12 α13 α14 α15 α16 α17 α18 α19 α20 β : Type} (F : (α1 → α2 → α3 → α4 → α5 → α6 → α7 → α8 → α9 → α10 → α11 → α12 → α13 → α14 → α15 → α16 → α17 → α18 → α19 → α20 → Option β) → α1 → α2 → α3 → α4 → α5 → α6 → α7 → α8 → α9 → α10 → α11 → α12 → α13 → α14 → α15 → α16 → α17 → α18 → α19 → α20 → Option β) : Nat → α1 → α2 → α3 → α4 → α5 → α6 → α7 → α8 → α9 → α10 → α11 → α12 → α13 → α14 → α15 → α16 → α17 → α18 → α19 → α20 → Option β
  | 0 => fun _ _ _ _ _ _ _ _ _ _ _ _ _ _ _ _ _ _ _ _ => none
  | n + 1 => F (itr20 F n)
theorem itr20_ind {α1 α2 α3 α4 α5 α6 α7 α8 α9 α10 α11 α12 α13 α14 α15 α16 α17 α18 α19 α20 β : Type} {F : (α1 → α2 → α3 → α4 → α5 → α6 → α7 → α8 → α9 → α10 → α11 → α12 → α13 → α14 → α15 → α16 → α17 → α18 → α19 → α20 → Option β) → α1 → α2 → α3 → α4 → α5 → α6 → α7 → α8 → α9 → α10 → α11 → α12 → α13 → α14 → α15 → α16 → α17 → α18 → α19 → α20 → Option β} {r : β} {P : α1 → α2 → α3 → α4 → α5 → α6 → α7 → α8 → α9 → α10 → α11 → α12 → α13 → α14 → α15 → α16 → α17 → α18 → α19 → α20 → Prop} (step : ∀ k : α1 → α2 → α3 → α4 → α5 → α6 → α7 → α8 → α9 → α10 → α11 → α12 → α13 → α14 → α15 → α16 → α17 → α18 → α19 → α20 → Option β, (∀ x1 x2 x3 x4 x5 x6 x7 x8 x9 x10 x11 x12 x13 x14 x15 x16 x17 x18 x19 x20, k x1 x2 x3 x4 x5 x6 x7 x8 x9 x10 x11 x12 x13 x14 x15 x16 x17 x18 x19 x20 = some r → P x1 x2 x3 x4 x5 x6 x7 x8 x9 x10 x11 x12 x13 x14 x15 x16 x17 x18 x19 x20) → ∀ x1 x2 x3 x4 x5 x6 x7 x8 x9 x10 x11 x12 x13 x14 x15 x16 x17 x18 x19 x20, F k x1 x2 x3 x4 x5 x6 x7 x8 x9 x10 x11 x12 x13 x14 x15 x16 x17 x18 x19 x20 = some r → P x1 x2 x3 x4 x5 x6 x7 x8 x9 x10 x11 x12 x13 x14 x15 x16 x17 x18 x19 x20) : ∀ (n : Nat) (x1 : α1) (x2 : α2) (x3 : α3) (x4 : α4) (x5 : α5) (x6 : α6) (x7 : α7) (x8 : α8) (x9 : α9) (x10 : α10) (x11 : α11) (x12 : α12) (x13 : α13) (x14 : α14) (x15 : α15) (x16 : α16) (x17 : α17) (x18 : α18) (x19 : α19) (x20 : α20), itr20 F n x1 x2 x3 x4 x5 x6 x7 x8 x9 x10 x11 x12 x13 x14 x15 x16 x17 x18 x19 x20 = some r → P x1 x2 x3 x4 x5 x6 x7 x8 x9 x10 x11 x12 x13 x14 x15 x16 x17 x18 x19 x20 := by
  intro n
  induction n with
  | zero => intro x1 x2 x3 x4 x5 x6 x7 x8 x9 x10 x11 x12 x13 x14 x15 x16 x17 x18 x19 x20 h; cases h
  | succ n ih => exact step _ ih
theorem inj1 {α1 : Type} {a1 b1 : α1} (h : some a1 = some b1) : a1 = b1 := by
  cases h
  exact rfl
theorem inj2 {α1 α2 : Type} {a1 b1 : α1} {a2 b2 : α2} (h : some (a1, a2) = some (b1, b2)) : a1 = b1 ∧ a2 = b2 := by
  cases h
  exact ⟨rfl, rfl⟩
theorem inj3 {α1 α2 α3 : Type} {a1 b1 : α1} {a2 b2 : α2} {a3 b3 : α3} (h : some (a1, a2, a3) = some (b1, b2, b3)) : a1 = b1 ∧ a2 = b2 ∧ a3 = b3 := by
  cases h
  exact ⟨rfl, rfl, rfl⟩
theorem inj4 {α1 α2 α3 α4 : Type} {a1 b1 : α1} {a2 b2 : α2} {a3 b3 : α3} {a4 b4 : α4} (h : some (a1, a2, a3, a4) = some (b1, b2, b3, b4)) : a1 = b1 ∧ a2 = b2 ∧ a3 = b3 ∧ a4 = b4 := by
  cases h
  exact ⟨rfl, rfl, rfl, rfl⟩
theorem inj5 {α1 α2 α3 α4 α5 : Type} {a1 b1 : α1} {a2 b2 : α2} {a3 b3 : α3} {a4 b4 : α4} {a5 b5 : α5} (h : some (a1, a2, a3, a4, a5) = some (b1, b2, b3, b4, b5)) : a1 = b1 ∧ a2 = b2 ∧ a3 = b3 ∧ a4 = b4 ∧ a5 = b5 := by
  cases h
  exact ⟨rfl, rfl, rfl, rfl, rfl⟩
theorem inj6 {α1 α2 α3 α4 α5 α6 : Type} {a1 b1 : α1} {a2 b2 : α2} {a3 b3 : α3} {a4 b4 : α4} {a5 b5 : α5} {a6 b6 : α6} (h : some (a1, a2, a3, a4, a5, a6) = some (b1, b2, b3, b4, b5, b6)) : a1 = b1 ∧ a2 = b2 ∧ a3 = b3 ∧ a4 = b4 ∧ a5 = b5 ∧ a6 = b6 := by
  cases h
  exact ⟨rfl, rfl, rfl, rfl, rfl, rfl⟩
theorem inj7 {α1 α2 α3 α4 α5 α6 α7 : Type} {a1 b1 : α1} {a2 b2 : α2} {a3 b3 : α3} {a4 b4 : α4} {a5 b5 : α5} {a6 b6 : α6} {a7 b7 : α7} (h : some (a1, a2, a3, a4, a5, a6, a7) = some (b1, b2, b3, b4, b5, b6, b7)) : a1 = b1 ∧ a2 = b2 ∧ a3 = b3 ∧ a4 = b4 ∧ a5 = b5 ∧ a6 = b6 ∧ a7 = b7 := by
  cases h
  exact ⟨rfl, rfl, rfl, rfl, rfl, rfl, rfl⟩
theorem inj8 {α1 α2 α3 α4 α5 α6 α7 α8 : Type} {a1 b1 : α1} {a2 b2 : α2} {a3 b3 : α3} {a4 b4 : α4} {a5 b5 : α5} {a6 b6 : α6} {a7 b7 : α7} {a8 b8 : α8} (h : some (a1, a2, a3, a4, a5, a6, a7, a8) = some (b1, b2, b3, b4, b5, b6, b7, b8)) : a1 = b1 ∧ a2 = b2 ∧ a3 = b3 ∧ a4 = b4 ∧ a5 = b5 ∧ a6 = b6 ∧ a7 = b7 ∧ a8 = b8 := by
  cases h
  exact ⟨rfl, rfl, rfl, rfl, rfl, rfl, rfl, rfl⟩
theorem inj9 {α1 α2 α3 α4 α5 α6 α7 α8 α9 : Type} {a1 b1 : α1} {a2 b2 : α2} {a3 b3 : α3} {a4 b4 : α4} {a5 b5 : α5} {a6 b6 : α6} {a7 b7 : α7} {a8 b8 : α8} {a9 b9 : α9} (h : some (a1, a2, a3, a4, a5, a6, a7, a8, a9) = some (b1, b2, b3, b4, b5, b6, b7, b8, b9)) : a1 = b1 ∧ a2 = b2 ∧ a3 = b3 ∧ a4 = b4 ∧ a5 = b5 ∧ a6 = b6 ∧ a7 = b7 ∧ a8 = b8 ∧ a9 = b9 := by
  cases h
  exact ⟨rfl, rfl, rfl, rfl, rfl, rfl, rfl, rfl, rfl⟩
theorem inj10 {α1 α2 α3 α4 α5 α6 α7 α8 α9 α10 : Type} {a1 b1 : α1} {a2 b2 : α2} {a3 b3 : α3} {a4 b4 : α4} {a5 b5 : α5} {a6 b6 : α6} {a7 b7 : α7} {a8 b8 : α8} {a9 b9 : α9} {a10 b10 : α10} (h : some (a1, a2, a3, a4, a5, a6, a7, a8, a9, a10) = some (b1, b2, b3, b4, b5, b6, b7, b8, b9, b10)) : a1 = b1 ∧ a2 = b2 ∧ a3 = b3 ∧ a4 = b4 ∧ a5 = b5 ∧ a6 = b6 ∧ a7 = b7 ∧ a8 = b8 ∧ a9 = b9 ∧ a10 = b10 := by
  cases h
  exact ⟨rfl, rfl, rfl, rfl, rfl, rfl, rfl, rfl, rfl, rfl⟩
theorem inj11 {α1 α2 α3 α4 α5 α6 α7 α8 α9 α10 α11 : Type} {a1 b1 : α1} {a2 b2 : α2} {a3 b3 : α3} {a4 b4 : α4} {a5 b5 : α5} {a6 b6 : α6} {a7 b7 : α7} {a8 b8 : α8} {a9 b9 : α9} {a10 b10 : α10} {a11 b11 : α11} (h : some (a1, a2, a3, a4, a5, a6, a7, a8, a9, a10, a11) = some (b1, b2, b3, b4, b5, b6, b7, b8, b9, b10, b11)) : a1 = b1 ∧ a2 = b2 ∧ a3 = b3 ∧ a4 = b4 ∧ a5 = b5 ∧ a6 = b6 ∧ a7 = b7 ∧ a8 = b8 ∧ a9 = b9 ∧ a10 = b10 ∧ a11 = b11 := by
  cases h
  exact ⟨rfl, rfl, rfl, rfl, rfl, rfl, rfl, rfl, rfl, rfl, rfl⟩
theorem inj12 {α1 α2 α3 α4 α5 α6 α7 α8 α9 α10 α11 α12 : Type} {a1 b1 : α1} {a2 b2 : α2} {a3 b3 : α3} {a4 b4 : α4} {a5 b5 : α5} {a6 b6 : α6} {a7 b7 : α7} {a8 b8 : α8} {a9 b9 : α9} {a10 b10 : α10} {a11 b11 : α11} {a12 b12 : α12} (h : some (a1, a2, a3, a4, a5, a6, a7, a8, a9, a10, a11, a12) = some (b1, b2, b3, b4, b5, b6, b7, b8, b9, b10, b11, b12)) : a1 = b1 ∧ a2 = b2 ∧ a3 = b3 ∧ a4 = b4 ∧ a5 = b5 ∧ a6 = b6 ∧ a7 = b7 ∧ a8 = b8 ∧ a9 = b9 ∧ a10 = b10 ∧ a11 = b11 ∧ a12 = b12 := by
  cases h
  exact ⟨rfl, rfl, rfl, rfl, rfl, rfl, rfl, rfl, rfl, rfl, rfl, rfl⟩
theorem inj13 {α1 α2 α3 α4 α5 α6 α7 α8 α9 α10 α11 α12 α13 : Type} {a1 b1 : α1} {a2 b2 : α2} {a3 b3 : α3} {a4 b4 : α4} {a5 b5 : α5} {a6 b6 : α6} {a7 b7 : α7} {a8 b8 : α8} {a9 b9 : α9} {a10 b10 : α10} {a11 b11 : α11} {a12 b12 : α12} {a13 b13 : α13} (h : some (a1, a2, a3, a4, a5, a6, a7, a8, a9, a10, a11, a12, a13) = some (b1, b2, b3, b4, b5, b6, b7, b8, b9, b10, b11, b12, b13)) : a1 = b1 ∧ a2 = b2 ∧ a3 = b3 ∧ a4 = b4 ∧ a5 = b5 ∧ a6 = b6 ∧ a7 = b7 ∧ a8 = b8 ∧ a9 = b9 ∧ a10 = b10 ∧ a11 = b11 ∧ a12 = b12 ∧ a13 = b13 := by
  cases h
  exact ⟨rfl, rfl, rfl, rfl, rfl, rfl, rfl, rfl, rfl, rfl, rfl, rfl, rfl⟩
theorem inj19 {α1 α2 α3 α4 α5 α6 α7 α8 α9 α10 α11 α12 α13 α14 α15 α16 α17 α18 α19 : Type} {a1 b1 : α1} {a2 b2 : α2} {a3 b3 : α3} {a4 b4 : α4} {a5 b5 : α5} {a6 b6 : α6} {a7 b7 : α7} {a8 b8 : α8} {a9 b9 : α9} {a10 b10 : α10} {a11 b11 : α11} {a12 b12 : α12} {a13 b13 : α13} {a14 b14 : α14} {a15 b15 : α15} {a16 b16 : α16} {a17 b17 : α17} {a18 b18 : α18} {a19 b19 : α19} (h : some (a1, a2, a3, a4, a5, a6, a7, a8, a9, a10, a11, a12, a13, a14, a15, a16, a17, a18, a19) = some (b1, b2, b3, b4, b5, b6, b7, b8, b9, b10, b11, b12, b13, b14, b15, b16, b17, b18, b19)) : a1 = b1 ∧ a2 = b2 ∧ a3 = b3 ∧ a4 = b4 ∧ a5 = b5 ∧ a6 = b6 ∧ a7 = b7 ∧ a8 = b8 ∧ a9 = b9 ∧ a10 = b10 ∧ a11 = b11 ∧ a12 = b12 ∧ a13 = b13 ∧ a14 = b14 ∧ a15 = b15 ∧ a16 = b16 ∧ a17 = b17 ∧ a18 = b18 ∧ a19 = b19 := by
  cases h
  exact ⟨rfl, rfl, rfl, rfl, rfl, rfl, rfl, rfl, rfl, rfl, rfl, rfl, rfl, rfl, rfl, rfl, rfl, rfl, rfl⟩
theorem inj20 {α1 α2 α3 α4 α5 α6 α7 α8 α9 α10 α11 α12 α13 α14 α15 α16 α17 α18 α19 α20 : Type} {a1 b1 : α1} {a2 b2 : α2} {a3 b3 : α3} {a4 b4 : α4} {a5 b5 : α5} {a6 b6 : α6} {a7 b7 : α7} {a8 b8 : α8} {a9 b9 : α9} {a10 b10 : α10} {a11 b11 : α11} {a12 b12 : α12} {a13 b13 : α13} {a14 b14 : α14} {a15 b15 : α15} {a16 b16 : α16} {a17 b17 : α17} {a18 b18 : α18} {a19 b19 : α19} {a20 b20 : α20} (h : some (a1, a2, a3, a4, a5, a6, a7, a8, a9, a10, a11, a12, a13, a14, a15, a16, a17, a18, a19, a20) = some (b1, b2, b3, b4, b5, b6, b7, b8, b9, b10, b11, b12, b13, b14, b15, b16, b17, b18, b19, b20)) : a1 = b1 ∧ a2 = b2 ∧ a3 = b3 ∧ a4 = b4 ∧ a5 = b5 ∧ a6 = b6 ∧ a7 = b7 ∧ a8 = b8 ∧ a9 = b9 ∧ a10 = b10 ∧ a11 = b11 ∧ a12 = b12 ∧ a13 = b13 ∧ a14 = b14 ∧ a15 = b15 ∧ a16 = b16 ∧ a17 = b17 ∧ a18 = b18 ∧ a19 = b19 ∧ a20 = b20 := by
  cases h
  exact ⟨rfl, rfl, rfl, rfl, rfl, rfl, rfl, rfl, rfl, rfl, rfl, rfl, rfl, rfl, rfl, rfl, rfl, rfl, rfl, rfl⟩
theorem inj21 {α1 α2 α3 α4 α5 α6 α7 α8 α9 α10 α11 α12 α13 α14 α15 α16 α17 α18 α19 α20 α21 : Type} {a1 b1 : α1} {a2 b2 : α2} {a3 b3 : α3} {a4 b4 : α4} {a5 b5 : α5} {a6 b6 : α6} {a7 b7 : α7} {a8 b8 : α8} {a9 b9 : α9} {a10 b10 : α10} {a11 b11 : α11} {a12 b12 : α12} {a13 b13 : α13} {a14 b14 : α14} {a15 b15 : α15} {a16 b16 : α16} {a17 b17 : α17} {a18 b18 : α18} {a19 b19 : α19} {a20 b20 : α20} {a21 b21 : α21} (h : some (a1, a2, a3, a4, a5, a6, a7, a8, a9, a10, a11, a12, a13, a14, a15, a16, a17, a18, a19, a20, a21) = some (b1, b2, b3, b4, b5, b6, b7, b8, b9, b10, b11, b12, b13, b14, b15, b16, b17, b18, b19, b20, b21)) : a1 = b1 ∧ a2 = b2 ∧ a3 = b3 ∧ a4 = b4 ∧ a5 = b5 ∧ a6 = b6 ∧ a7 = b7 ∧ a8 = b8 ∧ a9 = b9 ∧ a10 = b10 ∧ a11 = b11 ∧ a12 = b12 ∧ a13 = b13 ∧ a14 = b14 ∧ a15 = b15 ∧ a16 = b16 ∧ a17 = b17 ∧ a18 = b18 ∧ a19 = b19 ∧ a20 = b20 ∧ a21 = b21 := by
  cases h
  exact ⟨rfl, rfl, rfl, rfl, rfl, rfl, rfl, rfl, rfl, rfl, rfl, rfl, rfl, rfl, rfl, rfl, rfl, rfl, rfl, rfl, rfl⟩
theorem inj22 {α1 α2 α3 α4 α5 α6 α7 α8 α9 α10 α11 α12 α13 α14 α15 α16 α17 α18 α19 α20 α21 α22 : Type} {a1 b1 : α1} {a2 b2 : α2} {a3 b3 : α3} {a4 b4 : α4} {a5 b5 : α5} {a6 b6 : α6} {a7 b7 : α7} {a8 b8 : α8} {a9 b9 : α9} {a10 b10 : α10} {a11 b11 : α11} {a12 b12 : α12} {a13 b13 : α13} {a14 b14 : α14} {a15 b15 : α15} {a16 b16 : α16} {a17 b17 : α17} {a18 b18 : α18} {a19 b19 : α19} {a20 b20 : α20} {a21 b21 : α21} {a22 b22 : α22} (h : some (a1, a2, a3, a4, a5, a6, a7, a8, a9, a10, a11, a12, a13, a14, a15, a16, a17, a18, a19, a20, a21, a22) = some (b1, b2, b3, b4, b5, b6, b7, b8, b9, b10, b11, b12, b13, b14, b15, b16, b17, b18, b19, b20, b21, b22)) : a1 = b1 ∧ a2 = b2 ∧ a3 = b3 ∧ a4 = b4 ∧ a5 = b5 ∧ a6 = b6 ∧ a7 = b7 ∧ a8 = b8 ∧ a9 = b9 ∧ a10 = b10 ∧ a11 = b11 ∧ a12 = b12 ∧ a13 = b13 ∧ a14 = b14 ∧ a15 = b15 ∧ a16 = b16 ∧ a17 = b17 ∧ a18 = b18 ∧ a19 = b19 ∧ a20 = b20 ∧ a21 = b21 ∧ a22 = b22 := by
  cases h
  exact ⟨rfl, rfl, rfl, rfl, rfl, rfl, rfl, rfl, rfl, rfl, rfl, rfl, rfl, rfl, rfl, rfl, rfl, rfl, rfl, rfl, rfl, rfl⟩
end
section
def p_X6_in (v0 : Int64) (v2 : Int64) (v4 : Int64) : Option (Int32) :=
  if v0 < v2 then
    some ((nI 0))
  else
    if v4 < v0 then
      some ((nI 0))
    else
      some ((nI 1))
def p_X6_isColumn (v0 : Int32) : Option (Int32) :=
  bd1 (p_X6_in (i2l v0) (lN 0) (lN 3)) <| fun a_1 =>
  gd (isB a_1) <|
  some (a_1)
def p_X6_column (v1 : Int32) (v2 : Int32) (v3 : Int32) (mk : Nat → Int32) (mo : Nat → Int32) (mm : Nat → Int32) : Option (Int32 × (Nat → Int32) × (Nat → Int32) × (Nat → Int32)) :=
  bd1 (p_X6_isColumn v1) <| fun a_1 =>
  if a_1 = (nI 0) then
    some ((-1 : Int32), mk, mo, mm)
  else
    bd1 (p_X6_in (i2l v2) (lN 0) (lN 3)) <| fun a_3 =>
    if a_3 = (nI 0) then
      some ((-1 : Int32), mk, mo, mm)
    else
      gd (inb v1 7) <|
      gd (inb v1 7) <|
      gd (inb v1 7) <|
      gd (isB v3) <|
      gd (inb v1 7) <|
      some ((mm (ix v1)), (up mk (ix v1) v2), (up mo (ix v1) v3), (up mm (ix v1) (nI 0)))
def p_X6_adds_L33 (v5 : Int32) (k60 : (Nat → Int32) → Option (Int32 × (Nat → Int32) × (Nat → Int32) × (Nat → Int64) × (Nat → Int32))) (k33 : Int32 → (Nat → Int32) → Option (Int32 × (Nat → Int32) × (Nat → Int32) × (Nat → Int64) × (Nat → Int32))) (v6 : Int32) (mx : Nat → Int32) : Option (Int32 × (Nat → Int32) × (Nat → Int32) × (Nat → Int64) × (Nat → Int32)) :=
  if v6 < (nI 40) then
    gd (inb (((nI 40) * v5) + v6) 56000) <|
    k33 (v6 + (nI 1)) (up mx (ix (((nI 40) * v5) + v6)) (b8 (nI 0)))
  else
    k60 mx
def p_X6_adds (v1 : Int32) (v2 : Int32) (v3 : Int64) (mm : Nat → Int32) (mt : Nat → Int32) (mv : Nat → Int64) (mx : Nat → Int32) : Option (Int32 × (Nat → Int32) × (Nat → Int32) × (Nat → Int64) × (Nat → Int32)) :=
  gd (inb v1 7) <|
  gd (inb (((nI 200) * v1) + (mm (ix v1))) 1400) <|
  gd (isB v2) <|
  gd (inb (((nI 200) * v1) + (mm (ix v1))) 1400) <|
  itr2 (p_X6_adds_L33 (((nI 200) * v1) + (mm (ix v1))) (fun mx_6 =>
      gd (inb v1 7) <|
      gd (inb v1 7) <|
      gd (inb v1 7) <|
      some ((((up mm (ix v1) ((mm (ix v1)) + (nI 1))) (ix v1)) - (nI 1)), (up mm (ix v1) ((mm (ix v1)) + (nI 1))), (up mt (ix (((nI 200) * v1) + (mm (ix v1)))) v2), (up mv (ix (((nI 200) * v1) + (mm (ix v1)))) v3), mx_6))) fu (nI 0) mx
def p_X6_add (v1 : Int32) (v2 : Int64) (mk : Nat → Int32) (mm : Nat → Int32) (mt : Nat → Int32) (mv : Nat → Int64) (mx : Nat → Int32) : Option (Int32 × (Nat → Int32) × (Nat → Int32) × (Nat → Int64) × (Nat → Int32)) :=
  bd1 (p_X6_isColumn v1) <| fun a_1 =>
  if a_1 = (nI 0) then
    some ((-1 : Int32), mm, mt, mv, mx)
  else
    gd (inb v1 7) <|
    if (mk (ix v1)) = (nI 2) then
      some ((-2 : Int32), mm, mt, mv, mx)
    else
      gd (inb v1 7) <|
      if (mm (ix v1)) = (nI 200) then
        some ((-3 : Int32), mm, mt, mv, mx)
      else
        gd (inb v1 7) <|
        if (mk (ix v1)) = (nI 0) then
          bd5 (p_X6_adds v1 (nI 1) (i2l (l2i v2)) mm mt mv mx) <| fun a_6 mm_7 mt_8 mv_9 mx_10 =>
          some (a_6, mm_7, mt_8, mv_9, mx_10)
        else
          gd (inb v1 7) <|
          if (mk (ix v1)) = (nI 3) then
            if v2 = (lN 0) then
              bd5 (p_X6_adds v1 (nI 1) (lN 0) mm mt mv mx) <| fun a_13 mm_14 mt_15 mv_16 mx_17 =>
              some (a_13, mm_14, mt_15, mv_16, mx_17)
            else
              bd5 (p_X6_adds v1 (nI 1) (lN 1) mm mt mv mx) <| fun a_19 mm_20 mt_21 mv_22 mx_23 =>
              some (a_19, mm_20, mt_21, mv_22, mx_23)
          else
            bd5 (p_X6_adds v1 (nI 1) v2 mm mt mv mx) <| fun a_25 mm_26 mt_27 mv_28 mx_29 =>
            some (a_25, mm_26, mt_27, mv_28, mx_29)
def p_X6_type_L33 (v1 : Int64) (k33 : Int32 → (Nat → Int32) → Int32 → Option (Int32 × (Nat → Int32) × Int32)) (v4 : Int32) (mp : Nat → Int32) (mtd : Int32) : Option (Int32 × (Nat → Int32) × Int32) :=
  if v4 < (nI 0) then
    some (mtd, mp, mtd)
  else
    gd (inb mtd 40) <|
    k33 (v4 + (-1 : Int32)) (up mp (ix mtd) (b8 (l2i (lshr v1 ((nI 8) * v4))))) (mtd + (nI 1))
def p_X6_type (v1 : Int64) (v3 : Int32) (mp : Nat → Int32) (mtd : Int32) : Option (Int32 × (Nat → Int32) × Int32) :=
  bd1 (p_X6_in (i2l v3) (lN 1) (lN 8)) <| fun a_1 =>
  if a_1 = (nI 0) then
    some ((-1 : Int32), mp, mtd)
  else
    if (nI 40) < (mtd + v3) then
      some ((-3 : Int32), mp, mtd)
    else
      itr3 (p_X6_type_L33 v1 ) fu (v3 - (nI 1)) mp mtd
def p_X6_addText_L51 (v1 : Int32) (v2 : Int32) (mm : Nat → Int32) (mt : Nat → Int32) (mv : Nat → Int64) (mp : Nat → Int32) (mtd : Int32) (k51 : Int32 → (Nat → Int32) → Option (Int32 × (Nat → Int32) × (Nat → Int32) × (Nat → Int64) × (Nat → Int32) × Int32)) (v3 : Int32) (mx : Nat → Int32) : Option (Int32 × (Nat → Int32) × (Nat → Int32) × (Nat → Int64) × (Nat → Int32) × Int32) :=
  if v3 < mtd then
    gd (inb v3 40) <|
    gd (inb (((nI 40) * (((nI 200) * v1) + v2)) + v3) 56000) <|
    k51 (v3 + (nI 1)) (up mx (ix (((nI 40) * (((nI 200) * v1) + v2)) + v3)) (b8 (mp (ix v3))))
  else
    some (v2, mm, mt, mv, mx, (nI 0))
def p_X6_addText (v1 : Int32) (mk : Nat → Int32) (mm : Nat → Int32) (mt : Nat → Int32) (mv : Nat → Int64) (mx : Nat → Int32) (mp : Nat → Int32) (mtd : Int32) : Option (Int32 × (Nat → Int32) × (Nat → Int32) × (Nat → Int64) × (Nat → Int32) × Int32) :=
  bd1 (p_X6_isColumn v1) <| fun a_1 =>
  if a_1 = (nI 0) then
    some ((-1 : Int32), mm, mt, mv, mx, mtd)
  else
    gd (inb v1 7) <|
    if (mk (ix v1)) = (nI 2) then
      gd (inb v1 7) <|
      if (mm (ix v1)) = (nI 200) then
        some ((-3 : Int32), mm, mt, mv, mx, mtd)
      else
        bd5 (p_X6_adds v1 (nI 1) (i2l mtd) mm mt mv mx) <| fun a_5 mm_6 mt_7 mv_8 mx_9 =>
        itr2 (p_X6_addText_L51 v1 a_5 mm_6 mt_7 mv_8 mp mtd ) fu (nI 0) mx_9
    else
      some ((-2 : Int32), mm, mt, mv, mx, mtd)
def p_X6_addNone (v1 : Int32) (mo : Nat → Int32) (mm : Nat → Int32) (mt : Nat → Int32) (mv : Nat → Int64) (mx : Nat → Int32) : Option (Int32 × (Nat → Int32) × (Nat → Int32) × (Nat → Int64) × (Nat → Int32)) :=
  bd1 (p_X6_isColumn v1) <| fun a_1 =>
  if a_1 = (nI 0) then
    some ((-1 : Int32), mm, mt, mv, mx)
  else
    gd (inb v1 7) <|
    if (mo (ix v1)) = (nI 0) then
      some ((-2 : Int32), mm, mt, mv, mx)
    else
      gd (inb v1 7) <|
      if (mm (ix v1)) = (nI 200) then
        some ((-3 : Int32), mm, mt, mv, mx)
      else
        bd5 (p_X6_adds v1 (nI 0) (lN 0) mm mt mv mx) <| fun a_5 mm_6 mt_7 mv_8 mx_9 =>
        some (a_5, mm_6, mt_7, mv_8, mx_9)
def p_X6_copies_L26 (v1 : Int32) (v2 : Int32) (mt : Nat → Int32) (mv : Nat → Int64) (k26 : Int32 → (Nat → Int32) → Option ((Nat → Int32) × (Nat → Int64) × (Nat → Int32))) (v3 : Int32) (mx : Nat → Int32) : Option ((Nat → Int32) × (Nat → Int64) × (Nat → Int32)) :=
  if v3 < (nI 40) then
    gd (inb (((nI 40) * v2) + v3) 56000) <|
    gd (inb (((nI 40) * v1) + v3) 56000) <|
    k26 (v3 + (nI 1)) (up mx (ix (((nI 40) * v1) + v3)) (b8 (mx (ix (((nI 40) * v2) + v3)))))
  else
    some (mt, mv, mx)
def p_X6_copies (v1 : Int32) (v2 : Int32) (mt : Nat → Int32) (mv : Nat → Int64) (mx : Nat → Int32) : Option ((Nat → Int32) × (Nat → Int64) × (Nat → Int32)) :=
  gd (inb v2 1400) <|
  gd (inb v1 1400) <|
  gd (isB (mt (ix v2))) <|
  gd (inb v2 1400) <|
  gd (inb v1 1400) <|
  itr2 (p_X6_copies_L26 v1 v2 (up mt (ix v1) (mt (ix v2))) (up mv (ix v1) (mv (ix v2))) ) fu (nI 0) mx
def p_X6_repeat_L65 (v1 : Int32) (v3 : Int32) (mm : Nat → Int32) (k65 : Int32 → (Nat → Int32) → (Nat → Int64) → (Nat → Int32) → Option (Int32 × (Nat → Int32) × (Nat → Int32) × (Nat → Int64) × (Nat → Int32))) (v4 : Int32) (mt : Nat → Int32) (mv : Nat → Int64) (mx : Nat → Int32) : Option (Int32 × (Nat → Int32) × (Nat → Int32) × (Nat → Int64) × (Nat → Int32)) :=
  if v4 < (nI 0) then
    gd (inb v1 7) <|
    some ((mm (ix v1)), mm, mt, mv, mx)
  else
    gd (nz v3) <|
    bd3 (p_X6_copies (((nI 200) * v1) + v4) (((nI 200) * v1) + (v4 / v3)) mt mv mx) <| fun mt_11 mv_12 mx_13 =>
    k65 (v4 + (-1 : Int32)) mt_11 mv_12 mx_13
def p_X6_repeat (v1 : Int32) (v2 : Int32) (v3 : Int32) (mm : Nat → Int32) (mt : Nat → Int32) (mv : Nat → Int64) (mx : Nat → Int32) : Option (Int32 × (Nat → Int32) × (Nat → Int32) × (Nat → Int64) × (Nat → Int32)) :=
  bd1 (p_X6_isColumn v1) <| fun a_1 =>
  if a_1 = (nI 0) then
    some ((-1 : Int32), mm, mt, mv, mx)
  else
    gd (inb v1 7) <|
    bd1 (p_X6_in (i2l v2) (lN 0) (i2l (mm (ix v1)))) <| fun a_4 =>
    if a_4 = (nI 0) then
      some ((-1 : Int32), mm, mt, mv, mx)
    else
      bd1 (p_X6_in (i2l v3) (lN 1) (lN 200)) <| fun a_6 =>
      if a_6 = (nI 0) then
        some ((-1 : Int32), mm, mt, mv, mx)
      else
        if (nI 200) < (v2 * v3) then
          some ((-3 : Int32), mm, mt, mv, mx)
        else
          gd (inb v1 7) <|
          itr4 (p_X6_repeat_L65 v1 v3 (up mm (ix v1) (v2 * v3)) ) fu ((v2 * v3) - (nI 1)) mt mv mx
def p_X6_areLike_L40 (v1 : Int32) (v2 : Int32) (mx : Nat → Int32) (k40 : Int32 → Int32 → Option (Int32)) (v3 : Int32) (v4 : Int32) : Option (Int32) :=
  if v4 < (nI 40) then
    if v3 = (nI 0) then
      gd (isB v3) <|
      some (v3)
    else
      gd (inb (((nI 40) * v1) + v4) 56000) <|
      gd (inb (((nI 40) * v2) + v4) 56000) <|
      if (mx (ix (((nI 40) * v1) + v4))) = (mx (ix (((nI 40) * v2) + v4))) then
        k40 (nI 1) (v4 + (nI 1))
      else
        k40 (nI 0) (v4 + (nI 1))
  else
    gd (isB v3) <|
    some (v3)
def p_X6_areLike (v1 : Int32) (v2 : Int32) (mt : Nat → Int32) (mv : Nat → Int64) (mx : Nat → Int32) : Option (Int32) :=
  gd (inb v1 1400) <|
  gd (inb v2 1400) <|
  if (mt (ix v1)) = (mt (ix v2)) then
    gd (inb v1 1400) <|
    gd (inb v2 1400) <|
    if (mv (ix v1)) = (mv (ix v2)) then
      itr2 (p_X6_areLike_L40 v1 v2 mx ) fu (nI 1) (nI 0)
    else
      itr2 (p_X6_areLike_L40 v1 v2 mx ) fu (nI 0) (nI 0)
  else
    itr2 (p_X6_areLike_L40 v1 v2 mx ) fu (nI 0) (nI 0)
def p_X6_told_L127 (v1 : Int32) (v5 : Int32) (v6 : Int32) (mt : Nat → Int32) (mv : Nat → Int64) (mx : Nat → Int32) (k169 : Int32 → Option (Int32)) (k127 : Int32 → Int32 → Option (Int32)) (v7 : Int32) (v8 : Int32) : Option (Int32) :=
  if v8 < v5 then
    if v7 = (nI 0) then
      k169 v7
    else
      bd1 (p_X6_areLike (((nI 200) * v1) + v8) v6 mt mv mx) <| fun a_11 =>
      if a_11 = (nI 0) then
        k127 (nI 1) (v8 + (nI 1))
      else
        k127 (nI 0) (v8 + (nI 1))
  else
    k169 v7
def p_X6_told_J169 (v3 : Int32) (v4 : Int32) (v5 : Int32) (v7 : Int32) (k76 : Int32 → Int32 → Int32 → Option (Int32)) : Option (Int32) :=
  if v7 = (nI 0) then
    k76 v3 (v4 + (nI 0)) (v5 + (nI 1))
  else
    k76 v3 (v4 + (nI 1)) (v5 + (nI 1))
def p_X6_told_J113 (v1 : Int32) (v4 : Int32) (v5 : Int32) (v6 : Int32) (s0 : Int32) (s1 : Int32) (mt : Nat → Int32) (mv : Nat → Int64) (mx : Nat → Int32) (k76 : Int32 → Int32 → Int32 → Option (Int32)) : Option (Int32) :=
  gd (inb v6 1400) <|
  itr2 (p_X6_told_L127 v1 v5 v6 mt mv mx (fun v7_13 =>
      p_X6_told_J169 (s0 + s1) v4 v5 v7_13 k76)) fu (mt (ix v6)) (nI 0)
def p_X6_told_L76 (v1 : Int32) (mm : Nat → Int32) (mt : Nat → Int32) (mv : Nat → Int64) (mx : Nat → Int32) (k190 : Int32 → Int32 → Option (Int32)) (k76 : Int32 → Int32 → Int32 → Option (Int32)) (v3 : Int32) (v4 : Int32) (v5 : Int32) : Option (Int32) :=
  gd (inb v1 7) <|
  if v5 < (mm (ix v1)) then
    gd (inb (((nI 200) * v1) + v5) 1400) <|
    if (mt (ix (((nI 200) * v1) + v5))) = (nI 0) then
      p_X6_told_J113 v1 v4 v5 (((nI 200) * v1) + v5) v3 (nI 1) mt mv mx k76
    else
      p_X6_told_J113 v1 v4 v5 (((nI 200) * v1) + v5) v3 (nI 0) mt mv mx k76
  else
    k190 v3 v4
def p_X6_told (v1 : Int32) (v2 : Int32) (mk : Nat → Int32) (mo : Nat → Int32) (mm : Nat → Int32) (mt : Nat → Int32) (mv : Nat → Int64) (mx : Nat → Int32) : Option (Int32) :=
  bd1 (p_X6_isColumn v1) <| fun a_1 =>
  if a_1 = (nI 0) then
    some ((-1 : Int32))
  else
    bd1 (p_X6_in (i2l v2) (lN 0) (lN 4)) <| fun a_3 =>
    if a_3 = (nI 0) then
      some ((-1 : Int32))
    else
      if v2 < (nI 3) then
        if v2 = (nI 0) then
          gd (inb v1 7) <|
          some ((mk (ix v1)))
        else
          if v2 = (nI 1) then
            gd (inb v1 7) <|
            if (mo (ix v1)) = (nI 0) then
              some ((nI 0))
            else
              some ((nI 1))
          else
            gd (inb v1 7) <|
            some ((mm (ix v1)))
      else
        itr3 (p_X6_told_L76 v1 mm mt mv mx (fun v3_14 v4_15 =>
            if v2 = (nI 3) then
              some (v3_14)
            else
              some (v4_15))) fu (nI 0) (nI 0) (nI 0)
def p_X6_isValue (v1 : Int32) (v2 : Int32) (mm : Nat → Int32) : Option (Int32) :=
  bd1 (p_X6_isColumn v1) <| fun a_1 =>
  if a_1 = (nI 0) then
    some ((nI 0))
  else
    gd (inb v1 7) <|
    bd1 (p_X6_in (i2l v2) (lN 0) (i2l ((mm (ix v1)) - (nI 1)))) <| fun a_4 =>
    if a_4 = (nI 0) then
      some ((nI 0))
    else
      some ((nI 1))
def p_X6_has (v1 : Int32) (v2 : Int32) (mm : Nat → Int32) (mt : Nat → Int32) : Option (Int32) :=
  bd1 (p_X6_isValue v1 v2 mm) <| fun a_1 =>
  if a_1 = (nI 0) then
    some ((-1 : Int32))
  else
    gd (inb (((nI 200) * v1) + v2) 1400) <|
    if (mt (ix (((nI 200) * v1) + v2))) = (nI 0) then
      some ((nI 0))
    else
      some ((nI 1))
def p_X6_value (v1 : Int32) (v2 : Int32) (mm : Nat → Int32) (mt : Nat → Int32) (mv : Nat → Int64) : Option (Int64) :=
  bd1 (p_X6_isValue v1 v2 mm) <| fun a_1 =>
  if a_1 = (nI 0) then
    some ((lN 0))
  else
    gd (inb (((nI 200) * v1) + v2) 1400) <|
    if (mt (ix (((nI 200) * v1) + v2))) = (nI 0) then
      some ((lN 0))
    else
      gd (inb (((nI 200) * v1) + v2) 1400) <|
      some ((mv (ix (((nI 200) * v1) + v2))))
def p_X6_letter_J62 (v1 : Int32) (v2 : Int32) (v3 : Int32) (s0 : Int32) (mx : Nat → Int32) : Option (Int32) :=
  if s0 = (nI 0) then
    some ((-1 : Int32))
  else
    gd (inb (((nI 40) * (((nI 200) * v1) + v2)) + v3) 56000) <|
    some (((mx (ix (((nI 40) * (((nI 200) * v1) + v2)) + v3))) &&& (nI 255)))
def p_X6_letter_J61 (v1 : Int32) (v2 : Int32) (v3 : Int32) (mx : Nat → Int32) : Option (Int32) :=
  p_X6_letter_J62 v1 v2 v3 (nI 0) mx
def p_X6_letter (v1 : Int32) (v2 : Int32) (v3 : Int32) (mk : Nat → Int32) (mm : Nat → Int32) (mt : Nat → Int32) (mv : Nat → Int64) (mx : Nat → Int32) : Option (Int32) :=
  bd1 (p_X6_isValue v1 v2 mm) <| fun a_1 =>
  if a_1 = (nI 0) then
    p_X6_letter_J61 v1 v2 v3 mx
  else
    gd (inb v1 7) <|
    if (mk (ix v1)) = (nI 2) then
      gd (inb (((nI 200) * v1) + v2) 1400) <|
      if (mt (ix (((nI 200) * v1) + v2))) = (nI 0) then
        p_X6_letter_J61 v1 v2 v3 mx
      else
        gd (inb (((nI 200) * v1) + v2) 1400) <|
        bd1 (p_X6_in (i2l v3) (lN 0) ((mv (ix (((nI 200) * v1) + v2))) - (lN 1))) <| fun a_7 =>
        if a_7 = (nI 0) then
          p_X6_letter_J61 v1 v2 v3 mx
        else
          p_X6_letter_J62 v1 v2 v3 (nI 1) mx
    else
      p_X6_letter_J61 v1 v2 v3 mx
def p_X6_alike_L55 (v1 : Int32) (v2 : Int32) (mm : Nat → Int32) (mt : Nat → Int32) (mv : Nat → Int64) (mx : Nat → Int32) (k97 : Int32 → Option (Int32)) (k55 : Int32 → Int32 → Option (Int32)) (v3 : Int32) (v4 : Int32) : Option (Int32) :=
  gd (inb v1 7) <|
  if v4 < (mm (ix v1)) then
    if v3 = (nI 0) then
      k97 v3
    else
      bd1 (p_X6_areLike (((nI 200) * v1) + v4) (((nI 200) * v2) + v4) mt mv mx) <| fun a_10 =>
      k55 a_10 (v4 + (nI 1))
  else
    k97 v3
def p_X6_alike_J97 (v3 : Int32) : Option (Int32) :=
  if v3 = (nI 0) then
    some ((nI 0))
  else
    some ((nI 1))
def p_X6_alike (v1 : Int32) (v2 : Int32) (mk : Nat → Int32) (mm : Nat → Int32) (mt : Nat → Int32) (mv : Nat → Int64) (mx : Nat → Int32) : Option (Int32) :=
  bd1 (p_X6_isColumn v1) <| fun a_1 =>
  if a_1 = (nI 0) then
    some ((-1 : Int32))
  else
    bd1 (p_X6_isColumn v2) <| fun a_3 =>
    if a_3 = (nI 0) then
      some ((-1 : Int32))
    else
      gd (inb v1 7) <|
      gd (inb v2 7) <|
      if (mk (ix v1)) = (mk (ix v2)) then
        gd (inb v1 7) <|
        gd (inb v2 7) <|
        if (mm (ix v1)) = (mm (ix v2)) then
          itr2 (p_X6_alike_L55 v1 v2 mm mt mv mx (fun v3_12 =>
              p_X6_alike_J97 v3_12)) fu (nI 1) (nI 0)
        else
          itr2 (p_X6_alike_L55 v1 v2 mm mt mv mx (fun v3_13 =>
              p_X6_alike_J97 v3_13)) fu (nI 0) (nI 0)
      else
        itr2 (p_X6_alike_L55 v1 v2 mm mt mv mx (fun v3_14 =>
            p_X6_alike_J97 v3_14)) fu (nI 0) (nI 0)
def p_X6_byteTo (v1 : Int32) (md : Nat → Int32) (mdd : Int32) : Option ((Nat → Int32) × Int32) :=
  gd (inb mdd 60000) <|
  some ((up md (ix mdd) (b8 v1)), (mdd + (nI 1)))
def p_X6_bytesTo_L3 (v1 : Int64) (v3 : Int32) (k3 : Int32 → (Nat → Int32) → Int32 → Option ((Nat → Int32) × Int32)) (v4 : Int32) (md : Nat → Int32) (mdd : Int32) : Option ((Nat → Int32) × Int32) :=
  if v4 < v3 then
    bd2 (p_X6_byteTo (l2i (lshr v1 ((nI 8) * v4))) md mdd) <| fun md_1 mdd_2 =>
    k3 (v4 + (nI 1)) md_1 mdd_2
  else
    some (md, mdd)
def p_X6_bytesTo (v1 : Int64) (v3 : Int32) (md : Nat → Int32) (mdd : Int32) : Option ((Nat → Int32) × Int32) :=
  itr3 (p_X6_bytesTo_L3 v1 v3 ) fu (nI 0) md mdd
def p_X6_var_L2  (k2 : Int64 → (Nat → Int32) → Int32 → Option ((Nat → Int32) × Int32)) (v3 : Int64) (md : Nat → Int32) (mdd : Int32) : Option ((Nat → Int32) × Int32) :=
  if (v3 &&& (-128 : Int64)) = (lN 0) then
    bd2 (p_X6_byteTo (l2i v3) md mdd) <| fun md_1 mdd_2 =>
    some (md_1, mdd_2)
  else
    bd2 (p_X6_byteTo ((l2i (v3 &&& (lN 127))) ||| (nI 128)) md mdd) <| fun md_4 mdd_5 =>
    k2 (lushr v3 (nI 7)) md_4 mdd_5
def p_X6_var (v1 : Int64) (md : Nat → Int32) (mdd : Int32) : Option ((Nat → Int32) × Int32) :=
  itr3 (p_X6_var_L2  ) fu v1 md mdd
def p_X6_zig (v1 : Int64) (md : Nat → Int32) (mdd : Int32) : Option ((Nat → Int32) × Int32) :=
  bd2 (p_X6_var ((lshl v1 (nI 1)) ^^^ (lshr v1 (nI 63))) md mdd) <| fun md_1 mdd_2 =>
  some (md_1, mdd_2)
def p_X6_pack_J50 (v5 : Int32) (v6 : Int32) (v8 : Int32) (s0 : Int32) (md : Nat → Int32) (mdd : Int32) (k20 : Int32 → Int32 → Int32 → (Nat → Int32) → Int32 → Option ((Nat → Int32) × Int32)) : Option ((Nat → Int32) × Int32) :=
  if (v5 + (nI 1)) = (nI 8) then
    bd2 (p_X6_byteTo (v6 ||| (ishl s0 v5)) md mdd) <| fun md_2 mdd_3 =>
    k20 (nI 0) (nI 0) (v8 + (nI 1)) md_2 mdd_3
  else
    k20 (v5 + (nI 1)) (v6 ||| (ishl s0 v5)) (v8 + (nI 1)) md mdd
def p_X6_pack_L20 (v3 : Int32) (v4 : Int32) (v7 : Int32) (mn : Nat → Int64) (k90 : Int32 → Int32 → (Nat → Int32) → Int32 → Option ((Nat → Int32) × Int32)) (k20 : Int32 → Int32 → Int32 → (Nat → Int32) → Int32 → Option ((Nat → Int32) × Int32)) (v5 : Int32) (v6 : Int32) (v8 : Int32) (md : Nat → Int32) (mdd : Int32) : Option ((Nat → Int32) × Int32) :=
  if v8 < v4 then
    if v7 < v3 then
      gd (inb v7 500) <|
      p_X6_pack_J50 v5 v6 v8 (l2i ((lushr (mn (ix v7)) v8) &&& (lN 1))) md mdd k20
    else
      p_X6_pack_J50 v5 v6 v8 (nI 0) md mdd k20
  else
    k90 v5 v6 md mdd
def p_X6_pack_L9 (v1 : Int32) (v2 : Int32) (v3 : Int32) (v4 : Int32) (mn : Nat → Int64) (k96 : Int32 → Int32 → (Nat → Int32) → Int32 → Option ((Nat → Int32) × Int32)) (k9 : Int32 → Int32 → Int32 → (Nat → Int32) → Int32 → Option ((Nat → Int32) × Int32)) (v5 : Int32) (v6 : Int32) (v7 : Int32) (md : Nat → Int32) (mdd : Int32) : Option ((Nat → Int32) × Int32) :=
  if v7 < (v1 + v2) then
    itr5 (p_X6_pack_L20 v3 v4 v7 mn (fun v5_5 v6_6 md_7 mdd_8 =>
        k9 v5_5 v6_6 (v7 + (nI 1)) md_7 mdd_8)) fu v5 v6 (nI 0) md mdd
  else
    k96 v5 v6 md mdd
def p_X6_pack (v1 : Int32) (v2 : Int32) (v3 : Int32) (v4 : Int32) (md : Nat → Int32) (mdd : Int32) (mn : Nat → Int64) : Option ((Nat → Int32) × Int32) :=
  itr5 (p_X6_pack_L9 v1 v2 v3 v4 mn (fun v5_9 v6_10 md_11 mdd_12 =>
      if (nI 0) < v5_9 then
        bd2 (p_X6_byteTo v6_10 md_11 mdd_12) <| fun md_13 mdd_14 =>
        some (md_13, mdd_14)
      else
        some (md_11, mdd_12))) fu (nI 0) (nI 0) v1 md mdd
def p_X6_alikeFrom_L2 (v1 : Int32) (v2 : Int32) (mn : Nat → Int64) (k2 : Int32 → Option (Int32)) (v3 : Int32) : Option (Int32) :=
  if v3 < v2 then
    gd (inb v3 500) <|
    gd (inb v1 500) <|
    if (mn (ix v3)) = (mn (ix v1)) then
      k2 (v3 + (nI 1))
    else
      some ((v3 - v1))
  else
    some ((v3 - v1))
def p_X6_alikeFrom (v1 : Int32) (v2 : Int32) (mn : Nat → Int64) : Option (Int32) :=
  itr1 (p_X6_alikeFrom_L2 v1 v2 mn ) fu v1
def p_X6_runs_L61 (v1 : Int32) (v3 : Int32) (mn : Nat → Int64) (k95 : Int32 → Option ((Nat → Int32) × Int32)) (k61 : Int32 → Option ((Nat → Int32) × Int32)) (v5 : Int32) : Option ((Nat → Int32) × Int32) :=
  if (v3 + ((nI 8) * v5)) < v1 then
    bd1 (p_X6_alikeFrom (v3 + ((nI 8) * v5)) v1 mn) <| fun a_3 =>
    if a_3 < (nI 8) then
      k61 (v5 + (nI 1))
    else
      k95 v5
  else
    k95 v5
def p_X6_runs_J95 (v1 : Int32) (v2 : Int32) (v3 : Int32) (v5 : Int32) (md : Nat → Int32) (mdd : Int32) (mn : Nat → Int64) (k2 : Int32 → (Nat → Int32) → Int32 → Option ((Nat → Int32) × Int32)) : Option ((Nat → Int32) × Int32) :=
  bd2 (p_X6_var (((lN 2) * (i2l v5)) + (lN 1)) md mdd) <| fun md_6 mdd_7 =>
  bd2 (p_X6_pack v3 ((nI 8) * v5) v1 v2 md_6 mdd_7 mn) <| fun md_9 mdd_10 =>
  k2 (v3 + ((nI 8) * v5)) md_9 mdd_10
def p_X6_runs_L2 (v1 : Int32) (v2 : Int32) (mn : Nat → Int64) (k2 : Int32 → (Nat → Int32) → Int32 → Option ((Nat → Int32) × Int32)) (v3 : Int32) (md : Nat → Int32) (mdd : Int32) : Option ((Nat → Int32) × Int32) :=
  if v3 < v1 then
    bd1 (p_X6_alikeFrom v3 v1 mn) <| fun a_1 =>
    if a_1 < (nI 8) then
      itr1 (p_X6_runs_L61 v1 v3 mn (fun v5_5 =>
          p_X6_runs_J95 v1 v2 v3 v5_5 md mdd mn k2)) fu (nI 1)
    else
      bd2 (p_X6_var ((lN 2) * (i2l a_1)) md mdd) <| fun md_12 mdd_13 =>
      gd (inb v3 500) <|
      bd2 (p_X6_bytesTo (mn (ix v3)) ((v2 + (nI 7)) / (nI 8)) md_12 mdd_13) <| fun md_16 mdd_17 =>
      k2 (v3 + a_1) md_16 mdd_17
  else
    some (md, mdd)
def p_X6_runs (v1 : Int32) (v2 : Int32) (md : Nat → Int32) (mdd : Int32) (mn : Nat → Int64) : Option ((Nat → Int32) × Int32) :=
  itr3 (p_X6_runs_L2 v1 v2 mn ) fu (nI 0) md mdd
def p_X6_widthOf_L4  (k4 : Int32 → Int64 → Option (Int32)) (v2 : Int32) (v3 : Int64) : Option (Int32) :=
  if v3 = (lN 0) then
    some (v2)
  else
    k4 (v2 + (nI 1)) (lushr v3 (nI 1))
def p_X6_widthOf (v0 : Int64) : Option (Int32) :=
  itr2 (p_X6_widthOf_L4  ) fu (nI 0) v0
def p_X6_partWidth_L5 (v1 : Int32) (v2 : Int32) (mn : Nat → Int64) (k5 : Int32 → Int32 → Option (Int32)) (v3 : Int32) (v4 : Int32) : Option (Int32) :=
  if v4 < (v1 + (nI 32)) then
    if v4 < v2 then
      gd (inb v4 500) <|
      bd1 (p_X6_widthOf (mn (ix v4))) <| fun a_2 =>
      if v3 < a_2 then
        gd (inb v4 500) <|
        bd1 (p_X6_widthOf (mn (ix v4))) <| fun a_5 =>
        k5 a_5 (v4 + (nI 1))
      else
        k5 v3 (v4 + (nI 1))
    else
      some (v3)
  else
    some (v3)
def p_X6_partWidth (v1 : Int32) (v2 : Int32) (mn : Nat → Int64) : Option (Int32) :=
  itr2 (p_X6_partWidth_L5 v1 v2 mn ) fu (nI 0) v1
def p_X6_differences_L40 (v1 : Int32) (v2 : Int32) (mn : Nat → Int64) (k99 : (Nat → Int64) → Option ((Nat → Int32) × Int32 × (Nat → Int64) × (Nat → Int64))) (k40 : Int32 → (Nat → Int64) → Option ((Nat → Int32) × Int32 × (Nat → Int64) × (Nat → Int64))) (v3 : Int32) (mst : Nat → Int64) : Option ((Nat → Int32) × Int32 × (Nat → Int64) × (Nat → Int64)) :=
  if v3 < v1 then
    if v2 = (nI 0) then
      gd (inb v3 500) <|
      gd (inb (v3 - (nI 1)) 500) <|
      gd (inb (v3 - (nI 1)) 500) <|
      k40 (v3 + (nI 1)) (up mst (ix (v3 - (nI 1))) ((mn (ix v3)) - (mn (ix (v3 - (nI 1))))))
    else
      gd (inb v3 500) <|
      gd (inb (v3 - (nI 1)) 500) <|
      gd (inb (v3 - (nI 1)) 500) <|
      k40 (v3 + (nI 1)) (up mst (ix (v3 - (nI 1))) (i2l ((l2i (mn (ix v3))) - (l2i (mn (ix (v3 - (nI 1))))))))
  else
    k99 mst
def p_X6_differences_L143 (v4 : Int32) (mst : Nat → Int64) (k183 : Int64 → Option ((Nat → Int32) × Int32 × (Nat → Int64) × (Nat → Int64))) (k143 : Int64 → Int32 → Option ((Nat → Int32) × Int32 × (Nat → Int64) × (Nat → Int64))) (v5 : Int64) (v7 : Int32) : Option ((Nat → Int32) × Int32 × (Nat → Int64) × (Nat → Int64)) :=
  if v7 < v4 then
    gd (inb v7 500) <|
    if (mst (ix v7)) < v5 then
      gd (inb v7 500) <|
      k143 (mst (ix v7)) (v7 + (nI 1))
    else
      k143 v5 (v7 + (nI 1))
  else
    k183 v5
def p_X6_differences_L192 (v2 : Int32) (v4 : Int32) (v5 : Int64) (mst : Nat → Int64) (k243 : (Nat → Int64) → Option ((Nat → Int32) × Int32 × (Nat → Int64) × (Nat → Int64))) (k192 : Int32 → (Nat → Int64) → Option ((Nat → Int32) × Int32 × (Nat → Int64) × (Nat → Int64))) (v7 : Int32) (mn : Nat → Int64) : Option ((Nat → Int32) × Int32 × (Nat → Int64) × (Nat → Int64)) :=
  if v7 < v4 then
    if v2 = (nI 0) then
      gd (inb v7 500) <|
      gd (inb v7 500) <|
      k192 (v7 + (nI 1)) (up mn (ix v7) ((mst (ix v7)) - v5))
    else
      gd (inb v7 500) <|
      gd (inb v7 500) <|
      k192 (v7 + (nI 1)) (up mn (ix v7) (((mst (ix v7)) - v5) &&& (lN 4294967295)))
  else
    k243 mn
def p_X6_differences_L246 (v3 : Int32) (v4 : Int32) (mn : Nat → Int64) (k275 : (Nat → Int32) → Int32 → Option ((Nat → Int32) × Int32 × (Nat → Int64) × (Nat → Int64))) (k246 : Int32 → (Nat → Int32) → Int32 → Option ((Nat → Int32) × Int32 × (Nat → Int64) × (Nat → Int64))) (v7 : Int32) (md : Nat → Int32) (mdd : Int32) : Option ((Nat → Int32) × Int32 × (Nat → Int64) × (Nat → Int64)) :=
  if v7 < (nI 4) then
    bd1 (p_X6_partWidth (v3 + ((nI 32) * v7)) v4 mn) <| fun a_32 =>
    bd2 (p_X6_byteTo a_32 md mdd) <| fun md_34 mdd_35 =>
    k246 (v7 + (nI 1)) md_34 mdd_35
  else
    k275 md mdd
def p_X6_differences_L278 (v3 : Int32) (v4 : Int32) (mn : Nat → Int64) (k330 : (Nat → Int32) → Int32 → Option ((Nat → Int32) × Int32 × (Nat → Int64) × (Nat → Int64))) (k278 : Int32 → (Nat → Int32) → Int32 → Option ((Nat → Int32) × Int32 × (Nat → Int64) × (Nat → Int64))) (v7 : Int32) (md : Nat → Int32) (mdd : Int32) : Option ((Nat → Int32) × Int32 × (Nat → Int64) × (Nat → Int64)) :=
  if v7 < (nI 4) then
    if (v3 + ((nI 32) * v7)) < v4 then
      bd1 (p_X6_partWidth (v3 + ((nI 32) * v7)) v4 mn) <| fun a_39 =>
      bd2 (p_X6_pack (v3 + ((nI 32) * v7)) (nI 32) v4 a_39 md mdd mn) <| fun md_41 mdd_42 =>
      k278 (v7 + (nI 1)) md_41 mdd_42
    else
      k278 (v7 + (nI 1)) md mdd
  else
    k330 md mdd
def p_X6_differences_L101 (v1 : Int32) (v2 : Int32) (mst : Nat → Int64) (k101 : Int32 → (Nat → Int32) → Int32 → (Nat → Int64) → Option ((Nat → Int32) × Int32 × (Nat → Int64) × (Nat → Int64))) (v3 : Int32) (md : Nat → Int32) (mdd : Int32) (mn : Nat → Int64) : Option ((Nat → Int32) × Int32 × (Nat → Int64) × (Nat → Int64)) :=
  if v3 < (v1 - (nI 1)) then
    if (v3 + (nI 128)) < (v1 - (nI 1)) then
      gd (inb v3 500) <|
      itr2 (p_X6_differences_L143 (v3 + (nI 128)) mst (fun v5_23 =>
          bd2 (p_X6_zig v5_23 md mdd) <| fun md_24 mdd_25 =>
          itr2 (p_X6_differences_L192 v2 (v3 + (nI 128)) v5_23 mst (fun mn_31 =>
              itr3 (p_X6_differences_L246 v3 (v3 + (nI 128)) mn_31 (fun md_37 mdd_38 =>
                  itr3 (p_X6_differences_L278 v3 (v3 + (nI 128)) mn_31 (fun md_44 mdd_45 =>
                      k101 (v3 + (nI 128)) md_44 mdd_45 mn_31)) fu (nI 0) md_37 mdd_38)) fu (nI 0) md_24 mdd_25)) fu v3 mn)) fu (mst (ix v3)) v3
    else
      gd (inb v3 500) <|
      itr2 (p_X6_differences_L143 (v1 - (nI 1)) mst (fun v5_47 =>
          bd2 (p_X6_zig v5_47 md mdd) <| fun md_48 mdd_49 =>
          itr2 (p_X6_differences_L192 v2 (v1 - (nI 1)) v5_47 mst (fun mn_51 =>
              itr3 (p_X6_differences_L246 v3 (v1 - (nI 1)) mn_51 (fun md_52 mdd_53 =>
                  itr3 (p_X6_differences_L278 v3 (v1 - (nI 1)) mn_51 (fun md_54 mdd_55 =>
                      k101 (v3 + (nI 128)) md_54 mdd_55 mn_51)) fu (nI 0) md_52 mdd_53)) fu (nI 0) md_48 mdd_49)) fu v3 mn)) fu (mst (ix v3)) v3
  else
    some (md, mdd, mn, mst)
def p_X6_differences (v1 : Int32) (v2 : Int32) (md : Nat → Int32) (mdd : Int32) (mn : Nat → Int64) (mst : Nat → Int64) : Option ((Nat → Int32) × Int32 × (Nat → Int64) × (Nat → Int64)) :=
  bd2 (p_X6_var (lN 128) md mdd) <| fun md_1 mdd_2 =>
  bd2 (p_X6_var (lN 4) md_1 mdd_2) <| fun md_4 mdd_5 =>
  bd2 (p_X6_var (i2l v1) md_4 mdd_5) <| fun md_7 mdd_8 =>
  if v1 = (nI 0) then
    bd2 (p_X6_zig (lN 0) md_7 mdd_8) <| fun md_10 mdd_11 =>
    itr2 (p_X6_differences_L40 v1 v2 mn (fun mst_19 =>
        itr4 (p_X6_differences_L101 v1 v2 mst_19 ) fu (nI 0) md_10 mdd_11 mn)) fu (nI 1) mst
  else
    gd (inb (nI 0) 500) <|
    bd2 (p_X6_zig (mn (ix (nI 0))) md_7 mdd_8) <| fun md_57 mdd_58 =>
    itr2 (p_X6_differences_L40 v1 v2 mn (fun mst_60 =>
        itr4 (p_X6_differences_L101 v1 v2 mst_60 ) fu (nI 0) md_57 mdd_58 mn)) fu (nI 1) mst
def p_X6_letters_L2 (v1 : Int32) (mv : Nat → Int64) (mx : Nat → Int32) (k2 : Int32 → (Nat → Int32) → Int32 → Option ((Nat → Int32) × Int32)) (v2 : Int32) (md : Nat → Int32) (mdd : Int32) : Option ((Nat → Int32) × Int32) :=
  gd (inb v1 1400) <|
  if (i2l v2) < (mv (ix v1)) then
    gd (inb (((nI 40) * v1) + v2) 56000) <|
    bd2 (p_X6_byteTo (mx (ix (((nI 40) * v1) + v2))) md mdd) <| fun md_3 mdd_4 =>
    k2 (v2 + (nI 1)) md_3 mdd_4
  else
    some (md, mdd)
def p_X6_letters (v1 : Int32) (mv : Nat → Int64) (mx : Nat → Int32) (md : Nat → Int32) (mdd : Int32) : Option ((Nat → Int32) × Int32) :=
  itr3 (p_X6_letters_L2 v1 mv mx ) fu (nI 0) md mdd
def p_X6_plain (v1 : Int32) (v2 : Int32) (mv : Nat → Int64) (mx : Nat → Int32) (md : Nat → Int32) (mdd : Int32) : Option ((Nat → Int32) × Int32) :=
  if v2 = (nI 2) then
    gd (inb v1 1400) <|
    bd2 (p_X6_bytesTo (mv (ix v1)) (nI 4) md mdd) <| fun md_2 mdd_3 =>
    bd2 (p_X6_letters v1 mv mx md_2 mdd_3) <| fun md_5 mdd_6 =>
    some (md_5, mdd_6)
  else
    gd (inb v1 1400) <|
    if v2 = (nI 0) then
      bd2 (p_X6_bytesTo (mv (ix v1)) (nI 4) md mdd) <| fun md_9 mdd_10 =>
      some (md_9, mdd_10)
    else
      bd2 (p_X6_bytesTo (mv (ix v1)) (nI 8) md mdd) <| fun md_12 mdd_13 =>
      some (md_12, mdd_13)
def p_X6_head_J48 (v3 : Int32) (v4 : Int32) (s1 : Int32) (md : Nat → Int32) (mdd : Int32) : Option ((Nat → Int32) × Int32) :=
  bd2 (p_X6_byteTo s1 md mdd) <| fun md_19 mdd_20 =>
  bd2 (p_X6_byteTo (nI 21) md_19 mdd_20) <| fun md_22 mdd_23 =>
  bd2 (p_X6_zig (i2l v3) md_22 mdd_23) <| fun md_25 mdd_26 =>
  bd2 (p_X6_byteTo (nI 21) md_25 mdd_26) <| fun md_28 mdd_29 =>
  bd2 (p_X6_zig (i2l v4) md_28 mdd_29) <| fun md_31 mdd_32 =>
  bd2 (p_X6_byteTo (nI 0) md_31 mdd_32) <| fun md_34 mdd_35 =>
  bd2 (p_X6_byteTo (nI 0) md_34 mdd_35) <| fun md_37 mdd_38 =>
  some (md_37, mdd_38)
def p_X6_head (v1 : Int32) (v2 : Int32) (v3 : Int32) (v4 : Int32) (md : Nat → Int32) (mdd : Int32) : Option ((Nat → Int32) × Int32) :=
  bd2 (p_X6_byteTo (nI 21) md mdd) <| fun md_1 mdd_2 =>
  bd2 (p_X6_zig (i2l v1) md_1 mdd_2) <| fun md_4 mdd_5 =>
  bd2 (p_X6_byteTo (nI 21) md_4 mdd_5) <| fun md_7 mdd_8 =>
  bd2 (p_X6_zig (i2l v2) md_7 mdd_8) <| fun md_10 mdd_11 =>
  bd2 (p_X6_byteTo (nI 21) md_10 mdd_11) <| fun md_13 mdd_14 =>
  bd2 (p_X6_zig (i2l v2) md_13 mdd_14) <| fun md_16 mdd_17 =>
  if v1 = (nI 0) then
    p_X6_head_J48 v3 v4 (nI 44) md_16 mdd_17
  else
    p_X6_head_J48 v3 v4 (nI 76) md_16 mdd_17
def p_X6_makeDictionary_L39 (v3 : Int32) (mm : Nat → Int32) (mt : Nat → Int32) (mv : Nat → Int64) (mx : Nat → Int32) (k70 : Int32 → Option ((Nat → Int32) × (Nat → Int32) × (Nat → Int64) × (Nat → Int32) × (Nat → Int32))) (k39 : Int32 → Option ((Nat → Int32) × (Nat → Int32) × (Nat → Int64) × (Nat → Int32) × (Nat → Int32))) (v4 : Int32) : Option ((Nat → Int32) × (Nat → Int32) × (Nat → Int64) × (Nat → Int32) × (Nat → Int32)) :=
  gd (inb (nI 5) 7) <|
  if v4 < (mm (ix (nI 5))) then
    bd1 (p_X6_areLike ((nI 1000) + v4) v3 mt mv mx) <| fun a_5 =>
    if a_5 = (nI 0) then
      k39 (v4 + (nI 1))
    else
      k70 v4
  else
    k70 v4
def p_X6_makeDictionary_J70 (v2 : Int32) (v3 : Int32) (v4 : Int32) (mm : Nat → Int32) (mt : Nat → Int32) (mv : Nat → Int64) (mx : Nat → Int32) (mpl : Nat → Int32) (k9 : Int32 → (Nat → Int32) → (Nat → Int32) → (Nat → Int64) → (Nat → Int32) → (Nat → Int32) → Option ((Nat → Int32) × (Nat → Int32) × (Nat → Int64) × (Nat → Int32) × (Nat → Int32))) : Option ((Nat → Int32) × (Nat → Int32) × (Nat → Int64) × (Nat → Int32) × (Nat → Int32)) :=
  gd (inb (nI 5) 7) <|
  if v4 = (mm (ix (nI 5))) then
    bd3 (p_X6_copies ((nI 1000) + v4) v3 mt mv mx) <| fun mt_9 mv_10 mx_11 =>
    gd (inb (nI 5) 7) <|
    gd (inb (nI 5) 7) <|
    gd (inb v2 200) <|
    k9 (v2 + (nI 1)) (up mm (ix (nI 5)) ((mm (ix (nI 5))) + (nI 1))) mt_9 mv_10 mx_11 (up mpl (ix v2) v4)
  else
    gd (inb v2 200) <|
    k9 (v2 + (nI 1)) mm mt mv mx (up mpl (ix v2) v4)
def p_X6_makeDictionary_L9 (v1 : Int32) (k9 : Int32 → (Nat → Int32) → (Nat → Int32) → (Nat → Int64) → (Nat → Int32) → (Nat → Int32) → Option ((Nat → Int32) × (Nat → Int32) × (Nat → Int64) × (Nat → Int32) × (Nat → Int32))) (v2 : Int32) (mm : Nat → Int32) (mt : Nat → Int32) (mv : Nat → Int64) (mx : Nat → Int32) (mpl : Nat → Int32) : Option ((Nat → Int32) × (Nat → Int32) × (Nat → Int64) × (Nat → Int32) × (Nat → Int32)) :=
  gd (inb v1 7) <|
  if v2 < (mm (ix v1)) then
    gd (inb (((nI 200) * v1) + v2) 1400) <|
    if (mt (ix (((nI 200) * v1) + v2))) = (nI 0) then
      k9 (v2 + (nI 1)) mm mt mv mx mpl
    else
      itr1 (p_X6_makeDictionary_L39 (((nI 200) * v1) + v2) mm mt mv mx (fun v4_7 =>
          p_X6_makeDictionary_J70 v2 (((nI 200) * v1) + v2) v4_7 mm mt mv mx mpl k9)) fu (nI 0)
  else
    some (mm, mt, mv, mx, mpl)
def p_X6_makeDictionary (v1 : Int32) (mm : Nat → Int32) (mt : Nat → Int32) (mv : Nat → Int64) (mx : Nat → Int32) (mpl : Nat → Int32) : Option ((Nat → Int32) × (Nat → Int32) × (Nat → Int64) × (Nat → Int32) × (Nat → Int32)) :=
  gd (inb (nI 5) 7) <|
  itr6 (p_X6_makeDictionary_L9 v1 ) fu (nI 0) (up mm (ix (nI 5)) (nI 0)) mt mv mx mpl
def p_X6_headed_L11 (v1 : Int32) (v5 : Int32) (md : Nat → Int32) (k40 : (Nat → Int32) → Option ((Nat → Int32) × Int32 × (Nat → Int32))) (k11 : Int32 → (Nat → Int32) → Option ((Nat → Int32) × Int32 × (Nat → Int32))) (v6 : Int32) (mbb : Nat → Int32) : Option ((Nat → Int32) × Int32 × (Nat → Int32)) :=
  if v6 < v5 then
    gd (inb (v1 + v6) 60000) <|
    gd (inb v6 20000) <|
    k11 (v6 + (nI 1)) (up mbb (ix v6) (b8 (md (ix (v1 + v6)))))
  else
    k40 mbb
def p_X6_headed_L58 (v5 : Int32) (mbb : Nat → Int32) (k58 : Int32 → (Nat → Int32) → Int32 → Option ((Nat → Int32) × Int32 × (Nat → Int32))) (v6 : Int32) (md : Nat → Int32) (mdd : Int32) : Option ((Nat → Int32) × Int32 × (Nat → Int32)) :=
  if v6 < v5 then
    gd (inb v6 20000) <|
    bd2 (p_X6_byteTo (mbb (ix v6)) md mdd) <| fun md_8 mdd_9 =>
    k58 (v6 + (nI 1)) md_8 mdd_9
  else
    some (md, mdd, mbb)
def p_X6_headed (v1 : Int32) (v2 : Int32) (v3 : Int32) (v4 : Int32) (md : Nat → Int32) (mdd : Int32) (mbb : Nat → Int32) : Option ((Nat → Int32) × Int32 × (Nat → Int32)) :=
  itr2 (p_X6_headed_L11 v1 (mdd - v1) md (fun mbb_3 =>
      bd2 (p_X6_head v2 (mdd - v1) v3 v4 md v1) <| fun md_4 mdd_5 =>
      itr3 (p_X6_headed_L58 (mdd - v1) mbb_3 ) fu (nI 0) md_4 mdd_5)) fu (nI 0) mbb
def p_X6_sized_L9 (v1 : Int32) (v2 : Int32) (md : Nat → Int32) (k34 : (Nat → Int32) → Option ((Nat → Int32) × Int32 × (Nat → Int32))) (k9 : Int32 → (Nat → Int32) → Option ((Nat → Int32) × Int32 × (Nat → Int32))) (v3 : Int32) (mbb : Nat → Int32) : Option ((Nat → Int32) × Int32 × (Nat → Int32)) :=
  if v3 < v2 then
    gd (inb (v1 + v3) 60000) <|
    gd (inb v3 20000) <|
    k9 (v3 + (nI 1)) (up mbb (ix v3) (b8 (md (ix (v1 + v3)))))
  else
    k34 mbb
def p_X6_sized_L48 (v2 : Int32) (mbb : Nat → Int32) (k48 : Int32 → (Nat → Int32) → Int32 → Option ((Nat → Int32) × Int32 × (Nat → Int32))) (v3 : Int32) (md : Nat → Int32) (mdd : Int32) : Option ((Nat → Int32) × Int32 × (Nat → Int32)) :=
  if v3 < v2 then
    gd (inb v3 20000) <|
    bd2 (p_X6_byteTo (mbb (ix v3)) md mdd) <| fun md_8 mdd_9 =>
    k48 (v3 + (nI 1)) md_8 mdd_9
  else
    some (md, mdd, mbb)
def p_X6_sized (v1 : Int32) (md : Nat → Int32) (mdd : Int32) (mbb : Nat → Int32) : Option ((Nat → Int32) × Int32 × (Nat → Int32)) :=
  itr2 (p_X6_sized_L9 v1 (mdd - v1) md (fun mbb_3 =>
      bd2 (p_X6_bytesTo (i2l (mdd - v1)) (nI 4) md v1) <| fun md_4 mdd_5 =>
      itr3 (p_X6_sized_L48 (mdd - v1) mbb_3 ) fu (nI 0) md_4 mdd_5)) fu (nI 0) mbb
def p_X6_page_L132 (v1 : Int32) (v4 : Int32) (v7 : Int32) (mt : Nat → Int32) (mv : Nat → Int64) (mpl : Nat → Int32) (k202 : Int32 → (Nat → Int64) → Option ((Nat → Int32) × Int32 × (Nat → Int64) × (Nat → Int64) × (Nat → Int32))) (k132 : Int32 → Int32 → (Nat → Int64) → Option ((Nat → Int32) × Int32 × (Nat → Int64) × (Nat → Int64) × (Nat → Int32))) (v6 : Int32) (v8 : Int32) (mn : Nat → Int64) : Option ((Nat → Int32) × Int32 × (Nat → Int64) × (Nat → Int64) × (Nat → Int32)) :=
  if v8 < v4 then
    gd (inb (((nI 200) * v1) + v8) 1400) <|
    if (mt (ix (((nI 200) * v1) + v8))) = (nI 0) then
      k132 v6 (v8 + (nI 1)) mn
    else
      if v7 = (nI 8) then
        gd (inb v8 200) <|
        gd (inb v6 500) <|
        k132 (v6 + (nI 1)) (v8 + (nI 1)) (up mn (ix v6) (i2l (mpl (ix v8))))
      else
        gd (inb (((nI 200) * v1) + v8) 1400) <|
        gd (inb v6 500) <|
        k132 (v6 + (nI 1)) (v8 + (nI 1)) (up mn (ix v6) (mv (ix (((nI 200) * v1) + v8))))
  else
    k202 v6 mn
def p_X6_page_J385 (v1 : Int32) (v7 : Int32) (v9 : Int32) (mk : Nat → Int32) (mt : Nat → Int32) (mv : Nat → Int64) (mx : Nat → Int32) (md : Nat → Int32) (mdd : Int32) (k340 : Int32 → (Nat → Int32) → Int32 → Option ((Nat → Int32) × Int32 × (Nat → Int64) × (Nat → Int64) × (Nat → Int32))) : Option ((Nat → Int32) × Int32 × (Nat → Int64) × (Nat → Int64) × (Nat → Int32)) :=
  gd (inb (((nI 200) * v1) + v9) 1400) <|
  if (mt (ix (((nI 200) * v1) + v9))) = (nI 0) then
    k340 (v9 + (nI 1)) md mdd
  else
    if v7 = (nI 0) then
      gd (inb v1 7) <|
      if (mk (ix v1)) = (nI 3) then
        k340 (v9 + (nI 1)) md mdd
      else
        gd (inb v1 7) <|
        bd2 (p_X6_plain (((nI 200) * v1) + v9) (mk (ix v1)) mv mx md mdd) <| fun md_20 mdd_21 =>
        k340 (v9 + (nI 1)) md_20 mdd_21
    else
      k340 (v9 + (nI 1)) md mdd
def p_X6_page_L340 (v1 : Int32) (v4 : Int32) (v7 : Int32) (mk : Nat → Int32) (mt : Nat → Int32) (mv : Nat → Int64) (mx : Nat → Int32) (k440 : (Nat → Int32) → Int32 → Option ((Nat → Int32) × Int32 × (Nat → Int64) × (Nat → Int64) × (Nat → Int32))) (k340 : Int32 → (Nat → Int32) → Int32 → Option ((Nat → Int32) × Int32 × (Nat → Int64) × (Nat → Int64) × (Nat → Int32))) (v9 : Int32) (md : Nat → Int32) (mdd : Int32) : Option ((Nat → Int32) × Int32 × (Nat → Int64) × (Nat → Int64) × (Nat → Int32)) :=
  if v9 < v4 then
    gd (inb (((nI 200) * v1) + v9) 1400) <|
    if (mt (ix (((nI 200) * v1) + v9))) = (nI 0) then
      p_X6_page_J385 v1 v7 v9 mk mt mv mx md mdd k340
    else
      if v7 = (nI 6) then
        bd2 (p_X6_letters (((nI 200) * v1) + v9) mv mx md mdd) <| fun md_23 mdd_24 =>
        k340 (v9 + (nI 1)) md_23 mdd_24
      else
        p_X6_page_J385 v1 v7 v9 mk mt mv mx md mdd k340
  else
    k440 md mdd
def p_X6_page_J241 (v1 : Int32) (v3 : Int32) (v4 : Int32) (v5 : Int32) (v6 : Int32) (v7 : Int32) (s0 : Int32) (mk : Nat → Int32) (mt : Nat → Int32) (mv : Nat → Int64) (mx : Nat → Int32) (md : Nat → Int32) (mdd : Int32) (mn : Nat → Int64) (mst : Nat → Int64) (mbb : Nat → Int32) : Option ((Nat → Int32) × Int32 × (Nat → Int64) × (Nat → Int64) × (Nat → Int32)) :=
  bd2 (p_X6_byteTo s0 md mdd) <| fun md_10 mdd_11 =>
  bd2 (p_X6_runs v6 s0 md_10 mdd_11 mn) <| fun md_13 mdd_14 =>
  itr3 (p_X6_page_L340 v1 v4 v7 mk mt mv mx (fun md_26 mdd_27 =>
      bd3 (p_X6_headed v5 (nI 0) (v4 - v3) v7 md_26 mdd_27 mbb) <| fun md_28 mdd_29 mbb_30 =>
      some (md_28, mdd_29, mn, mst, mbb_30))) fu v3 md_13 mdd_14
def p_X6_page_J76 (v1 : Int32) (v2 : Int32) (v3 : Int32) (v4 : Int32) (v5 : Int32) (mk : Nat → Int32) (mm : Nat → Int32) (mt : Nat → Int32) (mv : Nat → Int64) (mx : Nat → Int32) (md : Nat → Int32) (mdd : Int32) (mn : Nat → Int64) (mst : Nat → Int64) (mpl : Nat → Int32) (mbb : Nat → Int32) : Option ((Nat → Int32) × Int32 × (Nat → Int64) × (Nat → Int64) × (Nat → Int32)) :=
  if v2 = (nI 0) then
    itr3 (p_X6_page_L132 v1 v4 (nI 0) mt mv mpl (fun v6_7 mn_8 =>
        if (nI 0) = (nI 8) then
          gd (inb (nI 5) 7) <|
          if (mm (ix (nI 5))) < (nI 2) then
            p_X6_page_J241 v1 v3 v4 v5 v6_7 (nI 0) (nI 0) mk mt mv mx md mdd mn_8 mst mbb
          else
            gd (inb (nI 5) 7) <|
            bd1 (p_X6_widthOf (i2l ((mm (ix (nI 5))) - (nI 1)))) <| fun a_33 =>
            p_X6_page_J241 v1 v3 v4 v5 v6_7 (nI 0) a_33 mk mt mv mx md mdd mn_8 mst mbb
        else
          if (nI 0) = (nI 3) then
            bd2 (p_X6_runs v6_7 (nI 1) md mdd mn_8) <| fun md_35 mdd_36 =>
            bd3 (p_X6_sized mdd md_35 mdd_36 mbb) <| fun md_38 mdd_39 mbb_40 =>
            itr3 (p_X6_page_L340 v1 v4 (nI 0) mk mt mv mx (fun md_42 mdd_43 =>
                bd3 (p_X6_headed v5 (nI 0) (v4 - v3) (nI 0) md_42 mdd_43 mbb_40) <| fun md_44 mdd_45 mbb_46 =>
                some (md_44, mdd_45, mn_8, mst, mbb_46))) fu v3 md_38 mdd_39
          else
            if (nI 0) < (nI 0) then
              if (nI 0) = (nI 6) then
                bd4 (p_X6_differences v6_7 (nI 1) md mdd mn_8 mst) <| fun md_48 mdd_49 mn_50 mst_51 =>
                itr3 (p_X6_page_L340 v1 v4 (nI 0) mk mt mv mx (fun md_53 mdd_54 =>
                    bd3 (p_X6_headed v5 (nI 0) (v4 - v3) (nI 0) md_53 mdd_54 mbb) <| fun md_55 mdd_56 mbb_57 =>
                    some (md_55, mdd_56, mn_50, mst_51, mbb_57))) fu v3 md_48 mdd_49
              else
                gd (inb v1 7) <|
                if (mk (ix v1)) = (nI 0) then
                  bd4 (p_X6_differences v6_7 (nI 1) md mdd mn_8 mst) <| fun md_60 mdd_61 mn_62 mst_63 =>
                  itr3 (p_X6_page_L340 v1 v4 (nI 0) mk mt mv mx (fun md_65 mdd_66 =>
                      bd3 (p_X6_headed v5 (nI 0) (v4 - v3) (nI 0) md_65 mdd_66 mbb) <| fun md_67 mdd_68 mbb_69 =>
                      some (md_67, mdd_68, mn_62, mst_63, mbb_69))) fu v3 md_60 mdd_61
                else
                  bd4 (p_X6_differences v6_7 (nI 0) md mdd mn_8 mst) <| fun md_71 mdd_72 mn_73 mst_74 =>
                  itr3 (p_X6_page_L340 v1 v4 (nI 0) mk mt mv mx (fun md_76 mdd_77 =>
                      bd3 (p_X6_headed v5 (nI 0) (v4 - v3) (nI 0) md_76 mdd_77 mbb) <| fun md_78 mdd_79 mbb_80 =>
                      some (md_78, mdd_79, mn_73, mst_74, mbb_80))) fu v3 md_71 mdd_72
            else
              gd (inb v1 7) <|
              if (mk (ix v1)) = (nI 3) then
                bd2 (p_X6_pack (nI 0) v6_7 v6_7 (nI 1) md mdd mn_8) <| fun md_83 mdd_84 =>
                itr3 (p_X6_page_L340 v1 v4 (nI 0) mk mt mv mx (fun md_86 mdd_87 =>
                    bd3 (p_X6_headed v5 (nI 0) (v4 - v3) (nI 0) md_86 mdd_87 mbb) <| fun md_88 mdd_89 mbb_90 =>
                    some (md_88, mdd_89, mn_8, mst, mbb_90))) fu v3 md_83 mdd_84
              else
                itr3 (p_X6_page_L340 v1 v4 (nI 0) mk mt mv mx (fun md_92 mdd_93 =>
                    bd3 (p_X6_headed v5 (nI 0) (v4 - v3) (nI 0) md_92 mdd_93 mbb) <| fun md_94 mdd_95 mbb_96 =>
                    some (md_94, mdd_95, mn_8, mst, mbb_96))) fu v3 md mdd)) fu (nI 0) v3 mn
  else
    if v2 = (nI 1) then
      itr3 (p_X6_page_L132 v1 v4 (nI 8) mt mv mpl (fun v6_98 mn_99 =>
          if (nI 8) = (nI 8) then
            gd (inb (nI 5) 7) <|
            if (mm (ix (nI 5))) < (nI 2) then
              p_X6_page_J241 v1 v3 v4 v5 v6_98 (nI 8) (nI 0) mk mt mv mx md mdd mn_99 mst mbb
            else
              gd (inb (nI 5) 7) <|
              bd1 (p_X6_widthOf (i2l ((mm (ix (nI 5))) - (nI 1)))) <| fun a_102 =>
              p_X6_page_J241 v1 v3 v4 v5 v6_98 (nI 8) a_102 mk mt mv mx md mdd mn_99 mst mbb
          else
            if (nI 8) = (nI 3) then
              bd2 (p_X6_runs v6_98 (nI 1) md mdd mn_99) <| fun md_104 mdd_105 =>
              bd3 (p_X6_sized mdd md_104 mdd_105 mbb) <| fun md_107 mdd_108 mbb_109 =>
              itr3 (p_X6_page_L340 v1 v4 (nI 8) mk mt mv mx (fun md_111 mdd_112 =>
                  bd3 (p_X6_headed v5 (nI 0) (v4 - v3) (nI 8) md_111 mdd_112 mbb_109) <| fun md_113 mdd_114 mbb_115 =>
                  some (md_113, mdd_114, mn_99, mst, mbb_115))) fu v3 md_107 mdd_108
            else
              if (nI 0) < (nI 8) then
                if (nI 8) = (nI 6) then
                  bd4 (p_X6_differences v6_98 (nI 1) md mdd mn_99 mst) <| fun md_117 mdd_118 mn_119 mst_120 =>
                  itr3 (p_X6_page_L340 v1 v4 (nI 8) mk mt mv mx (fun md_122 mdd_123 =>
                      bd3 (p_X6_headed v5 (nI 0) (v4 - v3) (nI 8) md_122 mdd_123 mbb) <| fun md_124 mdd_125 mbb_126 =>
                      some (md_124, mdd_125, mn_119, mst_120, mbb_126))) fu v3 md_117 mdd_118
                else
                  gd (inb v1 7) <|
                  if (mk (ix v1)) = (nI 0) then
                    bd4 (p_X6_differences v6_98 (nI 1) md mdd mn_99 mst) <| fun md_129 mdd_130 mn_131 mst_132 =>
                    itr3 (p_X6_page_L340 v1 v4 (nI 8) mk mt mv mx (fun md_134 mdd_135 =>
                        bd3 (p_X6_headed v5 (nI 0) (v4 - v3) (nI 8) md_134 mdd_135 mbb) <| fun md_136 mdd_137 mbb_138 =>
                        some (md_136, mdd_137, mn_131, mst_132, mbb_138))) fu v3 md_129 mdd_130
                  else
                    bd4 (p_X6_differences v6_98 (nI 0) md mdd mn_99 mst) <| fun md_140 mdd_141 mn_142 mst_143 =>
                    itr3 (p_X6_page_L340 v1 v4 (nI 8) mk mt mv mx (fun md_145 mdd_146 =>
                        bd3 (p_X6_headed v5 (nI 0) (v4 - v3) (nI 8) md_145 mdd_146 mbb) <| fun md_147 mdd_148 mbb_149 =>
                        some (md_147, mdd_148, mn_142, mst_143, mbb_149))) fu v3 md_140 mdd_141
              else
                gd (inb v1 7) <|
                if (mk (ix v1)) = (nI 3) then
                  bd2 (p_X6_pack (nI 0) v6_98 v6_98 (nI 1) md mdd mn_99) <| fun md_152 mdd_153 =>
                  itr3 (p_X6_page_L340 v1 v4 (nI 8) mk mt mv mx (fun md_155 mdd_156 =>
                      bd3 (p_X6_headed v5 (nI 0) (v4 - v3) (nI 8) md_155 mdd_156 mbb) <| fun md_157 mdd_158 mbb_159 =>
                      some (md_157, mdd_158, mn_99, mst, mbb_159))) fu v3 md_152 mdd_153
                else
                  itr3 (p_X6_page_L340 v1 v4 (nI 8) mk mt mv mx (fun md_161 mdd_162 =>
                      bd3 (p_X6_headed v5 (nI 0) (v4 - v3) (nI 8) md_161 mdd_162 mbb) <| fun md_163 mdd_164 mbb_165 =>
                      some (md_163, mdd_164, mn_99, mst, mbb_165))) fu v3 md mdd)) fu (nI 0) v3 mn
    else
      gd (inb v1 7) <|
      if (mk (ix v1)) = (nI 2) then
        itr3 (p_X6_page_L132 v1 v4 (nI 6) mt mv mpl (fun v6_168 mn_169 =>
            if (nI 6) = (nI 8) then
              gd (inb (nI 5) 7) <|
              if (mm (ix (nI 5))) < (nI 2) then
                p_X6_page_J241 v1 v3 v4 v5 v6_168 (nI 6) (nI 0) mk mt mv mx md mdd mn_169 mst mbb
              else
                gd (inb (nI 5) 7) <|
                bd1 (p_X6_widthOf (i2l ((mm (ix (nI 5))) - (nI 1)))) <| fun a_172 =>
                p_X6_page_J241 v1 v3 v4 v5 v6_168 (nI 6) a_172 mk mt mv mx md mdd mn_169 mst mbb
            else
              if (nI 6) = (nI 3) then
                bd2 (p_X6_runs v6_168 (nI 1) md mdd mn_169) <| fun md_174 mdd_175 =>
                bd3 (p_X6_sized mdd md_174 mdd_175 mbb) <| fun md_177 mdd_178 mbb_179 =>
                itr3 (p_X6_page_L340 v1 v4 (nI 6) mk mt mv mx (fun md_181 mdd_182 =>
                    bd3 (p_X6_headed v5 (nI 0) (v4 - v3) (nI 6) md_181 mdd_182 mbb_179) <| fun md_183 mdd_184 mbb_185 =>
                    some (md_183, mdd_184, mn_169, mst, mbb_185))) fu v3 md_177 mdd_178
              else
                if (nI 0) < (nI 6) then
                  if (nI 6) = (nI 6) then
                    bd4 (p_X6_differences v6_168 (nI 1) md mdd mn_169 mst) <| fun md_187 mdd_188 mn_189 mst_190 =>
                    itr3 (p_X6_page_L340 v1 v4 (nI 6) mk mt mv mx (fun md_192 mdd_193 =>
                        bd3 (p_X6_headed v5 (nI 0) (v4 - v3) (nI 6) md_192 mdd_193 mbb) <| fun md_194 mdd_195 mbb_196 =>
                        some (md_194, mdd_195, mn_189, mst_190, mbb_196))) fu v3 md_187 mdd_188
                  else
                    gd (inb v1 7) <|
                    if (mk (ix v1)) = (nI 0) then
                      bd4 (p_X6_differences v6_168 (nI 1) md mdd mn_169 mst) <| fun md_199 mdd_200 mn_201 mst_202 =>
                      itr3 (p_X6_page_L340 v1 v4 (nI 6) mk mt mv mx (fun md_204 mdd_205 =>
                          bd3 (p_X6_headed v5 (nI 0) (v4 - v3) (nI 6) md_204 mdd_205 mbb) <| fun md_206 mdd_207 mbb_208 =>
                          some (md_206, mdd_207, mn_201, mst_202, mbb_208))) fu v3 md_199 mdd_200
                    else
                      bd4 (p_X6_differences v6_168 (nI 0) md mdd mn_169 mst) <| fun md_210 mdd_211 mn_212 mst_213 =>
                      itr3 (p_X6_page_L340 v1 v4 (nI 6) mk mt mv mx (fun md_215 mdd_216 =>
                          bd3 (p_X6_headed v5 (nI 0) (v4 - v3) (nI 6) md_215 mdd_216 mbb) <| fun md_217 mdd_218 mbb_219 =>
                          some (md_217, mdd_218, mn_212, mst_213, mbb_219))) fu v3 md_210 mdd_211
                else
                  gd (inb v1 7) <|
                  if (mk (ix v1)) = (nI 3) then
                    bd2 (p_X6_pack (nI 0) v6_168 v6_168 (nI 1) md mdd mn_169) <| fun md_222 mdd_223 =>
                    itr3 (p_X6_page_L340 v1 v4 (nI 6) mk mt mv mx (fun md_225 mdd_226 =>
                        bd3 (p_X6_headed v5 (nI 0) (v4 - v3) (nI 6) md_225 mdd_226 mbb) <| fun md_227 mdd_228 mbb_229 =>
                        some (md_227, mdd_228, mn_169, mst, mbb_229))) fu v3 md_222 mdd_223
                  else
                    itr3 (p_X6_page_L340 v1 v4 (nI 6) mk mt mv mx (fun md_231 mdd_232 =>
                        bd3 (p_X6_headed v5 (nI 0) (v4 - v3) (nI 6) md_231 mdd_232 mbb) <| fun md_233 mdd_234 mbb_235 =>
                        some (md_233, mdd_234, mn_169, mst, mbb_235))) fu v3 md mdd)) fu (nI 0) v3 mn
      else
        gd (inb v1 7) <|
        if (mk (ix v1)) = (nI 3) then
          itr3 (p_X6_page_L132 v1 v4 (nI 3) mt mv mpl (fun v6_238 mn_239 =>
              if (nI 3) = (nI 8) then
                gd (inb (nI 5) 7) <|
                if (mm (ix (nI 5))) < (nI 2) then
                  p_X6_page_J241 v1 v3 v4 v5 v6_238 (nI 3) (nI 0) mk mt mv mx md mdd mn_239 mst mbb
                else
                  gd (inb (nI 5) 7) <|
                  bd1 (p_X6_widthOf (i2l ((mm (ix (nI 5))) - (nI 1)))) <| fun a_242 =>
                  p_X6_page_J241 v1 v3 v4 v5 v6_238 (nI 3) a_242 mk mt mv mx md mdd mn_239 mst mbb
              else
                if (nI 3) = (nI 3) then
                  bd2 (p_X6_runs v6_238 (nI 1) md mdd mn_239) <| fun md_244 mdd_245 =>
                  bd3 (p_X6_sized mdd md_244 mdd_245 mbb) <| fun md_247 mdd_248 mbb_249 =>
                  itr3 (p_X6_page_L340 v1 v4 (nI 3) mk mt mv mx (fun md_251 mdd_252 =>
                      bd3 (p_X6_headed v5 (nI 0) (v4 - v3) (nI 3) md_251 mdd_252 mbb_249) <| fun md_253 mdd_254 mbb_255 =>
                      some (md_253, mdd_254, mn_239, mst, mbb_255))) fu v3 md_247 mdd_248
                else
                  if (nI 0) < (nI 3) then
                    if (nI 3) = (nI 6) then
                      bd4 (p_X6_differences v6_238 (nI 1) md mdd mn_239 mst) <| fun md_257 mdd_258 mn_259 mst_260 =>
                      itr3 (p_X6_page_L340 v1 v4 (nI 3) mk mt mv mx (fun md_262 mdd_263 =>
                          bd3 (p_X6_headed v5 (nI 0) (v4 - v3) (nI 3) md_262 mdd_263 mbb) <| fun md_264 mdd_265 mbb_266 =>
                          some (md_264, mdd_265, mn_259, mst_260, mbb_266))) fu v3 md_257 mdd_258
                    else
                      gd (inb v1 7) <|
                      if (mk (ix v1)) = (nI 0) then
                        bd4 (p_X6_differences v6_238 (nI 1) md mdd mn_239 mst) <| fun md_269 mdd_270 mn_271 mst_272 =>
                        itr3 (p_X6_page_L340 v1 v4 (nI 3) mk mt mv mx (fun md_274 mdd_275 =>
                            bd3 (p_X6_headed v5 (nI 0) (v4 - v3) (nI 3) md_274 mdd_275 mbb) <| fun md_276 mdd_277 mbb_278 =>
                            some (md_276, mdd_277, mn_271, mst_272, mbb_278))) fu v3 md_269 mdd_270
                      else
                        bd4 (p_X6_differences v6_238 (nI 0) md mdd mn_239 mst) <| fun md_280 mdd_281 mn_282 mst_283 =>
                        itr3 (p_X6_page_L340 v1 v4 (nI 3) mk mt mv mx (fun md_285 mdd_286 =>
                            bd3 (p_X6_headed v5 (nI 0) (v4 - v3) (nI 3) md_285 mdd_286 mbb) <| fun md_287 mdd_288 mbb_289 =>
                            some (md_287, mdd_288, mn_282, mst_283, mbb_289))) fu v3 md_280 mdd_281
                  else
                    gd (inb v1 7) <|
                    if (mk (ix v1)) = (nI 3) then
                      bd2 (p_X6_pack (nI 0) v6_238 v6_238 (nI 1) md mdd mn_239) <| fun md_292 mdd_293 =>
                      itr3 (p_X6_page_L340 v1 v4 (nI 3) mk mt mv mx (fun md_295 mdd_296 =>
                          bd3 (p_X6_headed v5 (nI 0) (v4 - v3) (nI 3) md_295 mdd_296 mbb) <| fun md_297 mdd_298 mbb_299 =>
                          some (md_297, mdd_298, mn_239, mst, mbb_299))) fu v3 md_292 mdd_293
                    else
                      itr3 (p_X6_page_L340 v1 v4 (nI 3) mk mt mv mx (fun md_301 mdd_302 =>
                          bd3 (p_X6_headed v5 (nI 0) (v4 - v3) (nI 3) md_301 mdd_302 mbb) <| fun md_303 mdd_304 mbb_305 =>
                          some (md_303, mdd_304, mn_239, mst, mbb_305))) fu v3 md mdd)) fu (nI 0) v3 mn
        else
          itr3 (p_X6_page_L132 v1 v4 (nI 5) mt mv mpl (fun v6_307 mn_308 =>
              if (nI 5) = (nI 8) then
                gd (inb (nI 5) 7) <|
                if (mm (ix (nI 5))) < (nI 2) then
                  p_X6_page_J241 v1 v3 v4 v5 v6_307 (nI 5) (nI 0) mk mt mv mx md mdd mn_308 mst mbb
                else
                  gd (inb (nI 5) 7) <|
                  bd1 (p_X6_widthOf (i2l ((mm (ix (nI 5))) - (nI 1)))) <| fun a_311 =>
                  p_X6_page_J241 v1 v3 v4 v5 v6_307 (nI 5) a_311 mk mt mv mx md mdd mn_308 mst mbb
              else
                if (nI 5) = (nI 3) then
                  bd2 (p_X6_runs v6_307 (nI 1) md mdd mn_308) <| fun md_313 mdd_314 =>
                  bd3 (p_X6_sized mdd md_313 mdd_314 mbb) <| fun md_316 mdd_317 mbb_318 =>
                  itr3 (p_X6_page_L340 v1 v4 (nI 5) mk mt mv mx (fun md_320 mdd_321 =>
                      bd3 (p_X6_headed v5 (nI 0) (v4 - v3) (nI 5) md_320 mdd_321 mbb_318) <| fun md_322 mdd_323 mbb_324 =>
                      some (md_322, mdd_323, mn_308, mst, mbb_324))) fu v3 md_316 mdd_317
                else
                  if (nI 0) < (nI 5) then
                    if (nI 5) = (nI 6) then
                      bd4 (p_X6_differences v6_307 (nI 1) md mdd mn_308 mst) <| fun md_326 mdd_327 mn_328 mst_329 =>
                      itr3 (p_X6_page_L340 v1 v4 (nI 5) mk mt mv mx (fun md_331 mdd_332 =>
                          bd3 (p_X6_headed v5 (nI 0) (v4 - v3) (nI 5) md_331 mdd_332 mbb) <| fun md_333 mdd_334 mbb_335 =>
                          some (md_333, mdd_334, mn_328, mst_329, mbb_335))) fu v3 md_326 mdd_327
                    else
                      gd (inb v1 7) <|
                      if (mk (ix v1)) = (nI 0) then
                        bd4 (p_X6_differences v6_307 (nI 1) md mdd mn_308 mst) <| fun md_338 mdd_339 mn_340 mst_341 =>
                        itr3 (p_X6_page_L340 v1 v4 (nI 5) mk mt mv mx (fun md_343 mdd_344 =>
                            bd3 (p_X6_headed v5 (nI 0) (v4 - v3) (nI 5) md_343 mdd_344 mbb) <| fun md_345 mdd_346 mbb_347 =>
                            some (md_345, mdd_346, mn_340, mst_341, mbb_347))) fu v3 md_338 mdd_339
                      else
                        bd4 (p_X6_differences v6_307 (nI 0) md mdd mn_308 mst) <| fun md_349 mdd_350 mn_351 mst_352 =>
                        itr3 (p_X6_page_L340 v1 v4 (nI 5) mk mt mv mx (fun md_354 mdd_355 =>
                            bd3 (p_X6_headed v5 (nI 0) (v4 - v3) (nI 5) md_354 mdd_355 mbb) <| fun md_356 mdd_357 mbb_358 =>
                            some (md_356, mdd_357, mn_351, mst_352, mbb_358))) fu v3 md_349 mdd_350
                  else
                    gd (inb v1 7) <|
                    if (mk (ix v1)) = (nI 3) then
                      bd2 (p_X6_pack (nI 0) v6_307 v6_307 (nI 1) md mdd mn_308) <| fun md_361 mdd_362 =>
                      itr3 (p_X6_page_L340 v1 v4 (nI 5) mk mt mv mx (fun md_364 mdd_365 =>
                          bd3 (p_X6_headed v5 (nI 0) (v4 - v3) (nI 5) md_364 mdd_365 mbb) <| fun md_366 mdd_367 mbb_368 =>
                          some (md_366, mdd_367, mn_308, mst, mbb_368))) fu v3 md_361 mdd_362
                    else
                      itr3 (p_X6_page_L340 v1 v4 (nI 5) mk mt mv mx (fun md_370 mdd_371 =>
                          bd3 (p_X6_headed v5 (nI 0) (v4 - v3) (nI 5) md_370 mdd_371 mbb) <| fun md_372 mdd_373 mbb_374 =>
                          some (md_372, mdd_373, mn_308, mst, mbb_374))) fu v3 md mdd)) fu (nI 0) v3 mn
def p_X6_page_L18 (v1 : Int32) (v3 : Int32) (v4 : Int32) (mt : Nat → Int32) (k61 : (Nat → Int64) → Option ((Nat → Int32) × Int32 × (Nat → Int64) × (Nat → Int64) × (Nat → Int32))) (k18 : Int32 → (Nat → Int64) → Option ((Nat → Int32) × Int32 × (Nat → Int64) × (Nat → Int64) × (Nat → Int32))) (v6 : Int32) (mn : Nat → Int64) : Option ((Nat → Int32) × Int32 × (Nat → Int64) × (Nat → Int64) × (Nat → Int32)) :=
  if v6 < v4 then
    gd (inb (((nI 200) * v1) + v6) 1400) <|
    if (mt (ix (((nI 200) * v1) + v6))) = (nI 0) then
      gd (inb (v6 - v3) 500) <|
      k18 (v6 + (nI 1)) (up mn (ix (v6 - v3)) (lN 0))
    else
      gd (inb (v6 - v3) 500) <|
      k18 (v6 + (nI 1)) (up mn (ix (v6 - v3)) (lN 1))
  else
    k61 mn
def p_X6_page (v1 : Int32) (v2 : Int32) (v3 : Int32) (v4 : Int32) (mk : Nat → Int32) (mo : Nat → Int32) (mm : Nat → Int32) (mt : Nat → Int32) (mv : Nat → Int64) (mx : Nat → Int32) (md : Nat → Int32) (mdd : Int32) (mn : Nat → Int64) (mst : Nat → Int64) (mpl : Nat → Int32) (mbb : Nat → Int32) : Option ((Nat → Int32) × Int32 × (Nat → Int64) × (Nat → Int64) × (Nat → Int32)) :=
  gd (inb v1 7) <|
  if (mo (ix v1)) = (nI 0) then
    p_X6_page_J76 v1 v2 v3 v4 mdd mk mm mt mv mx md mdd mn mst mpl mbb
  else
    itr2 (p_X6_page_L18 v1 v3 v4 mt (fun mn_379 =>
        bd2 (p_X6_runs (v4 - v3) (nI 1) md mdd mn_379) <| fun md_380 mdd_381 =>
        bd3 (p_X6_sized mdd md_380 mdd_381 mbb) <| fun md_383 mdd_384 mbb_385 =>
        p_X6_page_J76 v1 v2 v3 v4 mdd mk mm mt mv mx md_383 mdd_384 mn_379 mst mpl mbb_385)) fu v3 mn
def p_X6_write_L75 (v1 : Int32) (mk : Nat → Int32) (mm : Nat → Int32) (mv : Nat → Int64) (mx : Nat → Int32) (k108 : (Nat → Int32) → Int32 → Option (Int32 × (Nat → Int32) × (Nat → Int32) × (Nat → Int64) × (Nat → Int32) × (Nat → Int32) × Int32 × (Nat → Int32) × Int32 × (Nat → Int64) × (Nat → Int64) × (Nat → Int32) × (Nat → Int32))) (k75 : Int32 → (Nat → Int32) → Int32 → Option (Int32 × (Nat → Int32) × (Nat → Int32) × (Nat → Int64) × (Nat → Int32) × (Nat → Int32) × Int32 × (Nat → Int32) × Int32 × (Nat → Int64) × (Nat → Int64) × (Nat → Int32) × (Nat → Int32))) (v5 : Int32) (md : Nat → Int32) (mdd : Int32) : Option (Int32 × (Nat → Int32) × (Nat → Int32) × (Nat → Int64) × (Nat → Int32) × (Nat → Int32) × Int32 × (Nat → Int32) × Int32 × (Nat → Int64) × (Nat → Int64) × (Nat → Int32) × (Nat → Int32)) :=
  gd (inb (nI 5) 7) <|
  if v5 < (mm (ix (nI 5))) then
    gd (inb v1 7) <|
    bd2 (p_X6_plain ((nI 1000) + v5) (mk (ix v1)) mv mx md mdd) <| fun md_17 mdd_18 =>
    k75 (v5 + (nI 1)) md_17 mdd_18
  else
    k108 md mdd
def p_X6_write_L124 (v1 : Int32) (v2 : Int32) (v3 : Int32) (mk : Nat → Int32) (mo : Nat → Int32) (mm : Nat → Int32) (mt : Nat → Int32) (mv : Nat → Int64) (mx : Nat → Int32) (mpl : Nat → Int32) (k178 : (Nat → Int32) → Int32 → (Nat → Int64) → (Nat → Int64) → (Nat → Int32) → Option (Int32 × (Nat → Int32) × (Nat → Int32) × (Nat → Int64) × (Nat → Int32) × (Nat → Int32) × Int32 × (Nat → Int32) × Int32 × (Nat → Int64) × (Nat → Int64) × (Nat → Int32) × (Nat → Int32))) (k124 : Int32 → (Nat → Int32) → Int32 → (Nat → Int64) → (Nat → Int64) → (Nat → Int32) → Option (Int32 × (Nat → Int32) × (Nat → Int32) × (Nat → Int64) × (Nat → Int32) × (Nat → Int32) × Int32 × (Nat → Int32) × Int32 × (Nat → Int64) × (Nat → Int64) × (Nat → Int32) × (Nat → Int32))) (v5 : Int32) (md : Nat → Int32) (mdd : Int32) (mn : Nat → Int64) (mst : Nat → Int64) (mbb : Nat → Int32) : Option (Int32 × (Nat → Int32) × (Nat → Int32) × (Nat → Int64) × (Nat → Int32) × (Nat → Int32) × Int32 × (Nat → Int32) × Int32 × (Nat → Int64) × (Nat → Int64) × (Nat → Int32) × (Nat → Int32)) :=
  gd (inb v1 7) <|
  if v5 < (mm (ix v1)) then
    gd (inb v1 7) <|
    if (v5 + v3) < (mm (ix v1)) then
      bd5 (p_X6_page v1 v2 v5 (v5 + v3) mk mo mm mt mv mx md mdd mn mst mpl mbb) <| fun md_29 mdd_30 mn_31 mst_32 mbb_33 =>
      k124 (v5 + v3) md_29 mdd_30 mn_31 mst_32 mbb_33
    else
      gd (inb v1 7) <|
      bd5 (p_X6_page v1 v2 v5 (mm (ix v1)) mk mo mm mt mv mx md mdd mn mst mpl mbb) <| fun md_36 mdd_37 mn_38 mst_39 mbb_40 =>
      k124 (v5 + v3) md_36 mdd_37 mn_38 mst_39 mbb_40
  else
    k178 md mdd mn mst mbb
def p_X6_write_L212 (v5 : Int32) (md : Nat → Int32) (mdd : Int32) (k244 : (Nat → Int32) → Option (Int32 × (Nat → Int32) × (Nat → Int32) × (Nat → Int64) × (Nat → Int32) × (Nat → Int32) × Int32 × (Nat → Int32) × Int32 × (Nat → Int64) × (Nat → Int64) × (Nat → Int32) × (Nat → Int32))) (k212 : Int32 → (Nat → Int32) → Option (Int32 × (Nat → Int32) × (Nat → Int32) × (Nat → Int64) × (Nat → Int32) × (Nat → Int32) × Int32 × (Nat → Int32) × Int32 × (Nat → Int64) × (Nat → Int64) × (Nat → Int32) × (Nat → Int32))) (v6 : Int32) (mf : Nat → Int32) : Option (Int32 × (Nat → Int32) × (Nat → Int32) × (Nat → Int64) × (Nat → Int32) × (Nat → Int32) × Int32 × (Nat → Int32) × Int32 × (Nat → Int64) × (Nat → Int64) × (Nat → Int32) × (Nat → Int32)) :=
  if v6 < mdd then
    gd (inb v6 60000) <|
    gd (inb (v5 + v6) 12000) <|
    k212 (v6 + (nI 1)) (up mf (ix (v5 + v6)) (b8 (md (ix v6))))
  else
    k244 mf
def p_X6_write_J191 (s0 : Int32) (mm : Nat → Int32) (mt : Nat → Int32) (mv : Nat → Int64) (mx : Nat → Int32) (mf : Nat → Int32) (ms : Int32) (md : Nat → Int32) (mdd : Int32) (mn : Nat → Int64) (mst : Nat → Int64) (mpl : Nat → Int32) (mbb : Nat → Int32) : Option (Int32 × (Nat → Int32) × (Nat → Int32) × (Nat → Int64) × (Nat → Int32) × (Nat → Int32) × Int32 × (Nat → Int32) × Int32 × (Nat → Int64) × (Nat → Int64) × (Nat → Int32) × (Nat → Int32)) :=
  if (nI 12000) < (s0 + mdd) then
    some ((-3 : Int32), mm, mt, mv, mx, mf, ms, md, mdd, mn, mst, mpl, mbb)
  else
    itr2 (p_X6_write_L212 s0 md mdd (fun mf_49 =>
        some ((s0 + mdd), mm, mt, mv, mx, mf_49, (s0 + mdd), md, mdd, mn, mst, mpl, mbb))) fu (nI 0) mf
def p_X6_write_J34 (v1 : Int32) (v2 : Int32) (v3 : Int32) (v4 : Int32) (mk : Nat → Int32) (mo : Nat → Int32) (mm : Nat → Int32) (mt : Nat → Int32) (mv : Nat → Int64) (mx : Nat → Int32) (mf : Nat → Int32) (ms : Int32) (md : Nat → Int32) (mdd : Int32) (mn : Nat → Int64) (mst : Nat → Int64) (mpl : Nat → Int32) (mbb : Nat → Int32) : Option (Int32 × (Nat → Int32) × (Nat → Int32) × (Nat → Int64) × (Nat → Int32) × (Nat → Int32) × Int32 × (Nat → Int32) × Int32 × (Nat → Int64) × (Nat → Int64) × (Nat → Int32) × (Nat → Int32)) :=
  bd1 (p_X6_in (i2l v3) (lN 1) (lN 200)) <| fun a_6 =>
  if a_6 = (nI 0) then
    some ((-1 : Int32), mm, mt, mv, mx, mf, ms, md, mdd, mn, mst, mpl, mbb)
  else
    if v2 = (nI 1) then
      gd (inb v1 7) <|
      if (nI 0) < (mm (ix v1)) then
        bd5 (p_X6_makeDictionary v1 mm mt mv mx mpl) <| fun mm_9 mt_10 mv_11 mx_12 mpl_13 =>
        itr3 (p_X6_write_L75 v1 mk mm_9 mv_11 mx_12 (fun md_20 mdd_21 =>
            gd (inb (nI 5) 7) <|
            bd3 (p_X6_headed (nI 0) (nI 2) (mm_9 (ix (nI 5))) (nI 0) md_20 mdd_21 mbb) <| fun md_23 mdd_24 mbb_25 =>
            itr6 (p_X6_write_L124 v1 v2 v3 mk mo mm_9 mt_10 mv_11 mx_12 mpl_13 (fun md_42 mdd_43 mn_44 mst_45 mbb_46 =>
                if v4 = (nI 0) then
                  p_X6_write_J191 (nI 0) mm_9 mt_10 mv_11 mx_12 mf ms md_42 mdd_43 mn_44 mst_45 mpl_13 mbb_46
                else
                  p_X6_write_J191 ms mm_9 mt_10 mv_11 mx_12 mf ms md_42 mdd_43 mn_44 mst_45 mpl_13 mbb_46)) fu (nI 0) md_23 mdd_24 mn mst mbb_25)) fu (nI 0) md (nI 0)
      else
        itr6 (p_X6_write_L124 v1 v2 v3 mk mo mm mt mv mx mpl (fun md_50 mdd_51 mn_52 mst_53 mbb_54 =>
            if v4 = (nI 0) then
              p_X6_write_J191 (nI 0) mm mt mv mx mf ms md_50 mdd_51 mn_52 mst_53 mpl mbb_54
            else
              p_X6_write_J191 ms mm mt mv mx mf ms md_50 mdd_51 mn_52 mst_53 mpl mbb_54)) fu (nI 0) md (nI 0) mn mst mbb
    else
      itr6 (p_X6_write_L124 v1 v2 v3 mk mo mm mt mv mx mpl (fun md_55 mdd_56 mn_57 mst_58 mbb_59 =>
          if v4 = (nI 0) then
            p_X6_write_J191 (nI 0) mm mt mv mx mf ms md_55 mdd_56 mn_57 mst_58 mpl mbb_59
          else
            p_X6_write_J191 ms mm mt mv mx mf ms md_55 mdd_56 mn_57 mst_58 mpl mbb_59)) fu (nI 0) md (nI 0) mn mst mbb
def p_X6_write (v1 : Int32) (v2 : Int32) (v3 : Int32) (v4 : Int32) (mk : Nat → Int32) (mo : Nat → Int32) (mm : Nat → Int32) (mt : Nat → Int32) (mv : Nat → Int64) (mx : Nat → Int32) (mf : Nat → Int32) (ms : Int32) (md : Nat → Int32) (mdd : Int32) (mn : Nat → Int64) (mst : Nat → Int64) (mpl : Nat → Int32) (mbb : Nat → Int32) : Option (Int32 × (Nat → Int32) × (Nat → Int32) × (Nat → Int64) × (Nat → Int32) × (Nat → Int32) × Int32 × (Nat → Int32) × Int32 × (Nat → Int64) × (Nat → Int64) × (Nat → Int32) × (Nat → Int32)) :=
  bd1 (p_X6_isColumn v1) <| fun a_1 =>
  if a_1 = (nI 0) then
    some ((-1 : Int32), mm, mt, mv, mx, mf, ms, md, mdd, mn, mst, mpl, mbb)
  else
    bd1 (p_X6_in (i2l v2) (lN 0) (lN 2)) <| fun a_3 =>
    if a_3 = (nI 0) then
      some ((-1 : Int32), mm, mt, mv, mx, mf, ms, md, mdd, mn, mst, mpl, mbb)
    else
      if v2 = (nI 1) then
        gd (inb v1 7) <|
        if (mk (ix v1)) = (nI 3) then
          some ((-1 : Int32), mm, mt, mv, mx, mf, ms, md, mdd, mn, mst, mpl, mbb)
        else
          p_X6_write_J34 v1 v2 v3 v4 mk mo mm mt mv mx mf ms md mdd mn mst mpl mbb
      else
        p_X6_write_J34 v1 v2 v3 v4 mk mo mm mt mv mx mf ms md mdd mn mst mpl mbb
def p_X6_fails (v1 : Int32) (v2 : Int32) (mb : Int32) (mba : Int32) : Option (Int32 × Int32 × Int32) :=
  some ((nI 0), v1, v2)
def p_X6_next (mf : Nat → Int32) (ma : Int32) (me : Int32) (mb : Int32) (mba : Int32) : Option (Int32 × Int32 × Int32 × Int32) :=
  if ma < me then
    gd (inb ((ma + (nI 1)) - (nI 1)) 12000) <|
    some (((mf (ix ((ma + (nI 1)) - (nI 1)))) &&& (nI 255)), (ma + (nI 1)), mb, mba)
  else
    bd3 (p_X6_fails (nI 1) me mb mba) <| fun a_2 mb_3 mba_4 =>
    some ((nI 0), ma, mb_3, mba_4)
def p_X6_readVar_J54 (v1 : Int64) (v3 : Int32) (v5 : Int32) (ma : Int32) (mb : Int32) (mba : Int32) (k4 : Int64 → Int32 → Int32 → Int32 → Int32 → Option (Int64 × Int32 × Int32 × Int32)) : Option (Int64 × Int32 × Int32 × Int32) :=
  if v5 < (nI 128) then
    some ((v1 ||| (lshl (i2l (v5 &&& (nI 127))) ((nI 7) * v3))), ma, mb, mba)
  else
    k4 (v1 ||| (lshl (i2l (v5 &&& (nI 127))) ((nI 7) * v3))) (v3 + (nI 1)) ma mb mba
def p_X6_readVar_L4 (mf : Nat → Int32) (me : Int32) (k4 : Int64 → Int32 → Int32 → Int32 → Int32 → Option (Int64 × Int32 × Int32 × Int32)) (v1 : Int64) (v3 : Int32) (ma : Int32) (mb : Int32) (mba : Int32) : Option (Int64 × Int32 × Int32 × Int32) :=
  if v3 < (nI 10) then
    bd4 (p_X6_next mf ma me mb mba) <| fun a_1 ma_2 mb_3 mba_4 =>
    if mb_3 = (nI 0) then
      if v3 = (nI 9) then
        if (nI 1) < a_1 then
          bd3 (p_X6_fails (nI 2) ma mb_3 mba_4) <| fun a_6 mb_7 mba_8 =>
          some ((lN 0), ma_2, mb_7, mba_8)
        else
          p_X6_readVar_J54 v1 v3 a_1 ma_2 mb_3 mba_4 k4
      else
        p_X6_readVar_J54 v1 v3 a_1 ma_2 mb_3 mba_4 k4
    else
      some ((lN 0), ma_2, mb_3, mba_4)
  else
    some (v1, ma, mb, mba)
def p_X6_readVar (mf : Nat → Int32) (ma : Int32) (me : Int32) (mb : Int32) (mba : Int32) : Option (Int64 × Int32 × Int32 × Int32) :=
  itr5 (p_X6_readVar_L4 mf me ) fu (lN 0) (nI 0) ma mb mba
def p_X6_readZig (mf : Nat → Int32) (ma : Int32) (me : Int32) (mb : Int32) (mba : Int32) : Option (Int64 × Int32 × Int32 × Int32) :=
  bd4 (p_X6_readVar mf ma me mb mba) <| fun a_1 ma_2 mb_3 mba_4 =>
  some (((lushr a_1 (nI 1)) ^^^ ((lN 0) - (a_1 &&& (lN 1)))), ma_2, mb_3, mba_4)
def p_X6_readBytes_L5 (v1 : Int32) (mf : Nat → Int32) (me : Int32) (k5 : Int64 → Int32 → Int32 → Int32 → Int32 → Option (Int64 × Int32 × Int32 × Int32)) (v2 : Int64) (v4 : Int32) (ma : Int32) (mb : Int32) (mba : Int32) : Option (Int64 × Int32 × Int32 × Int32) :=
  if v4 < v1 then
    if mb = (nI 0) then
      bd4 (p_X6_next mf ma me mb mba) <| fun a_1 ma_2 mb_3 mba_4 =>
      k5 (v2 ||| (lshl (i2l a_1) ((nI 8) * v4))) (v4 + (nI 1)) ma_2 mb_3 mba_4
    else
      some (v2, ma, mb, mba)
  else
    some (v2, ma, mb, mba)
def p_X6_readBytes (v1 : Int32) (mf : Nat → Int32) (ma : Int32) (me : Int32) (mb : Int32) (mba : Int32) : Option (Int64 × Int32 × Int32 × Int32) :=
  itr5 (p_X6_readBytes_L5 v1 mf me ) fu (lN 0) (nI 0) ma mb mba
def p_X6_readPacked_J39 (v2 : Int64) (v4 : Int32) (ma : Int32) (mb : Int32) (mba : Int32) (mbl : Int32) (mby : Int32) (k5 : Int64 → Int32 → Int32 → Int32 → Int32 → Int32 → Int32 → Option (Int64 × Int32 × Int32 × Int32 × Int32 × Int32)) : Option (Int64 × Int32 × Int32 × Int32 × Int32 × Int32) :=
  k5 (v2 ||| (lshl (i2l ((ishr mby ((nI 8) - mbl)) &&& (nI 1))) v4)) (v4 + (nI 1)) ma mb mba (mbl - (nI 1)) mby
def p_X6_readPacked_L5 (v1 : Int32) (mf : Nat → Int32) (me : Int32) (k5 : Int64 → Int32 → Int32 → Int32 → Int32 → Int32 → Int32 → Option (Int64 × Int32 × Int32 × Int32 × Int32 × Int32)) (v2 : Int64) (v4 : Int32) (ma : Int32) (mb : Int32) (mba : Int32) (mbl : Int32) (mby : Int32) : Option (Int64 × Int32 × Int32 × Int32 × Int32 × Int32) :=
  if v4 < v1 then
    if mb = (nI 0) then
      if mbl = (nI 0) then
        bd4 (p_X6_next mf ma me mb mba) <| fun a_1 ma_2 mb_3 mba_4 =>
        p_X6_readPacked_J39 v2 v4 ma_2 mb_3 mba_4 (nI 8) a_1 k5
      else
        p_X6_readPacked_J39 v2 v4 ma mb mba mbl mby k5
    else
      some (v2, ma, mb, mba, mbl, mby)
  else
    some (v2, ma, mb, mba, mbl, mby)
def p_X6_readPacked (v1 : Int32) (mf : Nat → Int32) (ma : Int32) (me : Int32) (mb : Int32) (mba : Int32) (mbl : Int32) (mby : Int32) : Option (Int64 × Int32 × Int32 × Int32 × Int32 × Int32) :=
  itr7 (p_X6_readPacked_L5 v1 mf me ) fu (lN 0) (nI 0) ma mb mba mbl mby
def p_X6_readRuns_L208 (v7 : Int64) (v11 : Int64) (k233 : Int32 → (Nat → Int64) → Option (Int32 × (Nat → Int64) × Int32 × Int32 × Int32 × Int32 × Int32)) (k208 : Int32 → Int32 → (Nat → Int64) → Option (Int32 × (Nat → Int64) × Int32 × Int32 × Int32 × Int32 × Int32)) (v3 : Int32) (v13 : Int32) (mn : Nat → Int64) : Option (Int32 × (Nat → Int64) × Int32 × Int32 × Int32 × Int32 × Int32) :=
  if v13 < (l2i v7) then
    gd (inb v3 500) <|
    k208 (v3 + (nI 1)) (v13 + (nI 1)) (up mn (ix v3) v11)
  else
    k233 v3 mn
def p_X6_readRuns_L108 (v1 : Int32) (v2 : Int32) (v7 : Int64) (mf : Nat → Int32) (me : Int32) (k157 : Int32 → (Nat → Int64) → Int32 → Int32 → Int32 → Int32 → Int32 → Option (Int32 × (Nat → Int64) × Int32 × Int32 × Int32 × Int32 × Int32)) (k108 : Int32 → Int32 → (Nat → Int64) → Int32 → Int32 → Int32 → Int32 → Int32 → Option (Int32 × (Nat → Int64) × Int32 × Int32 × Int32 × Int32 × Int32)) (v3 : Int32) (v11 : Int32) (mn : Nat → Int64) (ma : Int32) (mb : Int32) (mba : Int32) (mbl : Int32) (mby : Int32) : Option (Int32 × (Nat → Int64) × Int32 × Int32 × Int32 × Int32 × Int32) :=
  if v11 < ((nI 8) * (l2i v7)) then
    bd6 (p_X6_readPacked v2 mf ma me mb mba mbl mby) <| fun a_29 ma_30 mb_31 mba_32 mbl_33 mby_34 =>
    if mb_31 = (nI 0) then
      if v3 < v1 then
        gd (inb v3 500) <|
        k108 (v3 + (nI 1)) (v11 + (nI 1)) (up mn (ix v3) a_29) ma_30 mb_31 mba_32 mbl_33 mby_34
      else
        k108 v3 (v11 + (nI 1)) mn ma_30 mb_31 mba_32 mbl_33 mby_34
    else
      some ((nI 0), mn, ma_30, mb_31, mba_32, mbl_33, mby_34)
  else
    k157 v3 mn ma mb mba mbl mby
def p_X6_readRuns_J82 (v1 : Int32) (v2 : Int32) (v3 : Int32) (v4 : Int32) (v7 : Int64) (v9 : Int32) (s0 : Int64) (s1 : Int32) (mf : Nat → Int32) (mn : Nat → Int64) (ma : Int32) (me : Int32) (mb : Int32) (mba : Int32) (mbl : Int32) (mby : Int32) (k2 : Int32 → (Nat → Int64) → Int32 → Int32 → Int32 → Int32 → Int32 → Option (Int32 × (Nat → Int64) × Int32 × Int32 × Int32 × Int32 × Int32)) : Option (Int32 × (Nat → Int64) × Int32 × Int32 × Int32 × Int32 × Int32) :=
  if (i2l s1) < s0 then
    bd3 (p_X6_fails (nI 3) v4 mb mba) <| fun a_11 mb_12 mba_13 =>
    gd (isB a_11) <|
    some (a_11, mn, ma, mb_12, mba_13, mbl, mby)
  else
    if v9 = (nI 0) then
      bd4 (p_X6_readBytes ((v2 + (nI 7)) / (nI 8)) mf ma me mb mba) <| fun a_16 ma_17 mb_18 mba_19 =>
      if mb_18 = (nI 0) then
        if (lushr a_16 v2) = (lN 0) then
          itr3 (p_X6_readRuns_L208 v7 a_16 (fun v3_22 mn_23 =>
              k2 v3_22 mn_23 ma_17 mb_18 mba_19 mbl mby)) fu v3 (nI 0) mn
        else
          bd3 (p_X6_fails (nI 4) ma mb_18 mba_19) <| fun a_24 mb_25 mba_26 =>
          gd (isB a_24) <|
          some (a_24, mn, ma_17, mb_25, mba_26, mbl, mby)
      else
        some ((nI 0), mn, ma_17, mb_18, mba_19, mbl, mby)
    else
      itr8 (p_X6_readRuns_L108 v1 v2 v7 mf me (fun v3_37 mn_38 ma_39 mb_40 mba_41 mbl_42 mby_43 =>
          k2 v3_37 mn_38 ma_39 mb_40 mba_41 mbl_42 mby_43)) fu v3 (nI 0) mn ma mb mba (nI 0) mby
def p_X6_readRuns_J48 (v1 : Int32) (v2 : Int32) (v3 : Int32) (v4 : Int32) (v7 : Int64) (s0 : Int32) (mf : Nat → Int32) (mn : Nat → Int64) (ma : Int32) (me : Int32) (mb : Int32) (mba : Int32) (mbl : Int32) (mby : Int32) (k2 : Int32 → (Nat → Int64) → Int32 → Int32 → Int32 → Int32 → Int32 → Option (Int32 × (Nat → Int64) × Int32 × Int32 × Int32 × Int32 × Int32)) : Option (Int32 × (Nat → Int64) × Int32 × Int32 × Int32 × Int32 × Int32) :=
  if v7 = (lN 0) then
    bd3 (p_X6_fails (nI 3) v4 mb mba) <| fun a_6 mb_7 mba_8 =>
    gd (isB a_6) <|
    some (a_6, mn, ma, mb_7, mba_8, mbl, mby)
  else
    if s0 = (nI 0) then
      p_X6_readRuns_J82 v1 v2 v3 v4 v7 s0 v7 (v1 - v3) mf mn ma me mb mba mbl mby k2
    else
      p_X6_readRuns_J82 v1 v2 v3 v4 v7 s0 v7 (((v1 - v3) + (nI 7)) / (nI 8)) mf mn ma me mb mba mbl mby k2
def p_X6_readRuns_L2 (v1 : Int32) (v2 : Int32) (mf : Nat → Int32) (me : Int32) (k2 : Int32 → (Nat → Int64) → Int32 → Int32 → Int32 → Int32 → Int32 → Option (Int32 × (Nat → Int64) × Int32 × Int32 × Int32 × Int32 × Int32)) (v3 : Int32) (mn : Nat → Int64) (ma : Int32) (mb : Int32) (mba : Int32) (mbl : Int32) (mby : Int32) : Option (Int32 × (Nat → Int64) × Int32 × Int32 × Int32 × Int32 × Int32) :=
  if v3 < v1 then
    bd4 (p_X6_readVar mf ma me mb mba) <| fun a_1 ma_2 mb_3 mba_4 =>
    if mb_3 = (nI 0) then
      if (a_1 &&& (lN 1)) = (lN 1) then
        p_X6_readRuns_J48 v1 v2 v3 ma (lushr a_1 (nI 1)) (nI 1) mf mn ma_2 me mb_3 mba_4 mbl mby k2
      else
        p_X6_readRuns_J48 v1 v2 v3 ma (lushr a_1 (nI 1)) (nI 0) mf mn ma_2 me mb_3 mba_4 mbl mby k2
    else
      some ((nI 0), mn, ma_2, mb_3, mba_4, mbl, mby)
  else
    some ((nI 1), mn, ma, mb, mba, mbl, mby)
def p_X6_readRuns (v1 : Int32) (v2 : Int32) (mf : Nat → Int32) (mn : Nat → Int64) (ma : Int32) (me : Int32) (mb : Int32) (mba : Int32) (mbl : Int32) (mby : Int32) : Option (Int32 × (Nat → Int64) × Int32 × Int32 × Int32 × Int32 × Int32) :=
  itr7 (p_X6_readRuns_L2 v1 v2 mf me ) fu (nI 0) mn ma mb mba mbl mby
def p_X6_wants (v1 : Int64) (v3 : Int32) (mf : Nat → Int32) (ma : Int32) (me : Int32) (mb : Int32) (mba : Int32) : Option (Int32 × Int32 × Int32 × Int32) :=
  bd4 (p_X6_readVar mf ma me mb mba) <| fun a_1 ma_2 mb_3 mba_4 =>
  if mb_3 = (nI 0) then
    if a_1 = v1 then
      some ((nI 1), ma_2, mb_3, mba_4)
    else
      bd3 (p_X6_fails (nI 5) v3 mb_3 mba_4) <| fun a_6 mb_7 mba_8 =>
      if a_6 = (nI 0) then
        some ((nI 0), ma_2, mb_7, mba_8)
      else
        some ((nI 1), ma_2, mb_7, mba_8)
  else
    some ((nI 0), ma_2, mb_3, mba_4)
def p_X6_readDifferences_J201 (v10 : Int32) (v11 : Int32) (s0 : Int32) (s1 : Int32) (mn : Nat → Int64) (ma : Int32) (mb : Int32) (mba : Int32) (mbl : Int32) (mby : Int32) (mw : Nat → Int32) (k117 : Int32 → Int32 → Int32 → Int32 → (Nat → Int32) → Option (Int32 × (Nat → Int64) × Int32 × Int32 × Int32 × Int32 × Int32 × (Nat → Int32))) : Option (Int32 × (Nat → Int64) × Int32 × Int32 × Int32 × Int32 × Int32 × (Nat → Int32)) :=
  if s1 < s0 then
    bd3 (p_X6_fails (nI 6) v11 mb mba) <| fun a_34 mb_35 mba_36 =>
    gd (isB a_34) <|
    some (a_34, mn, ma, mb_35, mba_36, mbl, mby, mw)
  else
    k117 (v10 + (nI 1)) ma mb mba mw
def p_X6_readDifferences_J165 (v2 : Int32) (v10 : Int32) (v11 : Int32) (s0 : Int32) (mn : Nat → Int64) (ma : Int32) (mb : Int32) (mba : Int32) (mbl : Int32) (mby : Int32) (mw : Nat → Int32) (k117 : Int32 → Int32 → Int32 → Int32 → (Nat → Int32) → Option (Int32 × (Nat → Int64) × Int32 × Int32 × Int32 × Int32 × Int32 × (Nat → Int32))) : Option (Int32 × (Nat → Int64) × Int32 × Int32 × Int32 × Int32 × Int32 × (Nat → Int32)) :=
  if mb = (nI 0) then
    gd (inb v10 4) <|
    if s0 = (nI 0) then
      p_X6_readDifferences_J201 v10 v11 (mw (ix v10)) (nI 0) mn ma mb mba mbl mby mw k117
    else
      if v2 = (nI 0) then
        p_X6_readDifferences_J201 v10 v11 (mw (ix v10)) (nI 64) mn ma mb mba mbl mby mw k117
      else
        p_X6_readDifferences_J201 v10 v11 (mw (ix v10)) (nI 32) mn ma mb mba mbl mby mw k117
  else
    k117 (v10 + (nI 1)) ma mb mba mw
def p_X6_readDifferences_L117 (v2 : Int32) (v6 : Int32) (v7 : Int32) (mf : Nat → Int32) (mn : Nat → Int64) (me : Int32) (mbl : Int32) (mby : Int32) (k219 : Int32 → Int32 → Int32 → (Nat → Int32) → Option (Int32 × (Nat → Int64) × Int32 × Int32 × Int32 × Int32 × Int32 × (Nat → Int32))) (k117 : Int32 → Int32 → Int32 → Int32 → (Nat → Int32) → Option (Int32 × (Nat → Int64) × Int32 × Int32 × Int32 × Int32 × Int32 × (Nat → Int32))) (v10 : Int32) (ma : Int32) (mb : Int32) (mba : Int32) (mw : Nat → Int32) : Option (Int32 × (Nat → Int64) × Int32 × Int32 × Int32 × Int32 × Int32 × (Nat → Int32)) :=
  if v10 < (nI 4) then
    if mb = (nI 0) then
      bd4 (p_X6_next mf ma me mb mba) <| fun a_27 ma_28 mb_29 mba_30 =>
      gd (inb v10 4) <|
      if (v6 + ((nI 32) * v10)) < v7 then
        p_X6_readDifferences_J165 v2 v10 ma (nI 1) mn ma_28 mb_29 mba_30 mbl mby (up mw (ix v10) a_27) k117
      else
        p_X6_readDifferences_J165 v2 v10 ma (nI 0) mn ma_28 mb_29 mba_30 mbl mby (up mw (ix v10) a_27) k117
    else
      k219 ma mb mba mw
  else
    k219 ma mb mba mw
def p_X6_readDifferences_L250 (v2 : Int32) (v6 : Int32) (v7 : Int32) (v8 : Int64) (v10 : Int32) (mf : Nat → Int32) (me : Int32) (mw : Nat → Int32) (k346 : Int64 → (Nat → Int64) → Int32 → Int32 → Int32 → Int32 → Int32 → Option (Int32 × (Nat → Int64) × Int32 × Int32 × Int32 × Int32 × Int32 × (Nat → Int32))) (k250 : Int64 → Int32 → (Nat → Int64) → Int32 → Int32 → Int32 → Int32 → Int32 → Option (Int32 × (Nat → Int64) × Int32 × Int32 × Int32 × Int32 × Int32 × (Nat → Int32))) (v4 : Int64) (v11 : Int32) (mn : Nat → Int64) (ma : Int32) (mb : Int32) (mba : Int32) (mbl : Int32) (mby : Int32) : Option (Int32 × (Nat → Int64) × Int32 × Int32 × Int32 × Int32 × Int32 × (Nat → Int32)) :=
  if v11 < ((v6 + ((nI 32) * v10)) + (nI 32)) then
    if (v6 + ((nI 32) * v10)) < v7 then
      if mb = (nI 0) then
        gd (inb v10 4) <|
        bd6 (p_X6_readPacked (mw (ix v10)) mf ma me mb mba mbl mby) <| fun a_44 ma_45 mb_46 mba_47 mbl_48 mby_49 =>
        if v11 < v7 then
          if v2 = (nI 0) then
            gd (inb v11 500) <|
            k250 ((v4 + v8) + a_44) (v11 + (nI 1)) (up mn (ix v11) ((v4 + v8) + a_44)) ma_45 mb_46 mba_47 mbl_48 mby_49
          else
            gd (inb v11 500) <|
            k250 (i2l (l2i ((v4 + v8) + a_44))) (v11 + (nI 1)) (up mn (ix v11) (i2l (l2i ((v4 + v8) + a_44)))) ma_45 mb_46 mba_47 mbl_48 mby_49
        else
          k250 v4 (v11 + (nI 1)) mn ma_45 mb_46 mba_47 mbl_48 mby_49
      else
        k346 v4 mn ma mb mba mbl mby
    else
      k346 v4 mn ma mb mba mbl mby
  else
    k346 v4 mn ma mb mba mbl mby
def p_X6_readDifferences_L222 (v2 : Int32) (v6 : Int32) (v7 : Int32) (v8 : Int64) (mf : Nat → Int32) (me : Int32) (mw : Nat → Int32) (k352 : Int64 → (Nat → Int64) → Int32 → Int32 → Int32 → Int32 → Int32 → Option (Int32 × (Nat → Int64) × Int32 × Int32 × Int32 × Int32 × Int32 × (Nat → Int32))) (k222 : Int64 → Int32 → (Nat → Int64) → Int32 → Int32 → Int32 → Int32 → Int32 → Option (Int32 × (Nat → Int64) × Int32 × Int32 × Int32 × Int32 × Int32 × (Nat → Int32))) (v4 : Int64) (v10 : Int32) (mn : Nat → Int64) (ma : Int32) (mb : Int32) (mba : Int32) (mbl : Int32) (mby : Int32) : Option (Int32 × (Nat → Int64) × Int32 × Int32 × Int32 × Int32 × Int32 × (Nat → Int32)) :=
  if v10 < (nI 4) then
    if mb = (nI 0) then
      itr8 (p_X6_readDifferences_L250 v2 v6 v7 v8 v10 mf me mw (fun v4_53 mn_54 ma_55 mb_56 mba_57 mbl_58 mby_59 =>
          k222 v4_53 (v10 + (nI 1)) mn_54 ma_55 mb_56 mba_57 mbl_58 mby_59)) fu v4 (v6 + ((nI 32) * v10)) mn ma mb mba (nI 0) mby
    else
      k352 v4 mn ma mb mba mbl mby
  else
    k352 v4 mn ma mb mba mbl mby
def p_X6_readDifferences_J352 (v4 : Int64) (v6 : Int32) (mn : Nat → Int64) (ma : Int32) (mb : Int32) (mba : Int32) (mbl : Int32) (mby : Int32) (mw : Nat → Int32) (k80 : Int64 → Int32 → (Nat → Int64) → Int32 → Int32 → Int32 → Int32 → Int32 → (Nat → Int32) → Option (Int32 × (Nat → Int64) × Int32 × Int32 × Int32 × Int32 × Int32 × (Nat → Int32))) : Option (Int32 × (Nat → Int64) × Int32 × Int32 × Int32 × Int32 × Int32 × (Nat → Int32)) :=
  if mb = (nI 0) then
    k80 v4 (v6 + (nI 128)) mn ma mb mba mbl mby mw
  else
    some ((nI 0), mn, ma, mb, mba, mbl, mby, mw)
def p_X6_readDifferences_L80 (v1 : Int32) (v2 : Int32) (mf : Nat → Int32) (me : Int32) (k80 : Int64 → Int32 → (Nat → Int64) → Int32 → Int32 → Int32 → Int32 → Int32 → (Nat → Int32) → Option (Int32 × (Nat → Int64) × Int32 × Int32 × Int32 × Int32 × Int32 × (Nat → Int32))) (v4 : Int64) (v6 : Int32) (mn : Nat → Int64) (ma : Int32) (mb : Int32) (mba : Int32) (mbl : Int32) (mby : Int32) (mw : Nat → Int32) : Option (Int32 × (Nat → Int64) × Int32 × Int32 × Int32 × Int32 × Int32 × (Nat → Int32)) :=
  if v6 < v1 then
    if (v6 + (nI 128)) < v1 then
      bd4 (p_X6_readZig mf ma me mb mba) <| fun a_22 ma_23 mb_24 mba_25 =>
      itr5 (p_X6_readDifferences_L117 v2 v6 (v6 + (nI 128)) mf mn me mbl mby (fun ma_39 mb_40 mba_41 mw_42 =>
          itr8 (p_X6_readDifferences_L222 v2 v6 (v6 + (nI 128)) a_22 mf me mw_42 (fun v4_60 mn_61 ma_62 mb_63 mba_64 mbl_65 mby_66 =>
              p_X6_readDifferences_J352 v4_60 v6 mn_61 ma_62 mb_63 mba_64 mbl_65 mby_66 mw_42 k80)) fu v4 (nI 0) mn ma_39 mb_40 mba_41 mbl mby)) fu (nI 0) ma_23 mb_24 mba_25 mw
    else
      bd4 (p_X6_readZig mf ma me mb mba) <| fun a_67 ma_68 mb_69 mba_70 =>
      itr5 (p_X6_readDifferences_L117 v2 v6 v1 mf mn me mbl mby (fun ma_72 mb_73 mba_74 mw_75 =>
          itr8 (p_X6_readDifferences_L222 v2 v6 v1 a_67 mf me mw_75 (fun v4_76 mn_77 ma_78 mb_79 mba_80 mbl_81 mby_82 =>
              p_X6_readDifferences_J352 v4_76 v6 mn_77 ma_78 mb_79 mba_80 mbl_81 mby_82 mw_75 k80)) fu v4 (nI 0) mn ma_72 mb_73 mba_74 mbl mby)) fu (nI 0) ma_68 mb_69 mba_70 mw
  else
    some ((nI 1), mn, ma, mb, mba, mbl, mby, mw)
def p_X6_readDifferences (v1 : Int32) (v2 : Int32) (mf : Nat → Int32) (mn : Nat → Int64) (ma : Int32) (me : Int32) (mb : Int32) (mba : Int32) (mbl : Int32) (mby : Int32) (mw : Nat → Int32) : Option (Int32 × (Nat → Int64) × Int32 × Int32 × Int32 × Int32 × Int32 × (Nat → Int32)) :=
  bd4 (p_X6_wants (lN 128) ma mf ma me mb mba) <| fun a_1 ma_2 mb_3 mba_4 =>
  if a_1 = (nI 0) then
    some ((nI 0), mn, ma_2, mb_3, mba_4, mbl, mby, mw)
  else
    bd4 (p_X6_wants (lN 4) ma mf ma_2 me mb_3 mba_4) <| fun a_6 ma_7 mb_8 mba_9 =>
    if a_6 = (nI 0) then
      some ((nI 0), mn, ma_7, mb_8, mba_9, mbl, mby, mw)
    else
      bd4 (p_X6_wants (i2l v1) ma mf ma_7 me mb_8 mba_9) <| fun a_11 ma_12 mb_13 mba_14 =>
      if a_11 = (nI 0) then
        some ((nI 0), mn, ma_12, mb_13, mba_14, mbl, mby, mw)
      else
        bd4 (p_X6_readZig mf ma_12 me mb_13 mba_14) <| fun a_16 ma_17 mb_18 mba_19 =>
        if mb_18 = (nI 0) then
          if v2 = (nI 0) then
            gd (inb (nI 0) 500) <|
            itr9 (p_X6_readDifferences_L80 v1 v2 mf me ) fu a_16 (nI 1) (up mn (ix (nI 0)) a_16) ma_17 mb_18 mba_19 mbl mby mw
          else
            gd (inb (nI 0) 500) <|
            itr9 (p_X6_readDifferences_L80 v1 v2 mf me ) fu (i2l (l2i a_16)) (nI 1) (up mn (ix (nI 0)) (i2l (l2i a_16))) ma_17 mb_18 mba_19 mbl mby mw
        else
          some ((nI 0), mn, ma_17, mb_18, mba_19, mbl, mby, mw)
def p_X6_reads (v1 : Int32) (v2 : Int64) (mm : Nat → Int32) (mt : Nat → Int32) (mv : Nat → Int64) (mx : Nat → Int32) : Option ((Nat → Int32) × (Nat → Int32) × (Nat → Int64) × (Nat → Int32)) :=
  bd5 (p_X6_adds v1 (nI 1) v2 mm mt mv mx) <| fun a_1 mm_2 mt_3 mv_4 mx_5 =>
  some (mm_2, mt_3, mv_4, mx_5)
def p_X6_readLetters_L12 (v1 : Int32) (v2 : Int32) (v3 : Int32) (mf : Nat → Int32) (me : Int32) (k54 : (Nat → Int32) → Int32 → Int32 → Int32 → Option (Int32 × (Nat → Int32) × (Nat → Int32) × (Nat → Int64) × (Nat → Int32) × Int32 × Int32 × Int32)) (k12 : Int32 → (Nat → Int32) → Int32 → Int32 → Int32 → Option (Int32 × (Nat → Int32) × (Nat → Int32) × (Nat → Int64) × (Nat → Int32) × Int32 × Int32 × Int32)) (v4 : Int32) (mx : Nat → Int32) (ma : Int32) (mb : Int32) (mba : Int32) : Option (Int32 × (Nat → Int32) × (Nat → Int32) × (Nat → Int64) × (Nat → Int32) × Int32 × Int32 × Int32) :=
  if v4 < v2 then
    if mb = (nI 0) then
      bd4 (p_X6_next mf ma me mb mba) <| fun a_7 ma_8 mb_9 mba_10 =>
      gd (inb (((nI 40) * (((nI 200) * v1) + v3)) + v4) 56000) <|
      k12 (v4 + (nI 1)) (up mx (ix (((nI 40) * (((nI 200) * v1) + v3)) + v4)) (b8 a_7)) ma_8 mb_9 mba_10
    else
      k54 mx ma mb mba
  else
    k54 mx ma mb mba
def p_X6_readLetters_J54 (mm : Nat → Int32) (mt : Nat → Int32) (mv : Nat → Int64) (mx : Nat → Int32) (ma : Int32) (mb : Int32) (mba : Int32) : Option (Int32 × (Nat → Int32) × (Nat → Int32) × (Nat → Int64) × (Nat → Int32) × Int32 × Int32 × Int32) :=
  if mb = (nI 0) then
    some ((nI 1), mm, mt, mv, mx, ma, mb, mba)
  else
    some ((nI 0), mm, mt, mv, mx, ma, mb, mba)
def p_X6_readLetters (v1 : Int32) (v2 : Int32) (mm : Nat → Int32) (mt : Nat → Int32) (mv : Nat → Int64) (mx : Nat → Int32) (mf : Nat → Int32) (ma : Int32) (me : Int32) (mb : Int32) (mba : Int32) : Option (Int32 × (Nat → Int32) × (Nat → Int32) × (Nat → Int64) × (Nat → Int32) × Int32 × Int32 × Int32) :=
  bd5 (p_X6_adds v1 (nI 1) (i2l v2) mm mt mv mx) <| fun a_1 mm_2 mt_3 mv_4 mx_5 =>
  itr5 (p_X6_readLetters_L12 v1 v2 a_1 mf me (fun mx_13 ma_14 mb_15 mba_16 =>
      p_X6_readLetters_J54 mm_2 mt_3 mv_4 mx_13 ma_14 mb_15 mba_16)) fu (nI 0) mx_5 ma mb mba
def p_X6_readLength (v1 : Int32) (mf : Nat → Int32) (ma : Int32) (me : Int32) (mb : Int32) (mba : Int32) : Option (Int32 × Int32 × Int32 × Int32) :=
  bd4 (p_X6_readBytes (nI 4) mf ma me mb mba) <| fun a_1 ma_2 mb_3 mba_4 =>
  if mb_3 = (nI 0) then
    if (l2i a_1) < (nI 0) then
      bd3 (p_X6_fails (nI 10) ma mb_3 mba_4) <| fun a_6 mb_7 mba_8 =>
      some ((-1 : Int32), ma_2, mb_7, mba_8)
    else
      if (me - ma_2) < (l2i a_1) then
        bd3 (p_X6_fails (nI 10) ma mb_3 mba_4) <| fun a_10 mb_11 mba_12 =>
        some ((-1 : Int32), ma_2, mb_11, mba_12)
      else
        if v1 < (l2i a_1) then
          bd3 (p_X6_fails (nI 10) ma mb_3 mba_4) <| fun a_14 mb_15 mba_16 =>
          some ((-1 : Int32), ma_2, mb_15, mba_16)
        else
          some ((l2i a_1), ma_2, mb_3, mba_4)
  else
    some ((-1 : Int32), ma_2, mb_3, mba_4)
def p_X6_readPlain_J42 (v1 : Int32) (v2 : Int32) (s1 : Int32) (mm : Nat → Int32) (mt : Nat → Int32) (mv : Nat → Int64) (mx : Nat → Int32) (mf : Nat → Int32) (ma : Int32) (me : Int32) (mb : Int32) (mba : Int32) : Option (Int32 × (Nat → Int32) × (Nat → Int32) × (Nat → Int64) × (Nat → Int32) × Int32 × Int32 × Int32) :=
  bd4 (p_X6_readBytes s1 mf ma me mb mba) <| fun a_15 ma_16 mb_17 mba_18 =>
  if mb_17 = (nI 0) then
    if v2 = (nI 0) then
      bd4 (p_X6_reads v1 (i2l (l2i a_15)) mm mt mv mx) <| fun mm_20 mt_21 mv_22 mx_23 =>
      some ((nI 1), mm_20, mt_21, mv_22, mx_23, ma_16, mb_17, mba_18)
    else
      bd4 (p_X6_reads v1 a_15 mm mt mv mx) <| fun mm_25 mt_26 mv_27 mx_28 =>
      some ((nI 1), mm_25, mt_26, mv_27, mx_28, ma_16, mb_17, mba_18)
  else
    some ((nI 0), mm, mt, mv, mx, ma_16, mb_17, mba_18)
def p_X6_readPlain (v1 : Int32) (v2 : Int32) (mm : Nat → Int32) (mt : Nat → Int32) (mv : Nat → Int64) (mx : Nat → Int32) (mf : Nat → Int32) (ma : Int32) (me : Int32) (mb : Int32) (mba : Int32) : Option (Int32 × (Nat → Int32) × (Nat → Int32) × (Nat → Int64) × (Nat → Int32) × Int32 × Int32 × Int32) :=
  if v2 = (nI 2) then
    bd4 (p_X6_readLength (nI 40) mf ma me mb mba) <| fun a_1 ma_2 mb_3 mba_4 =>
    if a_1 < (nI 0) then
      some ((nI 0), mm, mt, mv, mx, ma_2, mb_3, mba_4)
    else
      bd8 (p_X6_readLetters v1 a_1 mm mt mv mx mf ma_2 me mb_3 mba_4) <| fun a_6 mm_7 mt_8 mv_9 mx_10 ma_11 mb_12 mba_13 =>
      if a_6 = (nI 0) then
        some ((nI 0), mm_7, mt_8, mv_9, mx_10, ma_11, mb_12, mba_13)
      else
        some ((nI 1), mm_7, mt_8, mv_9, mx_10, ma_11, mb_12, mba_13)
  else
    if v2 = (nI 0) then
      p_X6_readPlain_J42 v1 v2 (nI 4) mm mt mv mx mf ma me mb mba
    else
      p_X6_readPlain_J42 v1 v2 (nI 8) mm mt mv mx mf ma me mb mba
def p_X6_field (v1 : Int32) (mf : Nat → Int32) (ma : Int32) (me : Int32) (mb : Int32) (mba : Int32) : Option (Int32 × Int32 × Int32 × Int32) :=
  bd4 (p_X6_next mf ma me mb mba) <| fun a_1 ma_2 mb_3 mba_4 =>
  if mb_3 = (nI 0) then
    if a_1 = v1 then
      some ((nI 1), ma_2, mb_3, mba_4)
    else
      bd3 (p_X6_fails (nI 7) ma mb_3 mba_4) <| fun a_6 mb_7 mba_8 =>
      if a_6 = (nI 0) then
        some ((nI 0), ma_2, mb_7, mba_8)
      else
        some ((nI 1), ma_2, mb_7, mba_8)
  else
    some ((nI 0), ma_2, mb_3, mba_4)
def p_X6_fieldZig (mf : Nat → Int32) (ma : Int32) (me : Int32) (mb : Int32) (mba : Int32) (mz : Int32) : Option (Int64 × Int32 × Int32 × Int32 × Int32) :=
  bd4 (p_X6_readZig mf ma me mb mba) <| fun a_1 ma_2 mb_3 mba_4 =>
  some (a_1, ma_2, mb_3, mba_4, ma)
def p_X6_readInner_J190 (v2 : Int64) (v4 : Int32) (ma : Int32) (mb : Int32) (mba : Int32) (mz : Int32) (mco : Int32) : Option (Int32 × Int32 × Int32 × Int32 × Int32 × Int32 × Int32) :=
  if v4 = (nI 0) then
    bd3 (p_X6_fails (nI 8) mz mb mba) <| fun a_39 mb_40 mba_41 =>
    if a_39 = (nI 0) then
      some ((nI 0), ma, mb_40, mba_41, mz, mco, (l2i v2))
    else
      some ((nI 1), ma, mb_40, mba_41, mz, mco, (l2i v2))
  else
    some ((nI 1), ma, mb, mba, mz, mco, (l2i v2))
def p_X6_readInner_J188 (v2 : Int64) (s0 : Int32) (ma : Int32) (mb : Int32) (mba : Int32) (mz : Int32) (mco : Int32) : Option (Int32 × Int32 × Int32 × Int32 × Int32 × Int32 × Int32) :=
  p_X6_readInner_J190 v2 s0 ma mb mba mz mco
def p_X6_readInner_J183 (v2 : Int64) (ma : Int32) (mb : Int32) (mba : Int32) (mz : Int32) (mco : Int32) : Option (Int32 × Int32 × Int32 × Int32 × Int32 × Int32 × Int32) :=
  p_X6_readInner_J188 v2 (nI 1) ma mb mba mz mco
def p_X6_readInner_J187 (v2 : Int64) (ma : Int32) (mb : Int32) (mba : Int32) (mz : Int32) (mco : Int32) : Option (Int32 × Int32 × Int32 × Int32 × Int32 × Int32 × Int32) :=
  p_X6_readInner_J188 v2 (nI 0) ma mb mba mz mco
def p_X6_readInner_J168 (v2 : Int64) (ma : Int32) (mb : Int32) (mba : Int32) (mdi : Int32) (mz : Int32) (mco : Int32) : Option (Int32 × Int32 × Int32 × Int32 × Int32 × Int32 × Int32) :=
  if v2 = (lN 8) then
    if mdi < (nI 0) then
      p_X6_readInner_J187 v2 ma mb mba mz mco
    else
      p_X6_readInner_J183 v2 ma mb mba mz mco
  else
    p_X6_readInner_J187 v2 ma mb mba mz mco
def p_X6_readInner_J155 (v1 : Int32) (v2 : Int64) (ma : Int32) (mb : Int32) (mba : Int32) (mdi : Int32) (mz : Int32) (mco : Int32) : Option (Int32 × Int32 × Int32 × Int32 × Int32 × Int32 × Int32) :=
  if v2 = (lN 3) then
    if v1 = (nI 3) then
      p_X6_readInner_J183 v2 ma mb mba mz mco
    else
      p_X6_readInner_J168 v2 ma mb mba mdi mz mco
  else
    p_X6_readInner_J168 v2 ma mb mba mdi mz mco
def p_X6_readInner_J142 (v1 : Int32) (v2 : Int64) (ma : Int32) (mb : Int32) (mba : Int32) (mdi : Int32) (mz : Int32) (mco : Int32) : Option (Int32 × Int32 × Int32 × Int32 × Int32 × Int32 × Int32) :=
  if v2 = (lN 6) then
    if v1 = (nI 2) then
      p_X6_readInner_J183 v2 ma mb mba mz mco
    else
      p_X6_readInner_J155 v1 v2 ma mb mba mdi mz mco
  else
    p_X6_readInner_J155 v1 v2 ma mb mba mdi mz mco
def p_X6_readInner_J115 (v1 : Int32) (v2 : Int64) (s0 : Int32) (ma : Int32) (mb : Int32) (mba : Int32) (mdi : Int32) (mz : Int32) (mso : Int32) (mco : Int32) : Option (Int32 × Int32 × Int32 × Int32 × Int32 × Int32 × Int32) :=
  if mso = (nI 0) then
    if s0 = (nI 0) then
      if v2 = (lN 5) then
        if v1 < (nI 2) then
          p_X6_readInner_J183 v2 ma mb mba mz mco
        else
          p_X6_readInner_J142 v1 v2 ma mb mba mdi mz mco
      else
        p_X6_readInner_J142 v1 v2 ma mb mba mdi mz mco
    else
      p_X6_readInner_J183 v2 ma mb mba mz mco
  else
    p_X6_readInner_J190 v2 s0 ma mb mba mz mco
def p_X6_readInner_J73 (v1 : Int32) (v2 : Int64) (mf : Nat → Int32) (ma : Int32) (me : Int32) (mb : Int32) (mba : Int32) (mdi : Int32) (mz : Int32) (mso : Int32) (mcd : Int32) : Option (Int32 × Int32 × Int32 × Int32 × Int32 × Int32 × Int32) :=
  bd4 (p_X6_field (nI 21) mf ma me mb mba) <| fun a_28 ma_29 mb_30 mba_31 =>
  if a_28 = (nI 0) then
    some ((nI 0), ma_29, mb_30, mba_31, mz, (l2i v2), mcd)
  else
    bd5 (p_X6_fieldZig mf ma_29 me mb_30 mba_31 mz) <| fun a_33 ma_34 mb_35 mba_36 mz_37 =>
    if mb_35 = (nI 0) then
      if a_33 = (lN 0) then
        p_X6_readInner_J115 v1 a_33 (nI 1) ma_34 mb_35 mba_36 mdi mz_37 mso (l2i v2)
      else
        p_X6_readInner_J115 v1 a_33 (nI 0) ma_34 mb_35 mba_36 mdi mz_37 mso (l2i v2)
    else
      some ((nI 0), ma_34, mb_35, mba_36, mz_37, (l2i v2), mcd)
def p_X6_readInner (v1 : Int32) (mm : Nat → Int32) (mf : Nat → Int32) (ma : Int32) (me : Int32) (mb : Int32) (mba : Int32) (mdi : Int32) (mz : Int32) (mso : Int32) (mco : Int32) (mcd : Int32) : Option (Int32 × Int32 × Int32 × Int32 × Int32 × Int32 × Int32) :=
  bd4 (p_X6_field (nI 21) mf ma me mb mba) <| fun a_1 ma_2 mb_3 mba_4 =>
  if a_1 = (nI 0) then
    some ((nI 0), ma_2, mb_3, mba_4, mz, mco, mcd)
  else
    bd5 (p_X6_fieldZig mf ma_2 me mb_3 mba_4 mz) <| fun a_6 ma_7 mb_8 mba_9 mz_10 =>
    if mb_8 = (nI 0) then
      if a_6 < (lN 0) then
        bd3 (p_X6_fails (nI 8) mz_10 mb_8 mba_9) <| fun a_12 mb_13 mba_14 =>
        gd (isB a_12) <|
        some (a_12, ma_7, mb_13, mba_14, mz_10, mco, mcd)
      else
        if (lN 200) < a_6 then
          bd3 (p_X6_fails (nI 8) mz_10 mb_8 mba_9) <| fun a_17 mb_18 mba_19 =>
          gd (isB a_17) <|
          some (a_17, ma_7, mb_18, mba_19, mz_10, mco, mcd)
        else
          if mso = (nI 0) then
            gd (inb (nI 4) 7) <|
            if (lN 200) < (a_6 + (i2l (mm (ix (nI 4))))) then
              bd3 (p_X6_fails (nI 8) mz_10 mb_8 mba_9) <| fun a_23 mb_24 mba_25 =>
              gd (isB a_23) <|
              some (a_23, ma_7, mb_24, mba_25, mz_10, mco, mcd)
            else
              p_X6_readInner_J73 v1 a_6 mf ma_7 me mb_8 mba_9 mdi mz_10 mso mcd
          else
            p_X6_readInner_J73 v1 a_6 mf ma_7 me mb_8 mba_9 mdi mz_10 mso mcd
    else
      some ((nI 0), ma_7, mb_8, mba_9, mz_10, mco, mcd)
def p_X6_readHead_J218 (v1 : Int32) (s1 : Int32) (mm : Nat → Int32) (mf : Nat → Int32) (ma : Int32) (me : Int32) (mb : Int32) (mba : Int32) (mdi : Int32) (mz : Int32) (mso : Int32) (mbo : Int32) (mco : Int32) (mcd : Int32) : Option (Int32 × Int32 × Int32 × Int32 × Int32 × Int32 × Int32 × Int32 × Int32 × Int32) :=
  bd4 (p_X6_field s1 mf ma me mb mba) <| fun a_49 ma_50 mb_51 mba_52 =>
  if a_49 = (nI 0) then
    some ((nI 0), ma_50, me, mb_51, mba_52, mz, mso, mbo, mco, mcd)
  else
    bd7 (p_X6_readInner v1 mm mf ma_50 me mb_51 mba_52 mdi mz mso mco mcd) <| fun a_54 ma_55 mb_56 mba_57 mz_58 mco_59 mcd_60 =>
    if a_54 = (nI 0) then
      some ((nI 0), ma_55, me, mb_56, mba_57, mz_58, mso, mbo, mco_59, mcd_60)
    else
      bd4 (p_X6_field (nI 0) mf ma_55 me mb_56 mba_57) <| fun a_62 ma_63 mb_64 mba_65 =>
      if a_62 = (nI 0) then
        some ((nI 0), ma_63, me, mb_64, mba_65, mz_58, mso, mbo, mco_59, mcd_60)
      else
        bd4 (p_X6_field (nI 0) mf ma_63 me mb_64 mba_65) <| fun a_67 ma_68 mb_69 mba_70 =>
        if a_67 = (nI 0) then
          some ((nI 0), ma_68, me, mb_69, mba_70, mz_58, mso, mbo, mco_59, mcd_60)
        else
          some ((nI 1), ma_68, me, mb_69, mba_70, mz_58, mso, mbo, mco_59, mcd_60)
def p_X6_readHead_J94 (v1 : Int32) (mm : Nat → Int32) (mf : Nat → Int32) (ms : Int32) (ma : Int32) (me : Int32) (mb : Int32) (mba : Int32) (mdi : Int32) (mz : Int32) (mso : Int32) (mbo : Int32) (mco : Int32) (mcd : Int32) : Option (Int32 × Int32 × Int32 × Int32 × Int32 × Int32 × Int32 × Int32 × Int32 × Int32) :=
  bd4 (p_X6_field (nI 21) mf ma me mb mba) <| fun a_17 ma_18 mb_19 mba_20 =>
  if a_17 = (nI 0) then
    some ((nI 0), ma_18, me, mb_19, mba_20, mz, mso, mbo, mco, mcd)
  else
    bd5 (p_X6_fieldZig mf ma_18 me mb_19 mba_20 mz) <| fun a_22 ma_23 mb_24 mba_25 mz_26 =>
    if mb_24 = (nI 0) then
      if a_22 < (lN 0) then
        bd3 (p_X6_fails (nI 8) mz_26 mb_24 mba_25) <| fun a_28 mb_29 mba_30 =>
        gd (isB a_28) <|
        some (a_28, ma_23, me, mb_29, mba_30, mz_26, mso, mbo, mco, mcd)
      else
        if (i2l (ms - ma_23)) < a_22 then
          bd3 (p_X6_fails (nI 8) mz_26 mb_24 mba_25) <| fun a_33 mb_34 mba_35 =>
          gd (isB a_33) <|
          some (a_33, ma_23, me, mb_34, mba_35, mz_26, mso, mbo, mco, mcd)
        else
          bd4 (p_X6_field (nI 21) mf ma_23 me mb_24 mba_25) <| fun a_38 ma_39 mb_40 mba_41 =>
          if a_38 = (nI 0) then
            some ((nI 0), ma_39, me, mb_40, mba_41, mz_26, mso, (l2i a_22), mco, mcd)
          else
            bd5 (p_X6_fieldZig mf ma_39 me mb_40 mba_41 mz_26) <| fun a_43 ma_44 mb_45 mba_46 mz_47 =>
            if mb_45 = (nI 0) then
              if a_43 = (i2l (l2i a_22)) then
                if mso = (nI 0) then
                  p_X6_readHead_J218 v1 (nI 44) mm mf ma_44 me mb_45 mba_46 mdi mz_47 mso (l2i a_22) mco mcd
                else
                  p_X6_readHead_J218 v1 (nI 76) mm mf ma_44 me mb_45 mba_46 mdi mz_47 mso (l2i a_22) mco mcd
              else
                bd3 (p_X6_fails (nI 8) mz_47 mb_45 mba_46) <| fun a_72 mb_73 mba_74 =>
                gd (isB a_72) <|
                some (a_72, ma_44, me, mb_73, mba_74, mz_47, mso, (l2i a_22), mco, mcd)
            else
              some ((nI 0), ma_44, me, mb_45, mba_46, mz_47, mso, (l2i a_22), mco, mcd)
    else
      some ((nI 0), ma_23, me, mb_24, mba_25, mz_26, mso, mbo, mco, mcd)
def p_X6_readHead_J68 (v1 : Int32) (v2 : Int32) (v3 : Int64) (mm : Nat → Int32) (mf : Nat → Int32) (ms : Int32) (ma : Int32) (me : Int32) (mb : Int32) (mba : Int32) (mdi : Int32) (mz : Int32) (mbo : Int32) (mco : Int32) (mcd : Int32) : Option (Int32 × Int32 × Int32 × Int32 × Int32 × Int32 × Int32 × Int32 × Int32 × Int32) :=
  if (l2i v3) = (nI 2) then
    if (nI 0) < v2 then
      bd3 (p_X6_fails (nI 9) v2 mb mba) <| fun a_12 mb_13 mba_14 =>
      gd (isB a_12) <|
      some (a_12, ma, me, mb_13, mba_14, mz, (l2i v3), mbo, mco, mcd)
    else
      p_X6_readHead_J94 v1 mm mf ms ma me mb mba mdi mz (l2i v3) mbo mco mcd
  else
    p_X6_readHead_J94 v1 mm mf ms ma me mb mba mdi mz (l2i v3) mbo mco mcd
def p_X6_readHead (v1 : Int32) (mm : Nat → Int32) (mf : Nat → Int32) (ms : Int32) (ma : Int32) (me : Int32) (mb : Int32) (mba : Int32) (mdi : Int32) (mz : Int32) (mso : Int32) (mbo : Int32) (mco : Int32) (mcd : Int32) : Option (Int32 × Int32 × Int32 × Int32 × Int32 × Int32 × Int32 × Int32 × Int32 × Int32) :=
  bd4 (p_X6_field (nI 21) mf ma ms mb mba) <| fun a_1 ma_2 mb_3 mba_4 =>
  if a_1 = (nI 0) then
    some ((nI 0), ma_2, ms, mb_3, mba_4, mz, mso, mbo, mco, mcd)
  else
    bd5 (p_X6_fieldZig mf ma_2 ms mb_3 mba_4 mz) <| fun a_6 ma_7 mb_8 mba_9 mz_10 =>
    if mb_8 = (nI 0) then
      if a_6 = (lN 0) then
        p_X6_readHead_J68 v1 ma a_6 mm mf ms ma_7 ms mb_8 mba_9 mdi mz_10 mbo mco mcd
      else
        if a_6 = (lN 2) then
          if v1 = (nI 3) then
            bd3 (p_X6_fails (nI 8) mz_10 mb_8 mba_9) <| fun a_77 mb_78 mba_79 =>
            gd (isB a_77) <|
            some (a_77, ma_7, ms, mb_78, mba_79, mz_10, mso, mbo, mco, mcd)
          else
            p_X6_readHead_J68 v1 ma a_6 mm mf ms ma_7 ms mb_8 mba_9 mdi mz_10 mbo mco mcd
        else
          bd3 (p_X6_fails (nI 8) mz_10 mb_8 mba_9) <| fun a_82 mb_83 mba_84 =>
          gd (isB a_82) <|
          some (a_82, ma_7, ms, mb_83, mba_84, mz_10, mso, mbo, mco, mcd)
    else
      some ((nI 0), ma_7, ms, mb_8, mba_9, mz_10, mso, mbo, mco, mcd)
def p_X6_isOver (v1 : Int32) (ma : Int32) (mb : Int32) (mba : Int32) : Option (Int32 × Int32 × Int32) :=
  if ma = v1 then
    some ((nI 1), mb, mba)
  else
    bd3 (p_X6_fails (nI 13) ma mb mba) <| fun a_1 mb_2 mba_3 =>
    if a_1 = (nI 0) then
      some ((nI 0), mb_2, mba_3)
    else
      some ((nI 1), mb_2, mba_3)
def p_X6_readPlaces_L53 (v1 : Int32) (v4 : Int32) (mm : Nat → Int32) (mt : Nat → Int32) (mv : Nat → Int64) (mx : Nat → Int32) (mn : Nat → Int64) (ma : Int32) (mb : Int32) (mba : Int32) (mdi : Int32) (mbl : Int32) (mby : Int32) (k90 : Option (Int32 × (Nat → Int32) × (Nat → Int32) × (Nat → Int64) × (Nat → Int32) × (Nat → Int64) × Int32 × Int32 × Int32 × Int32 × Int32)) (k53 : Int32 → Option (Int32 × (Nat → Int32) × (Nat → Int32) × (Nat → Int64) × (Nat → Int32) × (Nat → Int64) × Int32 × Int32 × Int32 × Int32 × Int32)) (v5 : Int32) : Option (Int32 × (Nat → Int32) × (Nat → Int32) × (Nat → Int64) × (Nat → Int32) × (Nat → Int64) × Int32 × Int32 × Int32 × Int32 × Int32) :=
  if v5 < v1 then
    gd (inb v5 500) <|
    if (mn (ix v5)) < (i2l mdi) then
      k53 (v5 + (nI 1))
    else
      bd3 (p_X6_fails (nI 12) v4 mb mba) <| fun a_20 mb_21 mba_22 =>
      gd (isB a_20) <|
      some (a_20, mm, mt, mv, mx, mn, ma, mb_21, mba_22, mbl, mby)
  else
    k90
def p_X6_readPlaces_L93 (v1 : Int32) (mn : Nat → Int64) (ma : Int32) (mb : Int32) (mba : Int32) (mbl : Int32) (mby : Int32) (k93 : Int32 → (Nat → Int32) → (Nat → Int32) → (Nat → Int64) → (Nat → Int32) → Option (Int32 × (Nat → Int32) × (Nat → Int32) × (Nat → Int64) × (Nat → Int32) × (Nat → Int64) × Int32 × Int32 × Int32 × Int32 × Int32)) (v5 : Int32) (mm : Nat → Int32) (mt : Nat → Int32) (mv : Nat → Int64) (mx : Nat → Int32) : Option (Int32 × (Nat → Int32) × (Nat → Int32) × (Nat → Int64) × (Nat → Int32) × (Nat → Int64) × Int32 × Int32 × Int32 × Int32 × Int32) :=
  if v5 < v1 then
    bd5 (p_X6_adds (nI 6) (nI 1) (lN 0) mm mt mv mx) <| fun a_25 mm_26 mt_27 mv_28 mx_29 =>
    gd (inb v5 500) <|
    bd3 (p_X6_copies ((nI 1200) + a_25) ((nI 1000) + (l2i (mn (ix v5)))) mt_27 mv_28 mx_29) <| fun mt_32 mv_33 mx_34 =>
    k93 (v5 + (nI 1)) mm_26 mt_32 mv_33 mx_34
  else
    some ((nI 1), mm, mt, mv, mx, mn, ma, mb, mba, mbl, mby)
def p_X6_readPlaces (v1 : Int32) (mm : Nat → Int32) (mt : Nat → Int32) (mv : Nat → Int64) (mx : Nat → Int32) (mf : Nat → Int32) (mn : Nat → Int64) (ma : Int32) (me : Int32) (mb : Int32) (mba : Int32) (mdi : Int32) (mbl : Int32) (mby : Int32) : Option (Int32 × (Nat → Int32) × (Nat → Int32) × (Nat → Int64) × (Nat → Int32) × (Nat → Int64) × Int32 × Int32 × Int32 × Int32 × Int32) :=
  bd4 (p_X6_next mf ma me mb mba) <| fun a_1 ma_2 mb_3 mba_4 =>
  if mb_3 = (nI 0) then
    if (nI 32) < a_1 then
      bd3 (p_X6_fails (nI 11) ma mb_3 mba_4) <| fun a_6 mb_7 mba_8 =>
      gd (isB a_6) <|
      some (a_6, mm, mt, mv, mx, mn, ma_2, mb_7, mba_8, mbl, mby)
    else
      bd7 (p_X6_readRuns v1 a_1 mf mn ma_2 me mb_3 mba_4 mbl mby) <| fun a_11 mn_12 ma_13 mb_14 mba_15 mbl_16 mby_17 =>
      if a_11 = (nI 0) then
        some ((nI 0), mm, mt, mv, mx, mn_12, ma_13, mb_14, mba_15, mbl_16, mby_17)
      else
        itr1 (p_X6_readPlaces_L53 v1 ma_2 mm mt mv mx mn_12 ma_13 mb_14 mba_15 mdi mbl_16 mby_17 (
            itr5 (p_X6_readPlaces_L93 v1 mn_12 ma_13 mb_14 mba_15 mbl_16 mby_17 ) fu (nI 0) mm mt mv mx)) fu (nI 0)
  else
    some ((nI 0), mm, mt, mv, mx, mn, ma_2, mb_3, mba_4, mbl, mby)
def p_X6_readTexts_J52 (v3 : Int64) (v6 : Int32) (s0 : Int32) (mn : Nat → Int64) (k19 : Int64 → Int32 → Int32 → Option (Int32 × (Nat → Int32) × (Nat → Int32) × (Nat → Int64) × (Nat → Int32) × (Nat → Int64) × Int32 × Int32 × Int32 × Int32 × Int32 × (Nat → Int32))) : Option (Int32 × (Nat → Int32) × (Nat → Int32) × (Nat → Int64) × (Nat → Int32) × (Nat → Int64) × Int32 × Int32 × Int32 × Int32 × Int32 × (Nat → Int32)) :=
  gd (inb v6 500) <|
  k19 (v3 + (mn (ix v6))) s0 (v6 + (nI 1))
def p_X6_readTexts_J51 (v3 : Int64) (v6 : Int32) (mn : Nat → Int64) (k19 : Int64 → Int32 → Int32 → Option (Int32 × (Nat → Int32) × (Nat → Int32) × (Nat → Int64) × (Nat → Int32) × (Nat → Int64) × Int32 × Int32 × Int32 × Int32 × Int32 × (Nat → Int32))) : Option (Int32 × (Nat → Int32) × (Nat → Int32) × (Nat → Int64) × (Nat → Int32) × (Nat → Int64) × Int32 × Int32 × Int32 × Int32 × Int32 × (Nat → Int32)) :=
  p_X6_readTexts_J52 v3 v6 (nI 0) mn k19
def p_X6_readTexts_L19 (v1 : Int32) (mn : Nat → Int64) (k70 : Int64 → Int32 → Option (Int32 × (Nat → Int32) × (Nat → Int32) × (Nat → Int64) × (Nat → Int32) × (Nat → Int64) × Int32 × Int32 × Int32 × Int32 × Int32 × (Nat → Int32))) (k19 : Int64 → Int32 → Int32 → Option (Int32 × (Nat → Int32) × (Nat → Int32) × (Nat → Int64) × (Nat → Int32) × (Nat → Int64) × Int32 × Int32 × Int32 × Int32 × Int32 × (Nat → Int32))) (v3 : Int64) (v5 : Int32) (v6 : Int32) : Option (Int32 × (Nat → Int32) × (Nat → Int32) × (Nat → Int64) × (Nat → Int32) × (Nat → Int64) × Int32 × Int32 × Int32 × Int32 × Int32 × (Nat → Int32)) :=
  if v6 < v1 then
    if v5 = (nI 0) then
      p_X6_readTexts_J51 v3 v6 mn k19
    else
      gd (inb v6 500) <|
      bd1 (p_X6_in (mn (ix v6)) (lN 0) (lN 40)) <| fun a_12 =>
      if a_12 = (nI 0) then
        p_X6_readTexts_J51 v3 v6 mn k19
      else
        p_X6_readTexts_J52 v3 v6 (nI 1) mn k19
  else
    k70 v3 v5
def p_X6_readTexts_L101 (v1 : Int32) (mf : Nat → Int32) (mn : Nat → Int64) (me : Int32) (mbl : Int32) (mby : Int32) (mw : Nat → Int32) (k101 : Int32 → (Nat → Int32) → (Nat → Int32) → (Nat → Int64) → (Nat → Int32) → Int32 → Int32 → Int32 → Option (Int32 × (Nat → Int32) × (Nat → Int32) × (Nat → Int64) × (Nat → Int32) × (Nat → Int64) × Int32 × Int32 × Int32 × Int32 × Int32 × (Nat → Int32))) (v6 : Int32) (mm : Nat → Int32) (mt : Nat → Int32) (mv : Nat → Int64) (mx : Nat → Int32) (ma : Int32) (mb : Int32) (mba : Int32) : Option (Int32 × (Nat → Int32) × (Nat → Int32) × (Nat → Int64) × (Nat → Int32) × (Nat → Int64) × Int32 × Int32 × Int32 × Int32 × Int32 × (Nat → Int32)) :=
  if v6 < v1 then
    gd (inb v6 500) <|
    bd8 (p_X6_readLetters (nI 6) (l2i (mn (ix v6))) mm mt mv mx mf ma me mb mba) <| fun a_27 mm_28 mt_29 mv_30 mx_31 ma_32 mb_33 mba_34 =>
    if a_27 = (nI 0) then
      some ((nI 0), mm_28, mt_29, mv_30, mx_31, mn, ma_32, mb_33, mba_34, mbl, mby, mw)
    else
      k101 (v6 + (nI 1)) mm_28 mt_29 mv_30 mx_31 ma_32 mb_33 mba_34
  else
    some ((nI 1), mm, mt, mv, mx, mn, ma, mb, mba, mbl, mby, mw)
def p_X6_readTexts (v1 : Int32) (v2 : Int32) (mm : Nat → Int32) (mt : Nat → Int32) (mv : Nat → Int64) (mx : Nat → Int32) (mf : Nat → Int32) (mn : Nat → Int64) (ma : Int32) (me : Int32) (mb : Int32) (mba : Int32) (mbl : Int32) (mby : Int32) (mw : Nat → Int32) : Option (Int32 × (Nat → Int32) × (Nat → Int32) × (Nat → Int64) × (Nat → Int32) × (Nat → Int64) × Int32 × Int32 × Int32 × Int32 × Int32 × (Nat → Int32)) :=
  bd8 (p_X6_readDifferences v1 (nI 1) mf mn ma me mb mba mbl mby mw) <| fun a_1 mn_2 ma_3 mb_4 mba_5 mbl_6 mby_7 mw_8 =>
  if a_1 = (nI 0) then
    some ((nI 0), mm, mt, mv, mx, mn_2, ma_3, mb_4, mba_5, mbl_6, mby_7, mw_8)
  else
    itr3 (p_X6_readTexts_L19 v1 mn_2 (fun v3_14 v5_15 =>
        if v5_15 = (nI 0) then
          bd3 (p_X6_fails (nI 10) ma_3 mb_4 mba_5) <| fun a_16 mb_17 mba_18 =>
          gd (isB a_16) <|
          some (a_16, mm, mt, mv, mx, mn_2, ma_3, mb_17, mba_18, mbl_6, mby_7, mw_8)
        else
          if (i2l (v2 - ma_3)) < v3_14 then
            bd3 (p_X6_fails (nI 10) ma_3 mb_4 mba_5) <| fun a_21 mb_22 mba_23 =>
            gd (isB a_21) <|
            some (a_21, mm, mt, mv, mx, mn_2, ma_3, mb_22, mba_23, mbl_6, mby_7, mw_8)
          else
            itr8 (p_X6_readTexts_L101 v1 mf mn_2 me mbl_6 mby_7 mw_8 ) fu (nI 0) mm mt mv mx ma_3 mb_4 mba_5)) fu (lN 0) (nI 1) (nI 0)
def p_X6_readValues_L33 (v2 : Int32) (mf : Nat → Int32) (mn : Nat → Int64) (me : Int32) (mw : Nat → Int32) (k33 : Int32 → (Nat → Int32) → (Nat → Int32) → (Nat → Int64) → (Nat → Int32) → Int32 → Int32 → Int32 → Int32 → Int32 → Option (Int32 × (Nat → Int32) × (Nat → Int32) × (Nat → Int64) × (Nat → Int32) × (Nat → Int64) × Int32 × Int32 × Int32 × Int32 × Int32 × Int32 × (Nat → Int32))) (v4 : Int32) (mm : Nat → Int32) (mt : Nat → Int32) (mv : Nat → Int64) (mx : Nat → Int32) (ma : Int32) (mb : Int32) (mba : Int32) (mbl : Int32) (mby : Int32) : Option (Int32 × (Nat → Int32) × (Nat → Int32) × (Nat → Int64) × (Nat → Int32) × (Nat → Int64) × Int32 × Int32 × Int32 × Int32 × Int32 × Int32 × (Nat → Int32)) :=
  if v4 < v2 then
    bd6 (p_X6_readPacked (nI 1) mf ma me mb mba mbl mby) <| fun a_2 ma_3 mb_4 mba_5 mbl_6 mby_7 =>
    if mb_4 = (nI 0) then
      bd4 (p_X6_reads (nI 6) a_2 mm mt mv mx) <| fun mm_9 mt_10 mv_11 mx_12 =>
      k33 (v4 + (nI 1)) mm_9 mt_10 mv_11 mx_12 ma_3 mb_4 mba_5 mbl_6 mby_7
    else
      some ((nI 0), mm, mt, mv, mx, mn, ma_3, me, mb_4, mba_5, mbl_6, mby_7, mw)
  else
    some ((nI 1), mm, mt, mv, mx, mn, ma, me, mb, mba, mbl, mby, mw)
def p_X6_readValues_L84 (v1 : Int32) (v2 : Int32) (mf : Nat → Int32) (mn : Nat → Int64) (me : Int32) (mbl : Int32) (mby : Int32) (mw : Nat → Int32) (k84 : Int32 → Int32 → (Nat → Int32) → (Nat → Int32) → (Nat → Int64) → (Nat → Int32) → Int32 → Int32 → Int32 → Option (Int32 × (Nat → Int32) × (Nat → Int32) × (Nat → Int64) × (Nat → Int32) × (Nat → Int64) × Int32 × Int32 × Int32 × Int32 × Int32 × Int32 × (Nat → Int32))) (v4 : Int32) (v5 : Int32) (mm : Nat → Int32) (mt : Nat → Int32) (mv : Nat → Int64) (mx : Nat → Int32) (ma : Int32) (mb : Int32) (mba : Int32) : Option (Int32 × (Nat → Int32) × (Nat → Int32) × (Nat → Int64) × (Nat → Int32) × (Nat → Int64) × Int32 × Int32 × Int32 × Int32 × Int32 × Int32 × (Nat → Int32)) :=
  if v5 < v2 then
    if v4 = (nI 0) then
      gd (isB v4) <|
      some (v4, mm, mt, mv, mx, mn, ma, me, mb, mba, mbl, mby, mw)
    else
      bd8 (p_X6_readPlain (nI 6) v1 mm mt mv mx mf ma me mb mba) <| fun a_15 mm_16 mt_17 mv_18 mx_19 ma_20 mb_21 mba_22 =>
      k84 a_15 (v5 + (nI 1)) mm_16 mt_17 mv_18 mx_19 ma_20 mb_21 mba_22
  else
    gd (isB v4) <|
    some (v4, mm, mt, mv, mx, mn, ma, me, mb, mba, mbl, mby, mw)
def p_X6_readValues_L143 (v2 : Int32) (mn : Nat → Int64) (ma : Int32) (me : Int32) (mb : Int32) (mba : Int32) (mbl : Int32) (mby : Int32) (mw : Nat → Int32) (k143 : Int32 → (Nat → Int32) → (Nat → Int32) → (Nat → Int64) → (Nat → Int32) → Option (Int32 × (Nat → Int32) × (Nat → Int32) × (Nat → Int64) × (Nat → Int32) × (Nat → Int64) × Int32 × Int32 × Int32 × Int32 × Int32 × Int32 × (Nat → Int32))) (v4 : Int32) (mm : Nat → Int32) (mt : Nat → Int32) (mv : Nat → Int64) (mx : Nat → Int32) : Option (Int32 × (Nat → Int32) × (Nat → Int32) × (Nat → Int64) × (Nat → Int32) × (Nat → Int64) × Int32 × Int32 × Int32 × Int32 × Int32 × Int32 × (Nat → Int32)) :=
  if v4 < v2 then
    gd (inb v4 500) <|
    bd4 (p_X6_reads (nI 6) (mn (ix v4)) mm mt mv mx) <| fun mm_35 mt_36 mv_37 mx_38 =>
    k143 (v4 + (nI 1)) mm_35 mt_36 mv_37 mx_38
  else
    some ((nI 1), mm, mt, mv, mx, mn, ma, me, mb, mba, mbl, mby, mw)
def p_X6_readValues_J132 (v2 : Int32) (s1 : Int32) (s2 : Int32) (mm : Nat → Int32) (mt : Nat → Int32) (mv : Nat → Int64) (mx : Nat → Int32) (mf : Nat → Int32) (mn : Nat → Int64) (ma : Int32) (me : Int32) (mb : Int32) (mba : Int32) (mbl : Int32) (mby : Int32) (mw : Nat → Int32) : Option (Int32 × (Nat → Int32) × (Nat → Int32) × (Nat → Int64) × (Nat → Int32) × (Nat → Int64) × Int32 × Int32 × Int32 × Int32 × Int32 × Int32 × (Nat → Int32)) :=
  bd8 (p_X6_readDifferences s1 s2 mf mn ma me mb mba mbl mby mw) <| fun a_25 mn_26 ma_27 mb_28 mba_29 mbl_30 mby_31 mw_32 =>
  if a_25 = (nI 0) then
    some ((nI 0), mm, mt, mv, mx, mn_26, ma_27, me, mb_28, mba_29, mbl_30, mby_31, mw_32)
  else
    itr5 (p_X6_readValues_L143 v2 mn_26 ma_27 me mb_28 mba_29 mbl_30 mby_31 mw_32 ) fu (nI 0) mm mt mv mx
def p_X6_readValues_L258 (v2 : Int32) (mn : Nat → Int64) (ma : Int32) (me : Int32) (mb : Int32) (mba : Int32) (mbl : Int32) (mby : Int32) (mw : Nat → Int32) (k258 : Int32 → (Nat → Int32) → (Nat → Int32) → (Nat → Int64) → (Nat → Int32) → Option (Int32 × (Nat → Int32) × (Nat → Int32) × (Nat → Int64) × (Nat → Int32) × (Nat → Int64) × Int32 × Int32 × Int32 × Int32 × Int32 × Int32 × (Nat → Int32))) (v5 : Int32) (mm : Nat → Int32) (mt : Nat → Int32) (mv : Nat → Int64) (mx : Nat → Int32) : Option (Int32 × (Nat → Int32) × (Nat → Int32) × (Nat → Int64) × (Nat → Int32) × (Nat → Int64) × Int32 × Int32 × Int32 × Int32 × Int32 × Int32 × (Nat → Int32)) :=
  if v5 < v2 then
    gd (inb v5 500) <|
    bd4 (p_X6_reads (nI 6) (mn (ix v5)) mm mt mv mx) <| fun mm_85 mt_86 mv_87 mx_88 =>
    k258 (v5 + (nI 1)) mm_85 mt_86 mv_87 mx_88
  else
    some ((nI 1), mm, mt, mv, mx, mn, ma, me, mb, mba, mbl, mby, mw)
def p_X6_readValues_J71 (v1 : Int32) (v2 : Int32) (v3 : Int32) (mm : Nat → Int32) (mt : Nat → Int32) (mv : Nat → Int64) (mx : Nat → Int32) (mf : Nat → Int32) (mn : Nat → Int64) (ma : Int32) (me : Int32) (mb : Int32) (mba : Int32) (mdi : Int32) (mbl : Int32) (mby : Int32) (mw : Nat → Int32) (mcd : Int32) : Option (Int32 × (Nat → Int32) × (Nat → Int32) × (Nat → Int64) × (Nat → Int32) × (Nat → Int64) × Int32 × Int32 × Int32 × Int32 × Int32 × Int32 × (Nat → Int32)) :=
  if mcd = (nI 0) then
    itr9 (p_X6_readValues_L84 v1 v2 mf mn me mbl mby mw ) fu (nI 1) (nI 0) mm mt mv mx ma mb mba
  else
    if mcd = (nI 5) then
      if v1 = (nI 0) then
        p_X6_readValues_J132 v2 v2 (nI 1) mm mt mv mx mf mn ma me mb mba mbl mby mw
      else
        p_X6_readValues_J132 v2 v2 (nI 0) mm mt mv mx mf mn ma me mb mba mbl mby mw
    else
      if mcd = (nI 6) then
        bd12 (p_X6_readTexts v2 v3 mm mt mv mx mf mn ma me mb mba mbl mby mw) <| fun a_40 mm_41 mt_42 mv_43 mx_44 mn_45 ma_46 mb_47 mba_48 mbl_49 mby_50 mw_51 =>
        gd (isB a_40) <|
        some (a_40, mm_41, mt_42, mv_43, mx_44, mn_45, ma_46, me, mb_47, mba_48, mbl_49, mby_50, mw_51)
      else
        if mcd = (nI 8) then
          bd11 (p_X6_readPlaces v2 mm mt mv mx mf mn ma me mb mba mdi mbl mby) <| fun a_54 mm_55 mt_56 mv_57 mx_58 mn_59 ma_60 mb_61 mba_62 mbl_63 mby_64 =>
          gd (isB a_54) <|
          some (a_54, mm_55, mt_56, mv_57, mx_58, mn_59, ma_60, me, mb_61, mba_62, mbl_63, mby_64, mw)
        else
          bd4 (p_X6_readLength (nI 12000) mf ma me mb mba) <| fun a_67 ma_68 mb_69 mba_70 =>
          if a_67 < (nI 0) then
            some ((nI 0), mm, mt, mv, mx, mn, ma_68, me, mb_69, mba_70, mbl, mby, mw)
          else
            bd7 (p_X6_readRuns v2 (nI 1) mf mn ma_68 (ma_68 + a_67) mb_69 mba_70 mbl mby) <| fun a_72 mn_73 ma_74 mb_75 mba_76 mbl_77 mby_78 =>
            if a_72 = (nI 0) then
              some ((nI 0), mm, mt, mv, mx, mn_73, ma_74, (ma_68 + a_67), mb_75, mba_76, mbl_77, mby_78, mw)
            else
              bd3 (p_X6_isOver (ma_68 + a_67) ma_74 mb_75 mba_76) <| fun a_80 mb_81 mba_82 =>
              if a_80 = (nI 0) then
                some ((nI 0), mm, mt, mv, mx, mn_73, ma_74, (ma_68 + a_67), mb_81, mba_82, mbl_77, mby_78, mw)
              else
                itr5 (p_X6_readValues_L258 v2 mn_73 ma_74 v3 mb_81 mba_82 mbl_77 mby_78 mw ) fu (nI 0) mm mt mv mx
def p_X6_readValues (v1 : Int32) (v2 : Int32) (mm : Nat → Int32) (mt : Nat → Int32) (mv : Nat → Int64) (mx : Nat → Int32) (mf : Nat → Int32) (mn : Nat → Int64) (ma : Int32) (me : Int32) (mb : Int32) (mba : Int32) (mdi : Int32) (mbl : Int32) (mby : Int32) (mw : Nat → Int32) (mcd : Int32) : Option (Int32 × (Nat → Int32) × (Nat → Int32) × (Nat → Int64) × (Nat → Int32) × (Nat → Int64) × Int32 × Int32 × Int32 × Int32 × Int32 × Int32 × (Nat → Int32)) :=
  gd (inb (nI 6) 7) <|
  if mcd = (nI 0) then
    if v1 = (nI 3) then
      itr10 (p_X6_readValues_L33 v2 mf mn me mw ) fu (nI 0) (up mm (ix (nI 6)) (nI 0)) mt mv mx ma mb mba (nI 0) mby
    else
      p_X6_readValues_J71 v1 v2 me (up mm (ix (nI 6)) (nI 0)) mt mv mx mf mn ma me mb mba mdi mbl mby mw mcd
  else
    p_X6_readValues_J71 v1 v2 me (up mm (ix (nI 6)) (nI 0)) mt mv mx mf mn ma me mb mba mdi mbl mby mw mcd
def p_X6_readPage_L62 (v1 : Int32) (mf : Nat → Int32) (mn : Nat → Int64) (me : Int32) (mpg : Int32) (mdi : Int32) (mbl : Int32) (mby : Int32) (mw : Nat → Int32) (mz : Int32) (mso : Int32) (mbo : Int32) (mco : Int32) (mcd : Int32) (ml : Nat → Int32) (k88 : (Nat → Int32) → (Nat → Int32) → (Nat → Int64) → (Nat → Int32) → Int32 → Int32 → Int32 → Option (Int32 × (Nat → Int32) × (Nat → Int32) × (Nat → Int64) × (Nat → Int32) × (Nat → Int64) × Int32 × Int32 × Int32 × Int32 × Int32 × Int32 × Int32 × Int32 × (Nat → Int32) × Int32 × Int32 × Int32 × Int32 × Int32 × (Nat → Int32))) (k62 : Int32 → (Nat → Int32) → (Nat → Int32) → (Nat → Int64) → (Nat → Int32) → Int32 → Int32 → Int32 → Option (Int32 × (Nat → Int32) × (Nat → Int32) × (Nat → Int64) × (Nat → Int32) × (Nat → Int64) × Int32 × Int32 × Int32 × Int32 × Int32 × Int32 × Int32 × Int32 × (Nat → Int32) × Int32 × Int32 × Int32 × Int32 × Int32 × (Nat → Int32))) (v4 : Int32) (mm : Nat → Int32) (mt : Nat → Int32) (mv : Nat → Int64) (mx : Nat → Int32) (ma : Int32) (mb : Int32) (mba : Int32) : Option (Int32 × (Nat → Int32) × (Nat → Int32) × (Nat → Int64) × (Nat → Int32) × (Nat → Int64) × Int32 × Int32 × Int32 × Int32 × Int32 × Int32 × Int32 × Int32 × (Nat → Int32) × Int32 × Int32 × Int32 × Int32 × Int32 × (Nat → Int32)) :=
  if v4 < mco then
    bd8 (p_X6_readPlain (nI 5) v1 mm mt mv mx mf ma me mb mba) <| fun a_17 mm_18 mt_19 mv_20 mx_21 ma_22 mb_23 mba_24 =>
    if a_17 = (nI 0) then
      some ((nI 0), mm_18, mt_19, mv_20, mx_21, mn, ma_22, me, mb_23, mba_24, mpg, mdi, mbl, mby, mw, mz, mso, mbo, mco, mcd, ml)
    else
      k62 (v4 + (nI 1)) mm_18 mt_19 mv_20 mx_21 ma_22 mb_23 mba_24
  else
    k88 mm mt mv mx ma mb mba
def p_X6_readPage_L127 (mco : Int32) (k150 : (Nat → Int32) → Option (Int32 × (Nat → Int32) × (Nat → Int32) × (Nat → Int64) × (Nat → Int32) × (Nat → Int64) × Int32 × Int32 × Int32 × Int32 × Int32 × Int32 × Int32 × Int32 × (Nat → Int32) × Int32 × Int32 × Int32 × Int32 × Int32 × (Nat → Int32))) (k127 : Int32 → (Nat → Int32) → Option (Int32 × (Nat → Int32) × (Nat → Int32) × (Nat → Int64) × (Nat → Int32) × (Nat → Int64) × Int32 × Int32 × Int32 × Int32 × Int32 × Int32 × Int32 × Int32 × (Nat → Int32) × Int32 × Int32 × Int32 × Int32 × Int32 × (Nat → Int32))) (v5 : Int32) (ml : Nat → Int32) : Option (Int32 × (Nat → Int32) × (Nat → Int32) × (Nat → Int64) × (Nat → Int32) × (Nat → Int64) × Int32 × Int32 × Int32 × Int32 × Int32 × Int32 × Int32 × Int32 × (Nat → Int32) × Int32 × Int32 × Int32 × Int32 × Int32 × (Nat → Int32)) :=
  if v5 < mco then
    gd (inb v5 200) <|
    k127 (v5 + (nI 1)) (up ml (ix v5) (nI 1))
  else
    k150 ml
def p_X6_readPage_L302 (mn : Nat → Int64) (ma : Int32) (me : Int32) (mb : Int32) (mba : Int32) (mpg : Int32) (mdi : Int32) (mbl : Int32) (mby : Int32) (mw : Nat → Int32) (mz : Int32) (mso : Int32) (mbo : Int32) (mco : Int32) (mcd : Int32) (ml : Nat → Int32) (k302 : Int32 → Int32 → (Nat → Int32) → (Nat → Int32) → (Nat → Int64) → (Nat → Int32) → Option (Int32 × (Nat → Int32) × (Nat → Int32) × (Nat → Int64) × (Nat → Int32) × (Nat → Int64) × Int32 × Int32 × Int32 × Int32 × Int32 × Int32 × Int32 × Int32 × (Nat → Int32) × Int32 × Int32 × Int32 × Int32 × Int32 × (Nat → Int32))) (v5 : Int32) (v6 : Int32) (mm : Nat → Int32) (mt : Nat → Int32) (mv : Nat → Int64) (mx : Nat → Int32) : Option (Int32 × (Nat → Int32) × (Nat → Int32) × (Nat → Int64) × (Nat → Int32) × (Nat → Int64) × Int32 × Int32 × Int32 × Int32 × Int32 × Int32 × Int32 × Int32 × (Nat → Int32) × Int32 × Int32 × Int32 × Int32 × Int32 × (Nat → Int32)) :=
  if v6 < mco then
    gd (inb v6 200) <|
    if (ml (ix v6)) = (nI 0) then
      bd5 (p_X6_adds (nI 4) (nI 0) (lN 0) mm mt mv mx) <| fun a_58 mm_59 mt_60 mv_61 mx_62 =>
      k302 v5 (v6 + (nI 1)) mm_59 mt_60 mv_61 mx_62
    else
      bd5 (p_X6_adds (nI 4) (nI 1) (lN 0) mm mt mv mx) <| fun a_64 mm_65 mt_66 mv_67 mx_68 =>
      bd3 (p_X6_copies ((nI 800) + a_64) ((nI 1200) + v5) mt_66 mv_67 mx_68) <| fun mt_70 mv_71 mx_72 =>
      k302 (v5 + (nI 1)) (v6 + (nI 1)) mm_65 mt_70 mv_71 mx_72
  else
    some ((nI 1), mm, mt, mv, mx, mn, ma, me, mb, mba, (mpg + (nI 1)), mdi, mbl, mby, mw, mz, mso, mbo, mco, mcd, ml)
def p_X6_readPage_J276 (v1 : Int32) (v3 : Int32) (v4 : Int32) (mm : Nat → Int32) (mt : Nat → Int32) (mv : Nat → Int64) (mx : Nat → Int32) (mf : Nat → Int32) (mn : Nat → Int64) (ma : Int32) (me : Int32) (mb : Int32) (mba : Int32) (mpg : Int32) (mdi : Int32) (mbl : Int32) (mby : Int32) (mw : Nat → Int32) (mz : Int32) (mso : Int32) (mbo : Int32) (mco : Int32) (mcd : Int32) (ml : Nat → Int32) : Option (Int32 × (Nat → Int32) × (Nat → Int32) × (Nat → Int64) × (Nat → Int32) × (Nat → Int64) × Int32 × Int32 × Int32 × Int32 × Int32 × Int32 × Int32 × Int32 × (Nat → Int32) × Int32 × Int32 × Int32 × Int32 × Int32 × (Nat → Int32)) :=
  bd13 (p_X6_readValues v1 v4 mm mt mv mx mf mn ma me mb mba mdi mbl mby mw mcd) <| fun a_39 mm_40 mt_41 mv_42 mx_43 mn_44 ma_45 me_46 mb_47 mba_48 mbl_49 mby_50 mw_51 =>
  if a_39 = (nI 0) then
    some ((nI 0), mm_40, mt_41, mv_42, mx_43, mn_44, ma_45, me_46, mb_47, mba_48, mpg, mdi, mbl_49, mby_50, mw_51, mz, mso, mbo, mco, mcd, ml)
  else
    bd3 (p_X6_isOver v3 ma_45 mb_47 mba_48) <| fun a_53 mb_54 mba_55 =>
    if a_53 = (nI 0) then
      some ((nI 0), mm_40, mt_41, mv_42, mx_43, mn_44, ma_45, me_46, mb_54, mba_55, mpg, mdi, mbl_49, mby_50, mw_51, mz, mso, mbo, mco, mcd, ml)
    else
      itr6 (p_X6_readPage_L302 mn_44 ma_45 me_46 mb_54 mba_55 mpg mdi mbl_49 mby_50 mw_51 mz mso mbo mco mcd ml ) fu (nI 0) (nI 0) mm_40 mt_41 mv_42 mx_43
def p_X6_readPage_J249 (v4 : Int32) (v6 : Int32) (s1 : Int32) (s2 : Int32) (ml : Nat → Int32) (k217 : Int32 → Int32 → (Nat → Int32) → Option (Int32 × (Nat → Int32) × (Nat → Int32) × (Nat → Int64) × (Nat → Int32) × (Nat → Int64) × Int32 × Int32 × Int32 × Int32 × Int32 × Int32 × Int32 × Int32 × (Nat → Int32) × Int32 × Int32 × Int32 × Int32 × Int32 × (Nat → Int32))) : Option (Int32 × (Nat → Int32) × (Nat → Int32) × (Nat → Int64) × (Nat → Int32) × (Nat → Int64) × Int32 × Int32 × Int32 × Int32 × Int32 × Int32 × Int32 × Int32 × (Nat → Int32) × Int32 × Int32 × Int32 × Int32 × Int32 × (Nat → Int32)) :=
  gd (inb s1 200) <|
  gd (isB s2) <|
  gd (inb v6 200) <|
  if ((up ml (ix s1) s2) (ix v6)) = (nI 0) then
    k217 (v4 + (nI 0)) (v6 + (nI 1)) (up ml (ix s1) s2)
  else
    k217 (v4 + (nI 1)) (v6 + (nI 1)) (up ml (ix s1) s2)
def p_X6_readPage_L217 (mn : Nat → Int64) (mco : Int32) (k276 : Int32 → (Nat → Int32) → Option (Int32 × (Nat → Int32) × (Nat → Int32) × (Nat → Int64) × (Nat → Int32) × (Nat → Int64) × Int32 × Int32 × Int32 × Int32 × Int32 × Int32 × Int32 × Int32 × (Nat → Int32) × Int32 × Int32 × Int32 × Int32 × Int32 × (Nat → Int32))) (k217 : Int32 → Int32 → (Nat → Int32) → Option (Int32 × (Nat → Int32) × (Nat → Int32) × (Nat → Int64) × (Nat → Int32) × (Nat → Int64) × Int32 × Int32 × Int32 × Int32 × Int32 × Int32 × Int32 × Int32 × (Nat → Int32) × Int32 × Int32 × Int32 × Int32 × Int32 × (Nat → Int32))) (v4 : Int32) (v6 : Int32) (ml : Nat → Int32) : Option (Int32 × (Nat → Int32) × (Nat → Int32) × (Nat → Int64) × (Nat → Int32) × (Nat → Int64) × Int32 × Int32 × Int32 × Int32 × Int32 × Int32 × Int32 × Int32 × (Nat → Int32) × Int32 × Int32 × Int32 × Int32 × Int32 × (Nat → Int32)) :=
  if v6 < mco then
    gd (inb v6 500) <|
    if (mn (ix v6)) = (lN 1) then
      p_X6_readPage_J249 v4 v6 v6 (nI 1) ml k217
    else
      p_X6_readPage_J249 v4 v6 v6 (nI 0) ml k217
  else
    k276 v4 ml
def p_X6_readPage (v1 : Int32) (v2 : Int32) (mm : Nat → Int32) (mt : Nat → Int32) (mv : Nat → Int64) (mx : Nat → Int32) (mf : Nat → Int32) (ms : Int32) (mn : Nat → Int64) (ma : Int32) (me : Int32) (mb : Int32) (mba : Int32) (mpg : Int32) (mdi : Int32) (mbl : Int32) (mby : Int32) (mw : Nat → Int32) (mz : Int32) (mso : Int32) (mbo : Int32) (mco : Int32) (mcd : Int32) (ml : Nat → Int32) : Option (Int32 × (Nat → Int32) × (Nat → Int32) × (Nat → Int64) × (Nat → Int32) × (Nat → Int64) × Int32 × Int32 × Int32 × Int32 × Int32 × Int32 × Int32 × Int32 × (Nat → Int32) × Int32 × Int32 × Int32 × Int32 × Int32 × (Nat → Int32)) :=
  bd10 (p_X6_readHead v1 mm mf ms ma me mb mba mdi mz mso mbo mco mcd) <| fun a_1 ma_2 me_3 mb_4 mba_5 mz_6 mso_7 mbo_8 mco_9 mcd_10 =>
  if a_1 = (nI 0) then
    some ((nI 0), mm, mt, mv, mx, mn, ma_2, me_3, mb_4, mba_5, mpg, mdi, mbl, mby, mw, mz_6, mso_7, mbo_8, mco_9, mcd_10, ml)
  else
    if ms < (ma_2 + mbo_8) then
      bd3 (p_X6_fails (nI 1) ms mb_4 mba_5) <| fun a_12 mb_13 mba_14 =>
      gd (isB a_12) <|
      some (a_12, mm, mt, mv, mx, mn, ma_2, me_3, mb_13, mba_14, mpg, mdi, mbl, mby, mw, mz_6, mso_7, mbo_8, mco_9, mcd_10, ml)
    else
      if mso_7 = (nI 2) then
        itr8 (p_X6_readPage_L62 v1 mf mn (ma_2 + mbo_8) mpg mdi mbl mby mw mz_6 mso_7 mbo_8 mco_9 mcd_10 ml (fun mm_26 mt_27 mv_28 mx_29 ma_30 mb_31 mba_32 =>
            bd3 (p_X6_isOver (ma_2 + mbo_8) ma_30 mb_31 mba_32) <| fun a_33 mb_34 mba_35 =>
            if a_33 = (nI 0) then
              some ((nI 0), mm_26, mt_27, mv_28, mx_29, mn, ma_30, (ma_2 + mbo_8), mb_34, mba_35, mpg, mco_9, mbl, mby, mw, mz_6, mso_7, mbo_8, mco_9, mcd_10, ml)
            else
              some ((nI 1), mm_26, mt_27, mv_28, mx_29, mn, ma_30, (ma_2 + mbo_8), mb_34, mba_35, (mpg + (nI 1)), mco_9, mbl, mby, mw, mz_6, mso_7, mbo_8, mco_9, mcd_10, ml))) fu (nI 0) mm mt mv mx ma_2 mb_4 mba_5
      else
        itr2 (p_X6_readPage_L127 mco_9 (fun ml_38 =>
            if v2 = (nI 0) then
              p_X6_readPage_J276 v1 (ma_2 + mbo_8) mco_9 mm mt mv mx mf mn ma_2 (ma_2 + mbo_8) mb_4 mba_5 mpg mdi mbl mby mw mz_6 mso_7 mbo_8 mco_9 mcd_10 ml_38
            else
              bd4 (p_X6_readLength (nI 12000) mf ma_2 (ma_2 + mbo_8) mb_4 mba_5) <| fun a_74 ma_75 mb_76 mba_77 =>
              if a_74 < (nI 0) then
                some ((nI 0), mm, mt, mv, mx, mn, ma_75, (ma_2 + mbo_8), mb_76, mba_77, mpg, mdi, mbl, mby, mw, mz_6, mso_7, mbo_8, mco_9, mcd_10, ml_38)
              else
                bd7 (p_X6_readRuns mco_9 (nI 1) mf mn ma_75 (ma_75 + a_74) mb_76 mba_77 mbl mby) <| fun a_79 mn_80 ma_81 mb_82 mba_83 mbl_84 mby_85 =>
                if a_79 = (nI 0) then
                  some ((nI 0), mm, mt, mv, mx, mn_80, ma_81, (ma_75 + a_74), mb_82, mba_83, mpg, mdi, mbl_84, mby_85, mw, mz_6, mso_7, mbo_8, mco_9, mcd_10, ml_38)
                else
                  bd3 (p_X6_isOver (ma_75 + a_74) ma_81 mb_82 mba_83) <| fun a_87 mb_88 mba_89 =>
                  if a_87 = (nI 0) then
                    some ((nI 0), mm, mt, mv, mx, mn_80, ma_81, (ma_75 + a_74), mb_88, mba_89, mpg, mdi, mbl_84, mby_85, mw, mz_6, mso_7, mbo_8, mco_9, mcd_10, ml_38)
                  else
                    itr3 (p_X6_readPage_L217 mn_80 mco_9 (fun v4_95 ml_96 =>
                        p_X6_readPage_J276 v1 (ma_2 + mbo_8) v4_95 mm mt mv mx mf mn_80 ma_81 (ma_2 + mbo_8) mb_88 mba_89 mpg mdi mbl_84 mby_85 mw mz_6 mso_7 mbo_8 mco_9 mcd_10 ml_96)) fu (nI 0) (nI 0) ml_38)) fu (nI 0) ml
def p_X6_read_L53 (v1 : Int32) (mk : Nat → Int32) (mo : Nat → Int32) (mf : Nat → Int32) (ms : Int32) (mr : Int32) (k91 : (Nat → Int32) → (Nat → Int32) → (Nat → Int64) → (Nat → Int32) → (Nat → Int64) → Int32 → Int32 → Int32 → Int32 → Int32 → Int32 → Int32 → Int32 → (Nat → Int32) → Int32 → Int32 → Int32 → Int32 → Int32 → (Nat → Int32) → Option (Int32 × (Nat → Int32) × (Nat → Int32) × (Nat → Int64) × (Nat → Int32) × (Nat → Int64) × Int32 × Int32 × Int32 × Int32 × Int32 × Int32 × Int32 × Int32 × (Nat → Int32) × Int32 × Int32 × Int32 × Int32 × Int32 × (Nat → Int32) × Int32)) (k53 : (Nat → Int32) → (Nat → Int32) → (Nat → Int64) → (Nat → Int32) → (Nat → Int64) → Int32 → Int32 → Int32 → Int32 → Int32 → Int32 → Int32 → Int32 → (Nat → Int32) → Int32 → Int32 → Int32 → Int32 → Int32 → (Nat → Int32) → Option (Int32 × (Nat → Int32) × (Nat → Int32) × (Nat → Int64) × (Nat → Int32) × (Nat → Int64) × Int32 × Int32 × Int32 × Int32 × Int32 × Int32 × Int32 × Int32 × (Nat → Int32) × Int32 × Int32 × Int32 × Int32 × Int32 × (Nat → Int32) × Int32)) (mm : Nat → Int32) (mt : Nat → Int32) (mv : Nat → Int64) (mx : Nat → Int32) (mn : Nat → Int64) (ma : Int32) (me : Int32) (mb : Int32) (mba : Int32) (mpg : Int32) (mdi : Int32) (mbl : Int32) (mby : Int32) (mw : Nat → Int32) (mz : Int32) (mso : Int32) (mbo : Int32) (mco : Int32) (mcd : Int32) (ml : Nat → Int32) : Option (Int32 × (Nat → Int32) × (Nat → Int32) × (Nat → Int64) × (Nat → Int32) × (Nat → Int64) × Int32 × Int32 × Int32 × Int32 × Int32 × Int32 × Int32 × Int32 × (Nat → Int32) × Int32 × Int32 × Int32 × Int32 × Int32 × (Nat → Int32) × Int32) :=
  if ma < ms then
    gd (inb v1 7) <|
    gd (inb v1 7) <|
    bd21 (p_X6_readPage (mk (ix v1)) (mo (ix v1)) mm mt mv mx mf ms mn ma me mb mba mpg mdi mbl mby mw mz mso mbo mco mcd ml) <| fun a_7 mm_8 mt_9 mv_10 mx_11 mn_12 ma_13 me_14 mb_15 mba_16 mpg_17 mdi_18 mbl_19 mby_20 mw_21 mz_22 mso_23 mbo_24 mco_25 mcd_26 ml_27 =>
    if a_7 = (nI 0) then
      some (((-10 : Int32) - mb_15), mm_8, mt_9, mv_10, mx_11, mn_12, ma_13, me_14, mb_15, mba_16, mpg_17, mdi_18, mbl_19, mby_20, mw_21, mz_22, mso_23, mbo_24, mco_25, mcd_26, ml_27, mr)
    else
      k53 mm_8 mt_9 mv_10 mx_11 mn_12 ma_13 me_14 mb_15 mba_16 mpg_17 mdi_18 mbl_19 mby_20 mw_21 mz_22 mso_23 mbo_24 mco_25 mcd_26 ml_27
  else
    k91 mm mt mv mx mn ma me mb mba mpg mdi mbl mby mw mz mso mbo mco mcd ml
def p_X6_read_L105 (v1 : Int32) (mm : Nat → Int32) (mn : Nat → Int64) (ma : Int32) (me : Int32) (mb : Int32) (mba : Int32) (mpg : Int32) (mdi : Int32) (mbl : Int32) (mby : Int32) (mw : Nat → Int32) (mz : Int32) (mso : Int32) (mbo : Int32) (mco : Int32) (mcd : Int32) (ml : Nat → Int32) (mr : Int32) (k105 : Int32 → (Nat → Int32) → (Nat → Int64) → (Nat → Int32) → Option (Int32 × (Nat → Int32) × (Nat → Int32) × (Nat → Int64) × (Nat → Int32) × (Nat → Int64) × Int32 × Int32 × Int32 × Int32 × Int32 × Int32 × Int32 × Int32 × (Nat → Int32) × Int32 × Int32 × Int32 × Int32 × Int32 × (Nat → Int32) × Int32)) (v2 : Int32) (mt : Nat → Int32) (mv : Nat → Int64) (mx : Nat → Int32) : Option (Int32 × (Nat → Int32) × (Nat → Int32) × (Nat → Int64) × (Nat → Int32) × (Nat → Int64) × Int32 × Int32 × Int32 × Int32 × Int32 × Int32 × Int32 × Int32 × (Nat → Int32) × Int32 × Int32 × Int32 × Int32 × Int32 × (Nat → Int32) × Int32) :=
  gd (inb (nI 4) 7) <|
  if v2 < (mm (ix (nI 4))) then
    bd3 (p_X6_copies (((nI 200) * v1) + v2) ((nI 800) + v2) mt mv mx) <| fun mt_52 mv_53 mx_54 =>
    k105 (v2 + (nI 1)) mt_52 mv_53 mx_54
  else
    gd (inb v1 7) <|
    some ((mm (ix v1)), mm, mt, mv, mx, mn, ma, me, mb, mba, mpg, mdi, mbl, mby, mw, mz, mso, mbo, mco, mcd, ml, mr)
def p_X6_read (v1 : Int32) (mk : Nat → Int32) (mo : Nat → Int32) (mm : Nat → Int32) (mt : Nat → Int32) (mv : Nat → Int64) (mx : Nat → Int32) (mf : Nat → Int32) (ms : Int32) (mn : Nat → Int64) (ma : Int32) (me : Int32) (mb : Int32) (mba : Int32) (mpg : Int32) (mdi : Int32) (mbl : Int32) (mby : Int32) (mw : Nat → Int32) (mz : Int32) (mso : Int32) (mbo : Int32) (mco : Int32) (mcd : Int32) (ml : Nat → Int32) (mr : Int32) : Option (Int32 × (Nat → Int32) × (Nat → Int32) × (Nat → Int64) × (Nat → Int32) × (Nat → Int64) × Int32 × Int32 × Int32 × Int32 × Int32 × Int32 × Int32 × Int32 × (Nat → Int32) × Int32 × Int32 × Int32 × Int32 × Int32 × (Nat → Int32) × Int32) :=
  bd1 (p_X6_isColumn v1) <| fun a_1 =>
  if a_1 = (nI 0) then
    some ((-1 : Int32), mm, mt, mv, mx, mn, ma, me, mb, mba, mpg, mdi, mbl, mby, mw, mz, mso, mbo, mco, mcd, ml, mr)
  else
    gd (inb (nI 4) 7) <|
    gd (inb (nI 5) 7) <|
    itr20 (p_X6_read_L53 v1 mk mo mf ms (nI 1) (fun mm_29 mt_30 mv_31 mx_32 mn_33 ma_34 me_35 mb_36 mba_37 mpg_38 mdi_39 mbl_40 mby_41 mw_42 mz_43 mso_44 mbo_45 mco_46 mcd_47 ml_48 =>
        gd (inb (nI 4) 7) <|
        gd (inb v1 7) <|
        itr4 (p_X6_read_L105 v1 (up mm_29 (ix v1) (mm_29 (ix (nI 4)))) mn_33 ma_34 me_35 mb_36 mba_37 mpg_38 mdi_39 mbl_40 mby_41 mw_42 mz_43 mso_44 mbo_45 mco_46 mcd_47 ml_48 (nI 1) ) fu (nI 0) mt_30 mv_31 mx_32)) fu (up (up mm (ix (nI 4)) (nI 0)) (ix (nI 5)) (nI 0)) mt mv mx mn (nI 0) me (nI 0) (nI 0) (nI 0) (-1 : Int32) mbl mby mw mz mso mbo mco mcd ml
def p_X6_fault (v1 : Int32) (mb : Int32) (mba : Int32) (mpg : Int32) (mdi : Int32) (mr : Int32) : Option (Int32) :=
  bd1 (p_X6_in (i2l v1) (lN 0) (lN 3)) <| fun a_1 =>
  if a_1 = (nI 0) then
    some ((-1 : Int32))
  else
    if mr = (nI 0) then
      some ((nI 0))
    else
      if v1 = (nI 0) then
        some (mb)
      else
        if v1 = (nI 1) then
          some (mba)
        else
          if v1 = (nI 2) then
            some (mpg)
          else
            if mdi < (nI 0) then
              some ((nI 0))
            else
              some (mdi)
def p_X6_size (ms : Int32) : Option (Int32) :=
  some (ms)
def p_X6_byteAt (v1 : Int32) (mf : Nat → Int32) (ms : Int32) : Option (Int32) :=
  bd1 (p_X6_in (i2l v1) (lN 0) (i2l (ms - (nI 1)))) <| fun a_1 =>
  if a_1 = (nI 0) then
    some ((-1 : Int32))
  else
    gd (inb v1 12000) <|
    some (((mf (ix v1)) &&& (nI 255)))
def p_X6_poke (v1 : Int32) (v2 : Int32) (mf : Nat → Int32) (ms : Int32) : Option (Int32 × (Nat → Int32)) :=
  bd1 (p_X6_in (i2l v1) (lN 0) (i2l (ms - (nI 1)))) <| fun a_1 =>
  if a_1 = (nI 0) then
    some ((-1 : Int32), mf)
  else
    gd (inb v1 12000) <|
    gd (inb v1 12000) <|
    gd (inb v1 12000) <|
    some ((((up mf (ix v1) (b8 ((mf (ix v1)) ^^^ v2))) (ix v1)) &&& (nI 255)), (up mf (ix v1) (b8 ((mf (ix v1)) ^^^ v2))))
def p_X6_cut (v1 : Int32) (ms : Int32) : Option (Int32 × Int32) :=
  bd1 (p_X6_in (i2l v1) (lN 0) (i2l ms)) <| fun a_1 =>
  if a_1 = (nI 0) then
    some ((-1 : Int32), ms)
  else
    some ((ms - v1), v1)
def p_X6_put_L32 (v1 : Int64) (v3 : Int32) (k32 : Int32 → (Nat → Int32) → Int32 → Option (Int32 × (Nat → Int32) × Int32)) (v4 : Int32) (mf : Nat → Int32) (ms : Int32) : Option (Int32 × (Nat → Int32) × Int32) :=
  if v4 < v3 then
    gd (inb ms 12000) <|
    k32 (v4 + (nI 1)) (up mf (ix ms) (b8 (l2i (lshr v1 ((nI 8) * v4))))) (ms + (nI 1))
  else
    some (ms, mf, ms)
def p_X6_put (v1 : Int64) (v3 : Int32) (mf : Nat → Int32) (ms : Int32) : Option (Int32 × (Nat → Int32) × Int32) :=
  bd1 (p_X6_in (i2l v3) (lN 1) (lN 8)) <| fun a_1 =>
  if a_1 = (nI 0) then
    some ((-1 : Int32), mf, ms)
  else
    if (nI 12000) < (ms + v3) then
      some ((-3 : Int32), mf, ms)
    else
      itr3 (p_X6_put_L32 v1 v3 ) fu (nI 0) mf ms
end
section
def p_X0_begin (v0 : Nat) (v1 : Int32) (v2 : Int32) (xk : Nat → Int32) (xo : Nat → Int32) (xc : Nat → Int32) : Option ((Nat → Int32) × (Nat → Int32) × (Nat → Int32)) :=
  gd (isB v2) <|
  some ((up xk v0 v1), (up xo v0 v2), (up xc v0 (nI 0)))
def p_X0_holds (v0 : Nat) (v1 : Int32) (xc : Nat → Int32) : Option (Int32) :=
  if v1 < (nI 0) then
    some ((nI 0))
  else
    if v1 < (xc v0) then
      if v1 < (nI 200) then
        some ((nI 1))
      else
        some ((nI 0))
    else
      some ((nI 0))
def p_X0_isThere (v0 : Nat) (v1 : Int32) (xt : Nat → Nat → Int32) : Option (Int32) :=
  if v1 < (nI 0) then
    some ((nI 0))
  else
    if v1 < (nI 200) then
      gd (inb v1 200) <|
      if (xt v0 (ix v1)) = (nI 0) then
        some ((nI 0))
      else
        some ((nI 1))
    else
      some ((nI 0))
def p_X0_numberAt (v0 : Nat) (v1 : Int32) (xn : Nat → Nat → Int64) : Option (Int64) :=
  if v1 < (nI 0) then
    some ((lN 0))
  else
    if v1 < (nI 200) then
      gd (inb v1 200) <|
      some ((xn v0 (ix v1)))
    else
      some ((lN 0))
def p_X0_letterAt (v0 : Nat) (v1 : Int32) (v2 : Int32) (xl : Nat → Nat → Int32) : Option (Int32) :=
  if v1 < (nI 0) then
    some ((nI 0))
  else
    if v1 < (nI 200) then
      if v2 < (nI 0) then
        some ((nI 0))
      else
        if v2 < (nI 40) then
          gd (inb ((v1 * (nI 40)) + v2) 8000) <|
          some (((xl v0 (ix ((v1 * (nI 40)) + v2))) &&& (nI 255)))
        else
          some ((nI 0))
    else
      some ((nI 0))
def p_X0_pushNumber_J68 (v0 : Nat) (s0 : Nat) (s1 : Int32) (s2 : Int32) (xc : Nat → Int32) (xt : Nat → Nat → Int32) (xn : Nat → Nat → Int64) : Option ((Nat → Int32) × (Nat → Nat → Int32) × (Nat → Nat → Int64)) :=
  gd (inb s1 200) <|
  some ((up xc v0 ((xc v0) + (nI 1))), xt, (up xn s0 (up (xn s0) (ix s1) (i2l s2))))
def p_X0_pushNumber (v0 : Nat) (v1 : Int64) (xk : Nat → Int32) (xc : Nat → Int32) (xt : Nat → Nat → Int32) (xn : Nat → Nat → Int64) : Option ((Nat → Int32) × (Nat → Nat → Int32) × (Nat → Nat → Int64)) :=
  if (xc v0) < (nI 0) then
    some (xc, xt, xn)
  else
    if (xc v0) < (nI 200) then
      gd (inb (xc v0) 200) <|
      if (xk v0) = (nI 0) then
        gd (inb (xc v0) 200) <|
        some ((up xc v0 ((xc v0) + (nI 1))), (up xt v0 (up (xt v0) (ix (xc v0)) (nI 1))), (up xn v0 (up (xn v0) (ix (xc v0)) (i2l (l2i v1)))))
      else
        if (xk v0) = (nI 3) then
          if v1 = (lN 0) then
            p_X0_pushNumber_J68 v0 v0 (xc v0) (nI 0) xc (up xt v0 (up (xt v0) (ix (xc v0)) (nI 1))) xn
          else
            p_X0_pushNumber_J68 v0 v0 (xc v0) (nI 1) xc (up xt v0 (up (xt v0) (ix (xc v0)) (nI 1))) xn
        else
          gd (inb (xc v0) 200) <|
          some ((up xc v0 ((xc v0) + (nI 1))), (up xt v0 (up (xt v0) (ix (xc v0)) (nI 1))), (up xn v0 (up (xn v0) (ix (xc v0)) v1)))
    else
      some (xc, xt, xn)
def p_X3_get (v0 : Nat) (v1 : Int32) (rc : Nat → Int32) (rb : Nat → Nat → Int32) : Option (Int32) :=
  if v1 < (nI 0) then
    some ((nI 0))
  else
    if v1 < (rc v0) then
      if v1 < (nI (rlen v0)) then
        gd (inb v1 (rlen v0)) <|
        some (((rb v0 (ix v1)) &&& (nI 255)))
      else
        some ((nI 0))
    else
      some ((nI 0))
def p_X0_pushText_L31 (v0 : Nat) (v1 : Nat) (v2 : Int32) (v3 : Int32) (xc : Nat → Int32) (rc : Nat → Int32) (rb : Nat → Nat → Int32) (k67 : (Nat → Nat → Int32) → Option ((Nat → Int32) × (Nat → Nat → Int32) × (Nat → Nat → Int64) × (Nat → Nat → Int32))) (k31 : Int32 → (Nat → Nat → Int32) → Option ((Nat → Int32) × (Nat → Nat → Int32) × (Nat → Nat → Int64) × (Nat → Nat → Int32))) (v4 : Int32) (xl : Nat → Nat → Int32) : Option ((Nat → Int32) × (Nat → Nat → Int32) × (Nat → Nat → Int64) × (Nat → Nat → Int32)) :=
  if v4 < v3 then
    bd1 (p_X3_get v1 (v2 + v4) rc rb) <| fun a_1 =>
    gd (inb (((xc v0) * (nI 40)) + v4) 8000) <|
    k31 (v4 + (nI 1)) (up xl v0 (up (xl v0) (ix (((xc v0) * (nI 40)) + v4)) (b8 a_1)))
  else
    k67 xl
def p_X0_pushText (v0 : Nat) (v1 : Nat) (v2 : Int32) (v3 : Int32) (xc : Nat → Int32) (xt : Nat → Nat → Int32) (xn : Nat → Nat → Int64) (xl : Nat → Nat → Int32) (rc : Nat → Int32) (rb : Nat → Nat → Int32) : Option ((Nat → Int32) × (Nat → Nat → Int32) × (Nat → Nat → Int64) × (Nat → Nat → Int32)) :=
  if (xc v0) < (nI 0) then
    some (xc, xt, xn, xl)
  else
    if (xc v0) < (nI 200) then
      if v3 < (nI 0) then
        some (xc, xt, xn, xl)
      else
        if (nI 40) < v3 then
          some (xc, xt, xn, xl)
        else
          itr2 (p_X0_pushText_L31 v0 v1 v2 v3 xc rc rb (fun xl_4 =>
              gd (inb (xc v0) 200) <|
              gd (inb (xc v0) 200) <|
              some ((up xc v0 ((xc v0) + (nI 1))), (up xt v0 (up (xt v0) (ix (xc v0)) (nI 1))), (up xn v0 (up (xn v0) (ix (xc v0)) (i2l v3))), xl_4))) fu (nI 0) xl
    else
      some (xc, xt, xn, xl)
def p_X0_setNone (v0 : Nat) (v1 : Int32) (xt : Nat → Nat → Int32) (xn : Nat → Nat → Int64) : Option ((Nat → Nat → Int32) × (Nat → Nat → Int64)) :=
  if v1 < (nI 0) then
    some (xt, xn)
  else
    if v1 < (nI 200) then
      gd (inb v1 200) <|
      gd (inb v1 200) <|
      some ((up xt v0 (up (xt v0) (ix v1) (nI 0))), (up xn v0 (up (xn v0) (ix v1) (lN 0))))
    else
      some (xt, xn)
def p_X0_pushNone (v0 : Nat) (xc : Nat → Int32) (xt : Nat → Nat → Int32) (xn : Nat → Nat → Int64) : Option ((Nat → Int32) × (Nat → Nat → Int32) × (Nat → Nat → Int64)) :=
  if (xc v0) < (nI 0) then
    some (xc, xt, xn)
  else
    if (xc v0) < (nI 200) then
      bd2 (p_X0_setNone v0 (xc v0) xt xn) <| fun xt_1 xn_2 =>
      some ((up xc v0 ((xc v0) + (nI 1))), xt_1, xn_2)
    else
      some (xc, xt, xn)
def p_X0_setCopy_L58 (v0 : Nat) (v1 : Int32) (v2 : Nat) (v3 : Int32) (xt : Nat → Nat → Int32) (xn : Nat → Nat → Int64) (k58 : Int32 → (Nat → Nat → Int32) → Option ((Nat → Nat → Int32) × (Nat → Nat → Int64) × (Nat → Nat → Int32))) (v4 : Int32) (xl : Nat → Nat → Int32) : Option ((Nat → Nat → Int32) × (Nat → Nat → Int64) × (Nat → Nat → Int32)) :=
  if v4 < (nI 40) then
    gd (inb v1 200) <|
    if (i2l v4) < (xn v0 (ix v1)) then
      gd (inb ((v3 * (nI 40)) + v4) 8000) <|
      gd (inb ((v1 * (nI 40)) + v4) 8000) <|
      k58 (v4 + (nI 1)) (up xl v0 (up (xl v0) (ix ((v1 * (nI 40)) + v4)) (b8 (xl v2 (ix ((v3 * (nI 40)) + v4))))))
    else
      some (xt, xn, xl)
  else
    some (xt, xn, xl)
def p_X0_setCopy (v0 : Nat) (v1 : Int32) (v2 : Nat) (v3 : Int32) (xk : Nat → Int32) (xt : Nat → Nat → Int32) (xn : Nat → Nat → Int64) (xl : Nat → Nat → Int32) : Option ((Nat → Nat → Int32) × (Nat → Nat → Int64) × (Nat → Nat → Int32)) :=
  if v1 < (nI 0) then
    some (xt, xn, xl)
  else
    if v1 < (nI 200) then
      if v3 < (nI 0) then
        some (xt, xn, xl)
      else
        if v3 < (nI 200) then
          gd (inb v3 200) <|
          gd (inb v1 200) <|
          gd (isB (xt v2 (ix v3))) <|
          gd (inb v3 200) <|
          gd (inb v1 200) <|
          if (xk v0) = (nI 2) then
            itr2 (p_X0_setCopy_L58 v0 v1 v2 v3 (up xt v0 (up (xt v0) (ix v1) (xt v2 (ix v3)))) (up xn v0 (up (xn v0) (ix v1) (xn v2 (ix v3)))) ) fu (nI 0) xl
          else
            some ((up xt v0 (up (xt v0) (ix v1) (xt v2 (ix v3)))), (up xn v0 (up (xn v0) (ix v1) (xn v2 (ix v3)))), xl)
        else
          some (xt, xn, xl)
    else
      some (xt, xn, xl)
def p_X0_pushCopy (v0 : Nat) (v1 : Nat) (v2 : Int32) (xk : Nat → Int32) (xc : Nat → Int32) (xt : Nat → Nat → Int32) (xn : Nat → Nat → Int64) (xl : Nat → Nat → Int32) : Option ((Nat → Int32) × (Nat → Nat → Int32) × (Nat → Nat → Int64) × (Nat → Nat → Int32)) :=
  if (xc v0) < (nI 0) then
    some (xc, xt, xn, xl)
  else
    if (xc v0) < (nI 200) then
      bd3 (p_X0_setCopy v0 (xc v0) v1 v2 xk xt xn xl) <| fun xt_1 xn_2 xl_3 =>
      some ((up xc v0 ((xc v0) + (nI 1))), xt_1, xn_2, xl_3)
    else
      some (xc, xt, xn, xl)
def p_X0_multiply_L13 (v0 : Nat) (v2 : Int32) (v3 : Int32) (xk : Nat → Int32) (k36 : (Nat → Nat → Int32) → (Nat → Nat → Int64) → (Nat → Nat → Int32) → Option ((Nat → Int32) × (Nat → Nat → Int32) × (Nat → Nat → Int64) × (Nat → Nat → Int32))) (k13 : Int32 → (Nat → Nat → Int32) → (Nat → Nat → Int64) → (Nat → Nat → Int32) → Option ((Nat → Int32) × (Nat → Nat → Int32) × (Nat → Nat → Int64) × (Nat → Nat → Int32))) (v4 : Int32) (xt : Nat → Nat → Int32) (xn : Nat → Nat → Int64) (xl : Nat → Nat → Int32) : Option ((Nat → Int32) × (Nat → Nat → Int32) × (Nat → Nat → Int64) × (Nat → Nat → Int32)) :=
  if v4 < (nI 0) then
    k36 xt xn xl
  else
    bd3 (p_X0_setCopy v0 ((v3 * v2) + v4) v0 v3 xk xt xn xl) <| fun xt_1 xn_2 xl_3 =>
    k13 (v4 + (-1 : Int32)) xt_1 xn_2 xl_3
def p_X0_multiply_L4 (v0 : Nat) (v1 : Int32) (v2 : Int32) (xk : Nat → Int32) (xc : Nat → Int32) (k4 : Int32 → (Nat → Nat → Int32) → (Nat → Nat → Int64) → (Nat → Nat → Int32) → Option ((Nat → Int32) × (Nat → Nat → Int32) × (Nat → Nat → Int64) × (Nat → Nat → Int32))) (v3 : Int32) (xt : Nat → Nat → Int32) (xn : Nat → Nat → Int64) (xl : Nat → Nat → Int32) : Option ((Nat → Int32) × (Nat → Nat → Int32) × (Nat → Nat → Int64) × (Nat → Nat → Int32)) :=
  if v3 < (nI 0) then
    some ((up xc v0 (v1 * v2)), xt, xn, xl)
  else
    itr4 (p_X0_multiply_L13 v0 v2 v3 xk (fun xt_5 xn_6 xl_7 =>
        k4 (v3 + (-1 : Int32)) xt_5 xn_6 xl_7)) fu (v2 - (nI 1)) xt xn xl
def p_X0_multiply (v0 : Nat) (v1 : Int32) (v2 : Int32) (xk : Nat → Int32) (xc : Nat → Int32) (xt : Nat → Nat → Int32) (xn : Nat → Nat → Int64) (xl : Nat → Nat → Int32) : Option ((Nat → Int32) × (Nat → Nat → Int32) × (Nat → Nat → Int64) × (Nat → Nat → Int32)) :=
  itr4 (p_X0_multiply_L4 v0 v1 v2 xk xc ) fu (v1 - (nI 1)) xt xn xl
def p_X0_spread_L11 (v0 : Nat) (v1 : Int32) (v2 : Int32) (v3 : Nat) (xk : Nat → Int32) (xc : Nat → Int32) (la : Nat → Nat → Int64) (k11 : Int32 → Int32 → (Nat → Nat → Int32) → (Nat → Nat → Int64) → (Nat → Nat → Int32) → Option ((Nat → Int32) × (Nat → Nat → Int32) × (Nat → Nat → Int64) × (Nat → Nat → Int32))) (v4 : Int32) (v5 : Int32) (xt : Nat → Nat → Int32) (xn : Nat → Nat → Int64) (xl : Nat → Nat → Int32) : Option ((Nat → Int32) × (Nat → Nat → Int32) × (Nat → Nat → Int64) × (Nat → Nat → Int32)) :=
  if v5 < (nI 0) then
    some ((up xc v0 (imin (v1 + v2) (nI 200))), xt, xn, xl)
  else
    if v5 < (nI 200) then
      gd (inb v5 200) <|
      if (la v3 (ix v5)) = (lN 0) then
        bd2 (p_X0_setNone v0 (v1 + v5) xt xn) <| fun xt_2 xn_3 =>
        k11 v4 (v5 + (-1 : Int32)) xt_2 xn_3 xl
      else
        bd3 (p_X0_setCopy v0 (v1 + v5) v0 (v4 + (-1 : Int32)) xk xt xn xl) <| fun xt_5 xn_6 xl_7 =>
        k11 (v4 + (-1 : Int32)) (v5 + (-1 : Int32)) xt_5 xn_6 xl_7
    else
      bd2 (p_X0_setNone v0 (v1 + v5) xt xn) <| fun xt_9 xn_10 =>
      k11 v4 (v5 + (-1 : Int32)) xt_9 xn_10 xl
def p_X0_spread (v0 : Nat) (v1 : Int32) (v2 : Int32) (v3 : Nat) (xk : Nat → Int32) (xc : Nat → Int32) (xt : Nat → Nat → Int32) (xn : Nat → Nat → Int64) (xl : Nat → Nat → Int32) (la : Nat → Nat → Int64) : Option ((Nat → Int32) × (Nat → Nat → Int32) × (Nat → Nat → Int64) × (Nat → Nat → Int32)) :=
  itr5 (p_X0_spread_L11 v0 v1 v2 v3 xk xc la ) fu (xc v0) (v2 - (nI 1)) xt xn xl
def p_X0_become_L14 (v0 : Nat) (v1 : Nat) (xk : Nat → Int32) (xo : Nat → Int32) (k14 : Int32 → (Nat → Int32) → (Nat → Nat → Int32) → (Nat → Nat → Int64) → (Nat → Nat → Int32) → Option ((Nat → Int32) × (Nat → Int32) × (Nat → Int32) × (Nat → Nat → Int32) × (Nat → Nat → Int64) × (Nat → Nat → Int32))) (v2 : Int32) (xc : Nat → Int32) (xt : Nat → Nat → Int32) (xn : Nat → Nat → Int64) (xl : Nat → Nat → Int32) : Option ((Nat → Int32) × (Nat → Int32) × (Nat → Int32) × (Nat → Nat → Int32) × (Nat → Nat → Int64) × (Nat → Nat → Int32)) :=
  if v2 < (xc v1) then
    bd4 (p_X0_pushCopy v0 v1 v2 xk xc xt xn xl) <| fun xc_5 xt_6 xn_7 xl_8 =>
    k14 (v2 + (nI 1)) xc_5 xt_6 xn_7 xl_8
  else
    some (xk, xo, xc, xt, xn, xl)
def p_X0_become (v0 : Nat) (v1 : Nat) (xk : Nat → Int32) (xo : Nat → Int32) (xc : Nat → Int32) (xt : Nat → Nat → Int32) (xn : Nat → Nat → Int64) (xl : Nat → Nat → Int32) : Option ((Nat → Int32) × (Nat → Int32) × (Nat → Int32) × (Nat → Nat → Int32) × (Nat → Nat → Int64) × (Nat → Nat → Int32)) :=
  bd3 (p_X0_begin v0 (xk v1) (xo v1) xk xo xc) <| fun xk_1 xo_2 xc_3 =>
  itr5 (p_X0_become_L14 v0 v1 xk_1 xo_2 ) fu (nI 0) xc_3 xt xn xl
def p_X0_isSame_L49 (v0 : Nat) (v1 : Int32) (v2 : Nat) (v3 : Int32) (v4 : Int64) (xl : Nat → Nat → Int32) (k49 : Int32 → Option (Int32)) (v6 : Int32) : Option (Int32) :=
  if v6 < (nI 40) then
    if (i2l v6) < v4 then
      bd1 (p_X0_letterAt v0 v1 v6 xl) <| fun a_11 =>
      bd1 (p_X0_letterAt v2 v3 v6 xl) <| fun a_13 =>
      if a_11 = a_13 then
        k49 (v6 + (nI 1))
      else
        some ((nI 0))
    else
      some ((nI 1))
  else
    some ((nI 1))
def p_X0_isSame (v0 : Nat) (v1 : Int32) (v2 : Nat) (v3 : Int32) (xk : Nat → Int32) (xt : Nat → Nat → Int32) (xn : Nat → Nat → Int64) (xl : Nat → Nat → Int32) : Option (Int32) :=
  bd1 (p_X0_isThere v0 v1 xt) <| fun a_1 =>
  bd1 (p_X0_isThere v2 v3 xt) <| fun a_3 =>
  if a_1 = a_3 then
    bd1 (p_X0_numberAt v0 v1 xn) <| fun a_5 =>
    bd1 (p_X0_numberAt v2 v3 xn) <| fun a_7 =>
    if a_5 = a_7 then
      if (xk v0) = (nI 2) then
        bd1 (p_X0_numberAt v0 v1 xn) <| fun a_9 =>
        itr1 (p_X0_isSame_L49 v0 v1 v2 v3 a_9 xl ) fu (nI 0)
      else
        some ((nI 1))
    else
      some ((nI 0))
  else
    some ((nI 0))
def p_X0_isLike_L26 (v0 : Nat) (v1 : Nat) (xk : Nat → Int32) (xc : Nat → Int32) (xt : Nat → Nat → Int32) (xn : Nat → Nat → Int64) (xl : Nat → Nat → Int32) (k26 : Int32 → Option (Int32)) (v2 : Int32) : Option (Int32) :=
  if v2 < (xc v0) then
    bd1 (p_X0_isSame v0 v2 v1 v2 xk xt xn xl) <| fun a_1 =>
    if a_1 = (nI 0) then
      some ((nI 0))
    else
      k26 (v2 + (nI 1))
  else
    some ((nI 1))
def p_X0_isLike (v0 : Nat) (v1 : Nat) (xk : Nat → Int32) (xc : Nat → Int32) (xt : Nat → Nat → Int32) (xn : Nat → Nat → Int64) (xl : Nat → Nat → Int32) : Option (Int32) :=
  if (xk v0) = (xk v1) then
    if (xc v0) = (xc v1) then
      itr1 (p_X0_isLike_L26 v0 v1 xk xc xt xn xl ) fu (nI 0)
    else
      some ((nI 0))
  else
    some ((nI 0))
def p_X0_firstLike_L2 (v0 : Nat) (v1 : Int32) (xk : Nat → Int32) (xt : Nat → Nat → Int32) (xn : Nat → Nat → Int64) (xl : Nat → Nat → Int32) (k2 : Int32 → Option (Int32)) (v2 : Int32) : Option (Int32) :=
  if v2 < v1 then
    bd1 (p_X0_isSame v0 v2 v0 v1 xk xt xn xl) <| fun a_1 =>
    if a_1 = (nI 0) then
      k2 (v2 + (nI 1))
    else
      some (v2)
  else
    some (v1)
def p_X0_firstLike (v0 : Nat) (v1 : Int32) (xk : Nat → Int32) (xt : Nat → Nat → Int32) (xn : Nat → Nat → Int64) (xl : Nat → Nat → Int32) : Option (Int32) :=
  itr1 (p_X0_firstLike_L2 v0 v1 xk xt xn xl ) fu (nI 0)
def p_X0_countAbsent_L4 (v0 : Nat) (xc : Nat → Int32) (xt : Nat → Nat → Int32) (k4 : Int32 → Int32 → Option (Int32)) (v1 : Int32) (v2 : Int32) : Option (Int32) :=
  if v2 < (xc v0) then
    bd1 (p_X0_isThere v0 v2 xt) <| fun a_1 =>
    if a_1 = (nI 0) then
      k4 (v1 + (nI 1)) (v2 + (nI 1))
    else
      k4 (v1 + (nI 0)) (v2 + (nI 1))
  else
    some (v1)
def p_X0_countAbsent (v0 : Nat) (xc : Nat → Int32) (xt : Nat → Nat → Int32) : Option (Int32) :=
  itr2 (p_X0_countAbsent_L4 v0 xc xt ) fu (nI 0) (nI 0)
def p_X0_countUnlike_L4 (v0 : Nat) (xk : Nat → Int32) (xc : Nat → Int32) (xt : Nat → Nat → Int32) (xn : Nat → Nat → Int64) (xl : Nat → Nat → Int32) (k4 : Int32 → Int32 → Option (Int32)) (v1 : Int32) (v2 : Int32) : Option (Int32) :=
  if v2 < (xc v0) then
    bd1 (p_X0_isThere v0 v2 xt) <| fun a_1 =>
    if a_1 = (nI 0) then
      k4 (v1 + (nI 0)) (v2 + (nI 1))
    else
      bd1 (p_X0_firstLike v0 v2 xk xt xn xl) <| fun a_3 =>
      if a_3 = v2 then
        k4 (v1 + (nI 1)) (v2 + (nI 1))
      else
        k4 (v1 + (nI 0)) (v2 + (nI 1))
  else
    some (v1)
def p_X0_countUnlike (v0 : Nat) (xk : Nat → Int32) (xc : Nat → Int32) (xt : Nat → Nat → Int32) (xn : Nat → Nat → Int64) (xl : Nat → Nat → Int32) : Option (Int32) :=
  itr2 (p_X0_countUnlike_L4 v0 xk xc xt xn xl ) fu (nI 0) (nI 0)
def p_X4_isSound (str : Int32) : Option (Int32) :=
  if str = (nI 0) then
    some ((nI 1))
  else
    some ((nI 0))
def p_X1_countOnes_L4 (v1 : Int32) (la : Nat → Nat → Int64) (str : Int32) (k4 : Int32 → Int32 → Option (Int32)) (v2 : Int32) (v3 : Int32) : Option (Int32) :=
  if v3 < v1 then
    if v3 < (nI 200) then
      bd1 (p_X4_isSound str) <| fun a_1 =>
      if a_1 = (nI 0) then
        k4 (v2 + (nI 0)) (v3 + (nI 1))
      else
        gd (inb v3 200) <|
        if (la 1 (ix v3)) = (lN 0) then
          k4 (v2 + (nI 0)) (v3 + (nI 1))
        else
          k4 (v2 + (nI 1)) (v3 + (nI 1))
    else
      some (v2)
  else
    some (v2)
def p_X1_countOnes (v1 : Int32) (la : Nat → Nat → Int64) (str : Int32) : Option (Int32) :=
  itr2 (p_X1_countOnes_L4 v1 la str ) fu (nI 0) (nI 0)
def p_X1_pushNumbers_L2 (v1 : Int32) (xk : Nat → Int32) (la : Nat → Nat → Int64) (str : Int32) (k2 : Int32 → (Nat → Int32) → (Nat → Nat → Int32) → (Nat → Nat → Int64) → Option ((Nat → Int32) × (Nat → Nat → Int32) × (Nat → Nat → Int64))) (v2 : Int32) (xc : Nat → Int32) (xt : Nat → Nat → Int32) (xn : Nat → Nat → Int64) : Option ((Nat → Int32) × (Nat → Nat → Int32) × (Nat → Nat → Int64)) :=
  if v2 < v1 then
    if v2 < (nI 200) then
      bd1 (p_X4_isSound str) <| fun a_1 =>
      if a_1 = (nI 0) then
        some (xc, xt, xn)
      else
        gd (inb v2 200) <|
        bd3 (p_X0_pushNumber 4 (la 2 (ix v2)) xk xc xt xn) <| fun xc_4 xt_5 xn_6 =>
        k2 (v2 + (nI 1)) xc_4 xt_5 xn_6
    else
      some (xc, xt, xn)
  else
    some (xc, xt, xn)
def p_X1_pushNumbers (v1 : Int32) (xk : Nat → Int32) (xc : Nat → Int32) (xt : Nat → Nat → Int32) (xn : Nat → Nat → Int64) (la : Nat → Nat → Int64) (str : Int32) : Option ((Nat → Int32) × (Nat → Nat → Int32) × (Nat → Nat → Int64)) :=
  itr4 (p_X1_pushNumbers_L2 v1 xk la str ) fu (nI 0) xc xt xn
def p_X4_demand (v1 : Int32) (v2 : Int32) (v3 : Int32) (str : Int32) (stp : Int32) : Option (Int32 × Int32) :=
  if str = (nI 0) then
    if v1 = (nI 0) then
      some (v2, v3)
    else
      some (str, stp)
  else
    some (str, stp)
def p_X4_left (ssp : Int32) (sen : Int32) : Option (Int32) :=
  some ((sen - ssp))
def p_X4_next_J49 (ssp : Int32) : Option (Int32 × Int32 × Int32 × Int32) :=
  some ((nI 0), ssp, (nI 1), ssp)
def p_X4_next (rb : Nat → Nat → Int32) (srow : Option Nat) (ssp : Int32) (sen : Int32) (str : Int32) (stp : Int32) : Option (Int32 × Int32 × Int32 × Int32) :=
  if str = (nI 0) then
    mo srow
      (
        some ((nI 0), ssp, str, stp))
      (fun o_1 => gd (decide (o_1 < 4)) <|
        if ssp < (nI 0) then
          p_X4_next_J49 ssp
        else
          if ssp < sen then
            if ssp < (nI (rlen o_1)) then
              gd (inb ssp (rlen o_1)) <|
              some (((rb o_1 (ix ssp)) &&& (nI 255)), (ssp + (nI 1)), str, stp)
            else
              p_X4_next_J49 ssp
          else
            p_X4_next_J49 ssp)
  else
    some ((nI 0), ssp, str, stp)
def p_X4_nextPacked_J53 (v6 : Int32) (v7 : Int32) (v9 : Int64) (v11 : Int32) (ssp : Int32) (str : Int32) (stp : Int32) (k31 : Int32 → Int32 → Int64 → Int32 → Int32 → Int32 → Int32 → Option ((Nat → Nat → Int64) × Int32 × Int32 × Int32)) : Option ((Nat → Nat → Int64) × Int32 × Int32 × Int32) :=
  k31 (ishr v6 (nI 1)) (v7 + (-1 : Int32)) (v9 ||| (lshl (i2l (v6 &&& (nI 1))) v11)) (v11 + (nI 1)) ssp str stp
def p_X4_nextPacked_L31 (v5 : Int32) (rb : Nat → Nat → Int32) (srow : Option Nat) (sen : Int32) (k81 : Int32 → Int32 → Int64 → Int32 → Int32 → Int32 → Option ((Nat → Nat → Int64) × Int32 × Int32 × Int32)) (k31 : Int32 → Int32 → Int64 → Int32 → Int32 → Int32 → Int32 → Option ((Nat → Nat → Int64) × Int32 × Int32 × Int32)) (v6 : Int32) (v7 : Int32) (v9 : Int64) (v11 : Int32) (ssp : Int32) (str : Int32) (stp : Int32) : Option ((Nat → Nat → Int64) × Int32 × Int32 × Int32) :=
  if v11 < v5 then
    if v7 = (nI 0) then
      bd4 (p_X4_next rb srow ssp sen str stp) <| fun a_1 ssp_2 str_3 stp_4 =>
      p_X4_nextPacked_J53 a_1 (nI 8) v9 v11 ssp_2 str_3 stp_4 k31
    else
      p_X4_nextPacked_J53 v6 v7 v9 v11 ssp str stp k31
  else
    k81 v6 v7 v9 ssp str stp
def p_X4_nextPacked_L9 (v1 : Nat) (v2 : Int32) (v3 : Int32) (v4 : Int32) (v5 : Int32) (rb : Nat → Nat → Int32) (srow : Option Nat) (sen : Int32) (k9 : Int32 → Int32 → Int32 → (Nat → Nat → Int64) → Int32 → Int32 → Int32 → Option ((Nat → Nat → Int64) × Int32 × Int32 × Int32)) (v6 : Int32) (v7 : Int32) (v8 : Int32) (la : Nat → Nat → Int64) (ssp : Int32) (str : Int32) (stp : Int32) : Option ((Nat → Nat → Int64) × Int32 × Int32 × Int32) :=
  if v8 < (v2 + v4) then
    if str = (nI 0) then
      itr7 (p_X4_nextPacked_L31 v5 rb srow sen (fun v6_6 v7_7 v9_8 ssp_9 str_10 stp_11 =>
          if v8 < (nI 0) then
            k9 v6_6 v7_7 (v8 + (nI 1)) la ssp_9 str_10 stp_11
          else
            if v8 < v3 then
              if v8 < (nI 200) then
                gd (inb v8 200) <|
                k9 v6_6 v7_7 (v8 + (nI 1)) (up la v1 (up (la v1) (ix v8) v9_8)) ssp_9 str_10 stp_11
              else
                k9 v6_6 v7_7 (v8 + (nI 1)) la ssp_9 str_10 stp_11
            else
              k9 v6_6 v7_7 (v8 + (nI 1)) la ssp_9 str_10 stp_11)) fu v6 v7 (lN 0) (nI 0) ssp str stp
    else
      some (la, ssp, str, stp)
  else
    some (la, ssp, str, stp)
def p_X4_nextPacked (v1 : Nat) (v2 : Int32) (v3 : Int32) (v4 : Int32) (v5 : Int32) (rb : Nat → Nat → Int32) (la : Nat → Nat → Int64) (srow : Option Nat) (ssp : Int32) (sen : Int32) (str : Int32) (stp : Int32) : Option ((Nat → Nat → Int64) × Int32 × Int32 × Int32) :=
  itr7 (p_X4_nextPacked_L9 v1 v2 v3 v4 v5 rb srow sen ) fu (nI 0) (nI 0) v2 la ssp str stp
def p_X4_nextVar_J58 (v1 : Int64) (v3 : Int32) (v4 : Int32) (ssp : Int32) (str : Int32) (stp : Int32) (k4 : Int64 → Int32 → Int32 → Int32 → Int32 → Option (Int64 × Int32 × Int32 × Int32)) : Option (Int64 × Int32 × Int32 × Int32) :=
  if v4 < (nI 128) then
    some (v1, ssp, str, stp)
  else
    k4 v1 (v3 + (nI 1)) ssp str stp
def p_X4_nextVar_J48 (v1 : Int64) (v3 : Int32) (v4 : Int32) (s1 : Int32) (ssp : Int32) (str : Int32) (stp : Int32) (k4 : Int64 → Int32 → Int32 → Int32 → Int32 → Option (Int64 × Int32 × Int32 × Int32)) : Option (Int64 × Int32 × Int32 × Int32) :=
  bd2 (p_X4_demand s1 (nI 2) (ssp - (nI 1)) str stp) <| fun str_6 stp_7 =>
  p_X4_nextVar_J58 v1 v3 v4 ssp str_6 stp_7 k4
def p_X4_nextVar_L4 (rb : Nat → Nat → Int32) (srow : Option Nat) (sen : Int32) (k4 : Int64 → Int32 → Int32 → Int32 → Int32 → Option (Int64 × Int32 × Int32 × Int32)) (v1 : Int64) (v3 : Int32) (ssp : Int32) (str : Int32) (stp : Int32) : Option (Int64 × Int32 × Int32 × Int32) :=
  if v3 < (nI 10) then
    bd4 (p_X4_next rb srow ssp sen str stp) <| fun a_1 ssp_2 str_3 stp_4 =>
    if v3 = (nI 9) then
      if (nI 1) < a_1 then
        p_X4_nextVar_J48 (v1 ||| (lshl (i2l (a_1 &&& (nI 127))) ((nI 7) * v3))) v3 a_1 (nI 0) ssp_2 str_3 stp_4 k4
      else
        p_X4_nextVar_J48 (v1 ||| (lshl (i2l (a_1 &&& (nI 127))) ((nI 7) * v3))) v3 a_1 (nI 1) ssp_2 str_3 stp_4 k4
    else
      p_X4_nextVar_J58 (v1 ||| (lshl (i2l (a_1 &&& (nI 127))) ((nI 7) * v3))) v3 a_1 ssp_2 str_3 stp_4 k4
  else
    some (v1, ssp, str, stp)
def p_X4_nextVar (rb : Nat → Nat → Int32) (srow : Option Nat) (ssp : Int32) (sen : Int32) (str : Int32) (stp : Int32) : Option (Int64 × Int32 × Int32 × Int32) :=
  itr5 (p_X4_nextVar_L4 rb srow sen ) fu (lN 0) (nI 0) ssp str stp
def p_X4_nextWidths_J43 (v3 : Int32) (v4 : Int32) (v5 : Int32) (s1 : Int32) (ssp : Int32) (str : Int32) (stp : Int32) (swd : Nat → Int32) (k2 : Int32 → Int32 → Int32 → Int32 → (Nat → Int32) → Option (Int32 × Int32 × Int32 × (Nat → Int32))) : Option (Int32 × Int32 × Int32 × (Nat → Int32)) :=
  bd2 (p_X4_demand s1 (nI 6) v4 str stp) <| fun str_6 stp_7 =>
  if str_6 = (nI 0) then
    gd (inb v3 4) <|
    k2 (v3 + (nI 1)) ssp str_6 stp_7 (up swd (ix v3) v5)
  else
    gd (inb v3 4) <|
    k2 (v3 + (nI 1)) ssp str_6 stp_7 (up swd (ix v3) (nI 0))
def p_X4_nextWidths_J35 (v3 : Int32) (v4 : Int32) (v5 : Int32) (s1 : Int32) (s2 : Int32) (ssp : Int32) (str : Int32) (stp : Int32) (swd : Nat → Int32) (k2 : Int32 → Int32 → Int32 → Int32 → (Nat → Int32) → Option (Int32 × Int32 × Int32 × (Nat → Int32))) : Option (Int32 × Int32 × Int32 × (Nat → Int32)) :=
  if s2 < s1 then
    p_X4_nextWidths_J43 v3 v4 v5 (nI 0) ssp str stp swd k2
  else
    p_X4_nextWidths_J43 v3 v4 v5 (nI 1) ssp str stp swd k2
def p_X4_nextWidths_L2 (v1 : Int32) (v2 : Int32) (rb : Nat → Nat → Int32) (srow : Option Nat) (sen : Int32) (k2 : Int32 → Int32 → Int32 → Int32 → (Nat → Int32) → Option (Int32 × Int32 × Int32 × (Nat → Int32))) (v3 : Int32) (ssp : Int32) (str : Int32) (stp : Int32) (swd : Nat → Int32) : Option (Int32 × Int32 × Int32 × (Nat → Int32)) :=
  if v3 < (nI 4) then
    bd4 (p_X4_next rb srow ssp sen str stp) <| fun a_1 ssp_2 str_3 stp_4 =>
    if (v3 * (nI 32)) < v1 then
      p_X4_nextWidths_J35 v3 ssp a_1 a_1 v2 ssp_2 str_3 stp_4 swd k2
    else
      p_X4_nextWidths_J35 v3 ssp a_1 a_1 (nI 0) ssp_2 str_3 stp_4 swd k2
  else
    some (ssp, str, stp, swd)
def p_X4_nextWidths (v1 : Int32) (v2 : Int32) (rb : Nat → Nat → Int32) (srow : Option Nat) (ssp : Int32) (sen : Int32) (str : Int32) (stp : Int32) (swd : Nat → Int32) : Option (Int32 × Int32 × Int32 × (Nat → Int32)) :=
  itr5 (p_X4_nextWidths_L2 v1 v2 rb srow sen ) fu (nI 0) ssp str stp swd
def p_X5_unzigged (v0 : Int64) : Option (Int64) :=
  some (((lushr v0 (nI 1)) ^^^ (-(v0 &&& (lN 1)))))
def p_X4_nextDifferences_L168 (v1 : Nat) (v7 : Int32) (v8 : Int32) (rb : Nat → Nat → Int32) (srow : Option Nat) (sen : Int32) (swd : Nat → Int32) (k217 : (Nat → Nat → Int64) → Int32 → Int32 → Int32 → Option ((Nat → Nat → Int64) × Int32 × Int32 × Int32 × (Nat → Int32))) (k168 : Int32 → (Nat → Nat → Int64) → Int32 → Int32 → Int32 → Option ((Nat → Nat → Int64) × Int32 × Int32 × Int32 × (Nat → Int32))) (v11 : Int32) (la : Nat → Nat → Int64) (ssp : Int32) (str : Int32) (stp : Int32) : Option ((Nat → Nat → Int64) × Int32 × Int32 × Int32 × (Nat → Int32)) :=
  if v11 < (nI 4) then
    if (v7 + (v11 * (nI 32))) < v8 then
      gd (inb v11 4) <|
      bd4 (p_X4_nextPacked v1 (v7 + (v11 * (nI 32))) v8 (nI 32) (swd (ix v11)) rb la srow ssp sen str stp) <| fun la_46 ssp_47 str_48 stp_49 =>
      k168 (v11 + (nI 1)) la_46 ssp_47 str_48 stp_49
    else
      k217 la ssp str stp
  else
    k217 la ssp str stp
def p_X4_nextDifferences_L221 (v1 : Nat) (v3 : Int32) (v8 : Int32) (v9 : Int64) (k274 : (Nat → Nat → Int64) → Option ((Nat → Nat → Int64) × Int32 × Int32 × Int32 × (Nat → Int32))) (k221 : Int32 → (Nat → Nat → Int64) → Option ((Nat → Nat → Int64) × Int32 × Int32 × Int32 × (Nat → Int32))) (v11 : Int32) (la : Nat → Nat → Int64) : Option ((Nat → Nat → Int64) × Int32 × Int32 × Int32 × (Nat → Int32)) :=
  if v11 < v8 then
    if v11 < (nI 200) then
      gd (inb (v11 - (nI 1)) 200) <|
      gd (inb v11 200) <|
      if v3 = (nI 0) then
        gd (inb v11 200) <|
        k221 (v11 + (nI 1)) (up la v1 (up (la v1) (ix v11) (((la v1 (ix (v11 - (nI 1)))) + v9) + (la v1 (ix v11)))))
      else
        gd (inb v11 200) <|
        k221 (v11 + (nI 1)) (up la v1 (up (la v1) (ix v11) (i2l (l2i (((la v1 (ix (v11 - (nI 1)))) + v9) + (la v1 (ix v11)))))))
    else
      k274 la
  else
    k274 la
def p_X4_nextDifferences_L111 (v1 : Nat) (v2 : Int32) (v3 : Int32) (rb : Nat → Nat → Int32) (srow : Option Nat) (sen : Int32) (k111 : Int32 → (Nat → Nat → Int64) → Int32 → Int32 → Int32 → (Nat → Int32) → Option ((Nat → Nat → Int64) × Int32 × Int32 × Int32 × (Nat → Int32))) (v7 : Int32) (la : Nat → Nat → Int64) (ssp : Int32) (str : Int32) (stp : Int32) (swd : Nat → Int32) : Option ((Nat → Nat → Int64) × Int32 × Int32 × Int32 × (Nat → Int32)) :=
  if v7 < v2 then
    if str = (nI 0) then
      bd4 (p_X4_nextVar rb srow ssp sen str stp) <| fun a_33 ssp_34 str_35 stp_36 =>
      bd1 (p_X5_unzigged a_33) <| fun a_38 =>
      if v3 = (nI 0) then
        bd4 (p_X4_nextWidths ((imin (v7 + (nI 128)) v2) - v7) (nI 64) rb srow ssp_34 sen str_35 stp_36 swd) <| fun ssp_40 str_41 stp_42 swd_43 =>
        itr5 (p_X4_nextDifferences_L168 v1 v7 (imin (v7 + (nI 128)) v2) rb srow sen swd_43 (fun la_51 ssp_52 str_53 stp_54 =>
            itr2 (p_X4_nextDifferences_L221 v1 v3 (imin (v7 + (nI 128)) v2) a_38 (fun la_59 =>
                k111 (v7 + (nI 128)) la_59 ssp_52 str_53 stp_54 swd_43)) fu v7 la_51)) fu (nI 0) la ssp_40 str_41 stp_42
      else
        bd4 (p_X4_nextWidths ((imin (v7 + (nI 128)) v2) - v7) (nI 32) rb srow ssp_34 sen str_35 stp_36 swd) <| fun ssp_60 str_61 stp_62 swd_63 =>
        itr5 (p_X4_nextDifferences_L168 v1 v7 (imin (v7 + (nI 128)) v2) rb srow sen swd_63 (fun la_65 ssp_66 str_67 stp_68 =>
            itr2 (p_X4_nextDifferences_L221 v1 v3 (imin (v7 + (nI 128)) v2) a_38 (fun la_69 =>
                k111 (v7 + (nI 128)) la_69 ssp_66 str_67 stp_68 swd_63)) fu v7 la_65)) fu (nI 0) la ssp_60 str_61 stp_62
    else
      some (la, ssp, str, stp, swd)
  else
    some (la, ssp, str, stp, swd)
def p_X4_nextDifferences_J68 (v1 : Nat) (v2 : Int32) (v3 : Int32) (v4 : Int32) (s1 : Int32) (rb : Nat → Nat → Int32) (la : Nat → Nat → Int64) (srow : Option Nat) (ssp : Int32) (sen : Int32) (str : Int32) (stp : Int32) (swd : Nat → Int32) : Option ((Nat → Nat → Int64) × Int32 × Int32 × Int32 × (Nat → Int32)) :=
  bd2 (p_X4_demand s1 (nI 5) v4 str stp) <| fun str_22 stp_23 =>
  bd4 (p_X4_nextVar rb srow ssp sen str_22 stp_23) <| fun a_25 ssp_26 str_27 stp_28 =>
  bd1 (p_X5_unzigged a_25) <| fun a_30 =>
  if (nI 0) < v2 then
    if (nI 0) < (nI 200) then
      if v3 = (nI 0) then
        gd (inb (nI 0) 200) <|
        itr6 (p_X4_nextDifferences_L111 v1 v2 v3 rb srow sen ) fu (nI 1) (up la v1 (up (la v1) (ix (nI 0)) a_30)) ssp_26 str_27 stp_28 swd
      else
        gd (inb (nI 0) 200) <|
        itr6 (p_X4_nextDifferences_L111 v1 v2 v3 rb srow sen ) fu (nI 1) (up la v1 (up (la v1) (ix (nI 0)) (i2l (l2i a_30)))) ssp_26 str_27 stp_28 swd
    else
      itr6 (p_X4_nextDifferences_L111 v1 v2 v3 rb srow sen ) fu (nI 1) la ssp_26 str_27 stp_28 swd
  else
    itr6 (p_X4_nextDifferences_L111 v1 v2 v3 rb srow sen ) fu (nI 1) la ssp_26 str_27 stp_28 swd
def p_X4_nextDifferences_J46 (v1 : Nat) (v2 : Int32) (v3 : Int32) (v4 : Int32) (s1 : Int32) (rb : Nat → Nat → Int32) (la : Nat → Nat → Int64) (srow : Option Nat) (ssp : Int32) (sen : Int32) (str : Int32) (stp : Int32) (swd : Nat → Int32) : Option ((Nat → Nat → Int64) × Int32 × Int32 × Int32 × (Nat → Int32)) :=
  bd2 (p_X4_demand s1 (nI 5) v4 str stp) <| fun str_14 stp_15 =>
  bd4 (p_X4_nextVar rb srow ssp sen str_14 stp_15) <| fun a_17 ssp_18 str_19 stp_20 =>
  if a_17 = (i2l v2) then
    p_X4_nextDifferences_J68 v1 v2 v3 v4 (nI 1) rb la srow ssp_18 sen str_19 stp_20 swd
  else
    p_X4_nextDifferences_J68 v1 v2 v3 v4 (nI 0) rb la srow ssp_18 sen str_19 stp_20 swd
def p_X4_nextDifferences_J23 (v1 : Nat) (v2 : Int32) (v3 : Int32) (v4 : Int32) (s1 : Int32) (rb : Nat → Nat → Int32) (la : Nat → Nat → Int64) (srow : Option Nat) (ssp : Int32) (sen : Int32) (str : Int32) (stp : Int32) (swd : Nat → Int32) : Option ((Nat → Nat → Int64) × Int32 × Int32 × Int32 × (Nat → Int32)) :=
  bd2 (p_X4_demand s1 (nI 5) v4 str stp) <| fun str_6 stp_7 =>
  bd4 (p_X4_nextVar rb srow ssp sen str_6 stp_7) <| fun a_9 ssp_10 str_11 stp_12 =>
  if a_9 = (lN 4) then
    p_X4_nextDifferences_J46 v1 v2 v3 v4 (nI 1) rb la srow ssp_10 sen str_11 stp_12 swd
  else
    p_X4_nextDifferences_J46 v1 v2 v3 v4 (nI 0) rb la srow ssp_10 sen str_11 stp_12 swd
def p_X4_nextDifferences (v1 : Nat) (v2 : Int32) (v3 : Int32) (rb : Nat → Nat → Int32) (la : Nat → Nat → Int64) (srow : Option Nat) (ssp : Int32) (sen : Int32) (str : Int32) (stp : Int32) (swd : Nat → Int32) : Option ((Nat → Nat → Int64) × Int32 × Int32 × Int32 × (Nat → Int32)) :=
  bd4 (p_X4_nextVar rb srow ssp sen str stp) <| fun a_1 ssp_2 str_3 stp_4 =>
  if a_1 = (lN 128) then
    p_X4_nextDifferences_J23 v1 v2 v3 ssp (nI 1) rb la srow ssp_2 sen str_3 stp_4 swd
  else
    p_X4_nextDifferences_J23 v1 v2 v3 ssp (nI 0) rb la srow ssp_2 sen str_3 stp_4 swd
def p_X4_nextText (v1 : Nat) (v2 : Int32) (xc : Nat → Int32) (xt : Nat → Nat → Int32) (xn : Nat → Nat → Int64) (xl : Nat → Nat → Int32) (rc : Nat → Int32) (rb : Nat → Nat → Int32) (srow : Option Nat) (ssp : Int32) (sen : Int32) (str : Int32) : Option ((Nat → Int32) × (Nat → Nat → Int32) × (Nat → Nat → Int64) × (Nat → Nat → Int32) × Int32) :=
  if str = (nI 0) then
    mo srow
      (
        some (xc, xt, xn, xl, ssp))
      (fun o_1 => gd (decide (o_1 < 4)) <|
        if v2 < (nI 0) then
          some (xc, xt, xn, xl, ssp)
        else
          bd1 (p_X4_left ssp sen) <| fun a_3 =>
          if a_3 < v2 then
            some (xc, xt, xn, xl, ssp)
          else
            bd4 (p_X0_pushText v1 o_1 ssp v2 xc xt xn xl rc rb) <| fun xc_5 xt_6 xn_7 xl_8 =>
            some (xc_5, xt_6, xn_7, xl_8, (ssp + v2)))
  else
    some (xc, xt, xn, xl, ssp)
def p_X1_readLengths_J73 (v2 : Int64) (v5 : Int32) (s0 : Int32) (la : Nat → Nat → Int64) (k21 : Int64 → Int32 → Int32 → Option ((Nat → Int32) × (Nat → Nat → Int32) × (Nat → Nat → Int64) × (Nat → Nat → Int32) × (Nat → Nat → Int64) × Int32 × Int32 × Int32 × (Nat → Int32))) : Option ((Nat → Int32) × (Nat → Nat → Int32) × (Nat → Nat → Int64) × (Nat → Nat → Int32) × (Nat → Nat → Int64) × Int32 × Int32 × Int32 × (Nat → Int32)) :=
  gd (inb v5 200) <|
  k21 (v2 + (la 2 (ix v5))) s0 (v5 + (nI 1))
def p_X1_readLengths_J72 (v2 : Int64) (v5 : Int32) (la : Nat → Nat → Int64) (k21 : Int64 → Int32 → Int32 → Option ((Nat → Int32) × (Nat → Nat → Int32) × (Nat → Nat → Int64) × (Nat → Nat → Int32) × (Nat → Nat → Int64) × Int32 × Int32 × Int32 × (Nat → Int32))) : Option ((Nat → Int32) × (Nat → Nat → Int32) × (Nat → Nat → Int64) × (Nat → Nat → Int32) × (Nat → Nat → Int64) × Int32 × Int32 × Int32 × (Nat → Int32)) :=
  p_X1_readLengths_J73 v2 v5 (nI 0) la k21
def p_X1_readLengths_L21 (v1 : Int32) (la : Nat → Nat → Int64) (k91 : Int64 → Int32 → Option ((Nat → Int32) × (Nat → Nat → Int32) × (Nat → Nat → Int64) × (Nat → Nat → Int32) × (Nat → Nat → Int64) × Int32 × Int32 × Int32 × (Nat → Int32))) (k21 : Int64 → Int32 → Int32 → Option ((Nat → Int32) × (Nat → Nat → Int32) × (Nat → Nat → Int64) × (Nat → Nat → Int32) × (Nat → Nat → Int64) × Int32 × Int32 × Int32 × (Nat → Int32))) (v2 : Int64) (v4 : Int32) (v5 : Int32) : Option ((Nat → Int32) × (Nat → Nat → Int32) × (Nat → Nat → Int64) × (Nat → Nat → Int32) × (Nat → Nat → Int64) × Int32 × Int32 × Int32 × (Nat → Int32)) :=
  if v5 < v1 then
    if v5 < (nI 200) then
      if v4 = (nI 0) then
        p_X1_readLengths_J72 v2 v5 la k21
      else
        gd (inb v5 200) <|
        if (la 2 (ix v5)) < (lN 0) then
          p_X1_readLengths_J72 v2 v5 la k21
        else
          gd (inb v5 200) <|
          if (lN 40) < (la 2 (ix v5)) then
            p_X1_readLengths_J72 v2 v5 la k21
          else
            p_X1_readLengths_J73 v2 v5 (nI 1) la k21
    else
      k91 v2 v4
  else
    k91 v2 v4
def p_X1_readLengths_L133 (v1 : Int32) (rc : Nat → Int32) (rb : Nat → Nat → Int32) (la : Nat → Nat → Int64) (srow : Option Nat) (sen : Int32) (str : Int32) (stp : Int32) (swd : Nat → Int32) (k133 : Int32 → (Nat → Int32) → (Nat → Nat → Int32) → (Nat → Nat → Int64) → (Nat → Nat → Int32) → Int32 → Option ((Nat → Int32) × (Nat → Nat → Int32) × (Nat → Nat → Int64) × (Nat → Nat → Int32) × (Nat → Nat → Int64) × Int32 × Int32 × Int32 × (Nat → Int32))) (v5 : Int32) (xc : Nat → Int32) (xt : Nat → Nat → Int32) (xn : Nat → Nat → Int64) (xl : Nat → Nat → Int32) (ssp : Int32) : Option ((Nat → Int32) × (Nat → Nat → Int32) × (Nat → Nat → Int64) × (Nat → Nat → Int32) × (Nat → Nat → Int64) × Int32 × Int32 × Int32 × (Nat → Int32)) :=
  if v5 < v1 then
    if v5 < (nI 200) then
      bd1 (p_X4_isSound str) <| fun a_15 =>
      if a_15 = (nI 0) then
        some (xc, xt, xn, xl, la, ssp, str, stp, swd)
      else
        gd (inb v5 200) <|
        bd5 (p_X4_nextText 4 (l2i (la 2 (ix v5))) xc xt xn xl rc rb srow ssp sen str) <| fun xc_18 xt_19 xn_20 xl_21 ssp_22 =>
        k133 (v5 + (nI 1)) xc_18 xt_19 xn_20 xl_21 ssp_22
    else
      some (xc, xt, xn, xl, la, ssp, str, stp, swd)
  else
    some (xc, xt, xn, xl, la, ssp, str, stp, swd)
def p_X1_readLengths_J91 (v1 : Int32) (v2 : Int64) (v4 : Int32) (xc : Nat → Int32) (xt : Nat → Nat → Int32) (xn : Nat → Nat → Int64) (xl : Nat → Nat → Int32) (rc : Nat → Int32) (rb : Nat → Nat → Int32) (la : Nat → Nat → Int64) (srow : Option Nat) (ssp : Int32) (sen : Int32) (str : Int32) (stp : Int32) (swd : Nat → Int32) : Option ((Nat → Int32) × (Nat → Nat → Int32) × (Nat → Nat → Int64) × (Nat → Nat → Int32) × (Nat → Nat → Int64) × Int32 × Int32 × Int32 × (Nat → Int32)) :=
  if v4 = (nI 0) then
    bd2 (p_X4_demand (nI 0) (nI 10) ssp str stp) <| fun str_12 stp_13 =>
    itr6 (p_X1_readLengths_L133 v1 rc rb la srow sen str_12 stp_13 swd ) fu (nI 0) xc xt xn xl ssp
  else
    bd1 (p_X4_left ssp sen) <| fun a_24 =>
    if (i2l a_24) < v2 then
      bd2 (p_X4_demand (nI 0) (nI 10) ssp str stp) <| fun str_26 stp_27 =>
      itr6 (p_X1_readLengths_L133 v1 rc rb la srow sen str_26 stp_27 swd ) fu (nI 0) xc xt xn xl ssp
    else
      bd2 (p_X4_demand (nI 1) (nI 10) ssp str stp) <| fun str_29 stp_30 =>
      itr6 (p_X1_readLengths_L133 v1 rc rb la srow sen str_29 stp_30 swd ) fu (nI 0) xc xt xn xl ssp
def p_X1_readLengths (v1 : Int32) (xc : Nat → Int32) (xt : Nat → Nat → Int32) (xn : Nat → Nat → Int64) (xl : Nat → Nat → Int32) (rc : Nat → Int32) (rb : Nat → Nat → Int32) (la : Nat → Nat → Int64) (srow : Option Nat) (ssp : Int32) (sen : Int32) (str : Int32) (stp : Int32) (swd : Nat → Int32) : Option ((Nat → Int32) × (Nat → Nat → Int32) × (Nat → Nat → Int64) × (Nat → Nat → Int32) × (Nat → Nat → Int64) × Int32 × Int32 × Int32 × (Nat → Int32)) :=
  bd5 (p_X4_nextDifferences 2 v1 (nI 1) rb la srow ssp sen str stp swd) <| fun la_1 ssp_2 str_3 stp_4 swd_5 =>
  itr3 (p_X1_readLengths_L21 v1 la_1 (fun v2_10 v4_11 =>
      p_X1_readLengths_J91 v1 v2_10 v4_11 xc xt xn xl rc rb la_1 srow ssp_2 sen str_3 stp_4 swd_5)) fu (lN 0) (nI 1) (nI 0)
def p_X4_demandNothingLeft (ssp : Int32) (sen : Int32) (str : Int32) (stp : Int32) : Option (Int32 × Int32) :=
  if ssp < sen then
    bd2 (p_X4_demand (nI 0) (nI 13) ssp str stp) <| fun str_1 stp_2 =>
    some (str_1, stp_2)
  else
    bd2 (p_X4_demand (nI 1) (nI 13) ssp str stp) <| fun str_4 stp_5 =>
    some (str_4, stp_5)
def p_X4_nextLittle_L5 (v1 : Int32) (rb : Nat → Nat → Int32) (srow : Option Nat) (sen : Int32) (k5 : Int64 → Int32 → Int32 → Int32 → Int32 → Option (Int64 × Int32 × Int32 × Int32)) (v2 : Int64) (v4 : Int32) (ssp : Int32) (str : Int32) (stp : Int32) : Option (Int64 × Int32 × Int32 × Int32) :=
  if v4 < v1 then
    bd4 (p_X4_next rb srow ssp sen str stp) <| fun a_1 ssp_2 str_3 stp_4 =>
    k5 (v2 ||| (lshl (i2l a_1) ((nI 8) * v4))) (v4 + (nI 1)) ssp_2 str_3 stp_4
  else
    some (v2, ssp, str, stp)
def p_X4_nextLittle (v1 : Int32) (rb : Nat → Nat → Int32) (srow : Option Nat) (ssp : Int32) (sen : Int32) (str : Int32) (stp : Int32) : Option (Int64 × Int32 × Int32 × Int32) :=
  itr5 (p_X4_nextLittle_L5 v1 rb srow sen ) fu (lN 0) (nI 0) ssp str stp
def p_X4_fill_L7 (v0 : Nat) (v2 : Int32) (v3 : Int64) (k7 : Int32 → (Nat → Nat → Int64) → Option ((Nat → Nat → Int64))) (v5 : Int32) (la : Nat → Nat → Int64) : Option ((Nat → Nat → Int64)) :=
  if v5 < v2 then
    if v5 < (nI 200) then
      gd (inb v5 200) <|
      k7 (v5 + (nI 1)) (up la v0 (up (la v0) (ix v5) v3))
    else
      some (la)
  else
    some (la)
def p_X4_fill (v0 : Nat) (v1 : Int32) (v2 : Int32) (v3 : Int64) (la : Nat → Nat → Int64) : Option ((Nat → Nat → Int64)) :=
  itr2 (p_X4_fill_L7 v0 v2 v3 ) fu (imax v1 (nI 0)) la
def p_X5_bitsOf_L2 (v0 : Int64) (k2 : Int32 → Option (Int32)) (v2 : Int32) : Option (Int32) :=
  if v2 < (nI 64) then
    if (lushr v0 v2) = (lN 0) then
      some (v2)
    else
      k2 (v2 + (nI 1))
  else
    some (v2)
def p_X5_bitsOf (v0 : Int64) : Option (Int32) :=
  itr1 (p_X5_bitsOf_L2 v0 ) fu (nI 0)
def p_X5_wholeGroups (v0 : Int32) : Option (Int32) :=
  some ((((v0 + (nI 8)) - (nI 1)) / (nI 8)))
def p_X4_nextRuns_J185 (v1 : Nat) (v4 : Int32) (v5 : Int32) (v6 : Int32) (v10 : Int64) (v14 : Int64) (s1 : Int32) (la : Nat → Nat → Int64) (ssp : Int32) (str : Int32) (stp : Int32) (k6 : Int32 → Int32 → (Nat → Nat → Int64) → Int32 → Int32 → Int32 → Option ((Nat → Nat → Int64) × Int32 × Int32 × Int32)) : Option ((Nat → Nat → Int64) × Int32 × Int32 × Int32) :=
  bd2 (p_X4_demand s1 (nI 4) v6 str stp) <| fun str_16 stp_17 =>
  bd1 (p_X4_fill v1 v4 (v4 + (l2i v10)) v14 la) <| fun la_19 =>
  k6 (v4 + (l2i v10)) (v5 + (nI 1)) la_19 ssp str_16 stp_17
def p_X4_nextRuns_J103 (v1 : Nat) (v2 : Int32) (v3 : Int32) (v4 : Int32) (v5 : Int32) (v6 : Int32) (v9 : Int32) (v10 : Int64) (s1 : Int32) (rb : Nat → Nat → Int32) (la : Nat → Nat → Int64) (srow : Option Nat) (ssp : Int32) (sen : Int32) (str : Int32) (stp : Int32) (k6 : Int32 → Int32 → (Nat → Nat → Int64) → Int32 → Int32 → Int32 → Option ((Nat → Nat → Int64) × Int32 × Int32 × Int32)) : Option ((Nat → Nat → Int64) × Int32 × Int32 × Int32) :=
  bd2 (p_X4_demand s1 (nI 3) v6 str stp) <| fun str_6 stp_7 =>
  if str_6 = (nI 0) then
    if v9 = (nI 0) then
      bd4 (p_X4_nextLittle ((v3 + (nI 7)) / (nI 8)) rb srow ssp sen str_6 stp_7) <| fun a_9 ssp_10 str_11 stp_12 =>
      bd1 (p_X5_bitsOf a_9) <| fun a_14 =>
      if v3 < a_14 then
        p_X4_nextRuns_J185 v1 v4 v5 ssp v10 a_9 (nI 0) la ssp_10 str_11 stp_12 k6
      else
        p_X4_nextRuns_J185 v1 v4 v5 ssp v10 a_9 (nI 1) la ssp_10 str_11 stp_12 k6
    else
      bd4 (p_X4_nextPacked v1 v4 v2 ((l2i v10) * (nI 8)) v3 rb la srow ssp sen str_6 stp_7) <| fun la_21 ssp_22 str_23 stp_24 =>
      k6 (v4 + ((l2i v10) * (nI 8))) (v5 + (nI 1)) la_21 ssp_22 str_23 stp_24
  else
    some (la, ssp, str_6, stp_7)
def p_X4_nextRuns_J102 (v1 : Nat) (v2 : Int32) (v3 : Int32) (v4 : Int32) (v5 : Int32) (v6 : Int32) (v9 : Int32) (v10 : Int64) (rb : Nat → Nat → Int32) (la : Nat → Nat → Int64) (srow : Option Nat) (ssp : Int32) (sen : Int32) (str : Int32) (stp : Int32) (k6 : Int32 → Int32 → (Nat → Nat → Int64) → Int32 → Int32 → Int32 → Option ((Nat → Nat → Int64) × Int32 × Int32 × Int32)) : Option ((Nat → Nat → Int64) × Int32 × Int32 × Int32) :=
  p_X4_nextRuns_J103 v1 v2 v3 v4 v5 v6 v9 v10 (nI 0) rb la srow ssp sen str stp k6
def p_X4_nextRuns_J80 (v1 : Nat) (v2 : Int32) (v3 : Int32) (v4 : Int32) (v5 : Int32) (v6 : Int32) (v9 : Int32) (v10 : Int64) (s0 : Int64) (rb : Nat → Nat → Int32) (la : Nat → Nat → Int64) (srow : Option Nat) (ssp : Int32) (sen : Int32) (str : Int32) (stp : Int32) (k6 : Int32 → Int32 → (Nat → Nat → Int64) → Int32 → Int32 → Int32 → Option ((Nat → Nat → Int64) × Int32 × Int32 × Int32)) : Option ((Nat → Nat → Int64) × Int32 × Int32 × Int32) :=
  if v10 < (lN 1) then
    p_X4_nextRuns_J102 v1 v2 v3 v4 v5 v6 v9 v10 rb la srow ssp sen str stp k6
  else
    if s0 < v10 then
      p_X4_nextRuns_J102 v1 v2 v3 v4 v5 v6 v9 v10 rb la srow ssp sen str stp k6
    else
      p_X4_nextRuns_J103 v1 v2 v3 v4 v5 v6 v9 v10 (nI 1) rb la srow ssp sen str stp k6
def p_X4_nextRuns_J51 (v1 : Nat) (v2 : Int32) (v3 : Int32) (v4 : Int32) (v5 : Int32) (v6 : Int32) (v7 : Int64) (s0 : Int32) (rb : Nat → Nat → Int32) (la : Nat → Nat → Int64) (srow : Option Nat) (ssp : Int32) (sen : Int32) (str : Int32) (stp : Int32) (k6 : Int32 → Int32 → (Nat → Nat → Int64) → Int32 → Int32 → Int32 → Option ((Nat → Nat → Int64) × Int32 × Int32 × Int32)) : Option ((Nat → Nat → Int64) × Int32 × Int32 × Int32) :=
  if s0 = (nI 0) then
    p_X4_nextRuns_J80 v1 v2 v3 v4 v5 v6 s0 (lushr v7 (nI 1)) (i2l (v2 - v4)) rb la srow ssp sen str stp k6
  else
    bd1 (p_X5_wholeGroups (v2 - v4)) <| fun a_26 =>
    p_X4_nextRuns_J80 v1 v2 v3 v4 v5 v6 s0 (lushr v7 (nI 1)) (i2l a_26) rb la srow ssp sen str stp k6
def p_X4_nextRuns_L6 (v1 : Nat) (v2 : Int32) (v3 : Int32) (rb : Nat → Nat → Int32) (srow : Option Nat) (sen : Int32) (k6 : Int32 → Int32 → (Nat → Nat → Int64) → Int32 → Int32 → Int32 → Option ((Nat → Nat → Int64) × Int32 × Int32 × Int32)) (v4 : Int32) (v5 : Int32) (la : Nat → Nat → Int64) (ssp : Int32) (str : Int32) (stp : Int32) : Option ((Nat → Nat → Int64) × Int32 × Int32 × Int32) :=
  if v5 < v2 then
    if v4 < v2 then
      if str = (nI 0) then
        bd4 (p_X4_nextVar rb srow ssp sen str stp) <| fun a_1 ssp_2 str_3 stp_4 =>
        if (a_1 &&& (lN 1)) = (lN 0) then
          p_X4_nextRuns_J51 v1 v2 v3 v4 v5 ssp a_1 (nI 0) rb la srow ssp_2 sen str_3 stp_4 k6
        else
          p_X4_nextRuns_J51 v1 v2 v3 v4 v5 ssp a_1 (nI 1) rb la srow ssp_2 sen str_3 stp_4 k6
      else
        some (la, ssp, str, stp)
    else
      some (la, ssp, str, stp)
  else
    some (la, ssp, str, stp)
def p_X4_nextRuns (v1 : Nat) (v2 : Int32) (v3 : Int32) (rb : Nat → Nat → Int32) (la : Nat → Nat → Int64) (srow : Option Nat) (ssp : Int32) (sen : Int32) (str : Int32) (stp : Int32) : Option ((Nat → Nat → Int64) × Int32 × Int32 × Int32) :=
  itr6 (p_X4_nextRuns_L6 v1 v2 v3 rb srow sen ) fu (nI 0) (nI 0) la ssp str stp
def p_X1_readOwnRuns_J45 (v1 : Nat) (v2 : Int32) (v3 : Int32) (v4 : Int32) (s1 : Int32) (rb : Nat → Nat → Int32) (la : Nat → Nat → Int64) (srow : Option Nat) (ssp : Int32) (sen : Int32) (str : Int32) (stp : Int32) : Option ((Nat → Nat → Int64) × Int32 × Int32 × Int32 × Int32) :=
  bd2 (p_X4_demand s1 (nI 10) v3 str stp) <| fun str_6 stp_7 =>
  bd1 (p_X4_isSound str_6) <| fun a_9 =>
  if a_9 = (nI 0) then
    some (la, ssp, sen, str_6, stp_7)
  else
    bd4 (p_X4_nextRuns v1 v2 (nI 1) rb la srow ssp (ssp + v4) str_6 stp_7) <| fun la_11 ssp_12 str_13 stp_14 =>
    bd2 (p_X4_demandNothingLeft ssp_12 (ssp + v4) str_13 stp_14) <| fun str_16 stp_17 =>
    some (la_11, ssp_12, sen, str_16, stp_17)
def p_X1_readOwnRuns_J44 (v1 : Nat) (v2 : Int32) (v3 : Int32) (v4 : Int32) (rb : Nat → Nat → Int32) (la : Nat → Nat → Int64) (srow : Option Nat) (ssp : Int32) (sen : Int32) (str : Int32) (stp : Int32) : Option ((Nat → Nat → Int64) × Int32 × Int32 × Int32 × Int32) :=
  p_X1_readOwnRuns_J45 v1 v2 v3 v4 (nI 0) rb la srow ssp sen str stp
def p_X1_readOwnRuns (v1 : Nat) (v2 : Int32) (rb : Nat → Nat → Int32) (la : Nat → Nat → Int64) (srow : Option Nat) (ssp : Int32) (sen : Int32) (str : Int32) (stp : Int32) : Option ((Nat → Nat → Int64) × Int32 × Int32 × Int32 × Int32) :=
  bd4 (p_X4_nextLittle (nI 4) rb srow ssp sen str stp) <| fun a_1 ssp_2 str_3 stp_4 =>
  if (l2i a_1) < (nI 0) then
    p_X1_readOwnRuns_J44 v1 v2 ssp (l2i a_1) rb la srow ssp_2 sen str_3 stp_4
  else
    bd1 (p_X4_left ssp_2 sen) <| fun a_19 =>
    if a_19 < (l2i a_1) then
      p_X1_readOwnRuns_J44 v1 v2 ssp (l2i a_1) rb la srow ssp_2 sen str_3 stp_4
    else
      p_X1_readOwnRuns_J45 v1 v2 ssp (l2i a_1) (nI 1) rb la srow ssp_2 sen str_3 stp_4
def p_X1_readPlaces_L62 (v1 : Int32) (v4 : Int32) (xc : Nat → Int32) (la : Nat → Nat → Int64) (k119 : Int32 → Int32 → Option ((Nat → Int32) × (Nat → Nat → Int32) × (Nat → Nat → Int64) × (Nat → Nat → Int32) × (Nat → Nat → Int64) × Int32 × Int32 × Int32)) (k62 : Int32 → Int32 → Int32 → Option ((Nat → Int32) × (Nat → Nat → Int32) × (Nat → Nat → Int64) × (Nat → Nat → Int32) × (Nat → Nat → Int64) × Int32 × Int32 × Int32)) (v5 : Int32) (str : Int32) (stp : Int32) : Option ((Nat → Int32) × (Nat → Nat → Int32) × (Nat → Nat → Int64) × (Nat → Nat → Int32) × (Nat → Nat → Int64) × Int32 × Int32 × Int32) :=
  if v5 < v1 then
    if v5 < (nI 200) then
      gd (inb v5 200) <|
      if (la 2 (ix v5)) < (i2l (xc 5)) then
        bd2 (p_X4_demand (nI 1) (nI 12) v4 str stp) <| fun str_15 stp_16 =>
        k62 (v5 + (nI 1)) str_15 stp_16
      else
        bd2 (p_X4_demand (nI 0) (nI 12) v4 str stp) <| fun str_18 stp_19 =>
        k62 (v5 + (nI 1)) str_18 stp_19
    else
      k119 str stp
  else
    k119 str stp
def p_X1_readPlaces_L122 (v1 : Int32) (xk : Nat → Int32) (la : Nat → Nat → Int64) (ssp : Int32) (str : Int32) (stp : Int32) (k122 : Int32 → (Nat → Int32) → (Nat → Nat → Int32) → (Nat → Nat → Int64) → (Nat → Nat → Int32) → Option ((Nat → Int32) × (Nat → Nat → Int32) × (Nat → Nat → Int64) × (Nat → Nat → Int32) × (Nat → Nat → Int64) × Int32 × Int32 × Int32)) (v5 : Int32) (xc : Nat → Int32) (xt : Nat → Nat → Int32) (xn : Nat → Nat → Int64) (xl : Nat → Nat → Int32) : Option ((Nat → Int32) × (Nat → Nat → Int32) × (Nat → Nat → Int64) × (Nat → Nat → Int32) × (Nat → Nat → Int64) × Int32 × Int32 × Int32) :=
  if v5 < v1 then
    if v5 < (nI 200) then
      bd1 (p_X4_isSound str) <| fun a_23 =>
      if a_23 = (nI 0) then
        some (xc, xt, xn, xl, la, ssp, str, stp)
      else
        gd (inb v5 200) <|
        bd4 (p_X0_pushCopy 4 5 (l2i (la 2 (ix v5))) xk xc xt xn xl) <| fun xc_26 xt_27 xn_28 xl_29 =>
        k122 (v5 + (nI 1)) xc_26 xt_27 xn_28 xl_29
    else
      some (xc, xt, xn, xl, la, ssp, str, stp)
  else
    some (xc, xt, xn, xl, la, ssp, str, stp)
def p_X1_readPlaces_J31 (v1 : Int32) (v2 : Int32) (v3 : Int32) (s1 : Int32) (xk : Nat → Int32) (xc : Nat → Int32) (xt : Nat → Nat → Int32) (xn : Nat → Nat → Int64) (xl : Nat → Nat → Int32) (rb : Nat → Nat → Int32) (la : Nat → Nat → Int64) (srow : Option Nat) (ssp : Int32) (sen : Int32) (str : Int32) (stp : Int32) : Option ((Nat → Int32) × (Nat → Nat → Int32) × (Nat → Nat → Int64) × (Nat → Nat → Int32) × (Nat → Nat → Int64) × Int32 × Int32 × Int32) :=
  bd2 (p_X4_demand s1 (nI 11) v2 str stp) <| fun str_6 stp_7 =>
  bd4 (p_X4_nextRuns 2 v1 v3 rb la srow ssp sen str_6 stp_7) <| fun la_9 ssp_10 str_11 stp_12 =>
  itr3 (p_X1_readPlaces_L62 v1 ssp xc la_9 (fun str_21 stp_22 =>
      itr5 (p_X1_readPlaces_L122 v1 xk la_9 ssp_10 str_21 stp_22 ) fu (nI 0) xc xt xn xl)) fu (nI 0) str_11 stp_12
def p_X1_readPlaces (v1 : Int32) (xk : Nat → Int32) (xc : Nat → Int32) (xt : Nat → Nat → Int32) (xn : Nat → Nat → Int64) (xl : Nat → Nat → Int32) (rb : Nat → Nat → Int32) (la : Nat → Nat → Int64) (srow : Option Nat) (ssp : Int32) (sen : Int32) (str : Int32) (stp : Int32) : Option ((Nat → Int32) × (Nat → Nat → Int32) × (Nat → Nat → Int64) × (Nat → Nat → Int32) × (Nat → Nat → Int64) × Int32 × Int32 × Int32) :=
  bd4 (p_X4_next rb srow ssp sen str stp) <| fun a_1 ssp_2 str_3 stp_4 =>
  if (nI 32) < a_1 then
    p_X1_readPlaces_J31 v1 ssp a_1 (nI 0) xk xc xt xn xl rb la srow ssp_2 sen str_3 stp_4
  else
    p_X1_readPlaces_J31 v1 ssp a_1 (nI 1) xk xc xt xn xl rb la srow ssp_2 sen str_3 stp_4
def p_X1_readPlain_J137 (v1 : Nat) (v3 : Int32) (v4 : Int32) (v5 : Int32) (s0 : Int32) (xc : Nat → Int32) (xt : Nat → Nat → Int32) (xn : Nat → Nat → Int64) (xl : Nat → Nat → Int32) (rc : Nat → Int32) (rb : Nat → Nat → Int32) (srow : Option Nat) (ssp : Int32) (sen : Int32) (str : Int32) (stp : Int32) (k37 : Int32 → (Nat → Int32) → (Nat → Nat → Int32) → (Nat → Nat → Int64) → (Nat → Nat → Int32) → Int32 → Int32 → Int32 → Option ((Nat → Int32) × (Nat → Nat → Int32) × (Nat → Nat → Int64) × (Nat → Nat → Int32) × (Nat → Nat → Int64) × Int32 × Int32 × Int32)) : Option ((Nat → Int32) × (Nat → Nat → Int32) × (Nat → Nat → Int64) × (Nat → Nat → Int32) × (Nat → Nat → Int64) × Int32 × Int32 × Int32) :=
  bd2 (p_X4_demand s0 (nI 10) v4 str stp) <| fun str_19 stp_20 =>
  bd5 (p_X4_nextText v1 v5 xc xt xn xl rc rb srow ssp sen str_19) <| fun xc_22 xt_23 xn_24 xl_25 ssp_26 =>
  k37 (v3 + (nI 1)) xc_22 xt_23 xn_24 xl_25 ssp_26 str_19 stp_20
def p_X1_readPlain_J136 (v1 : Nat) (v3 : Int32) (v4 : Int32) (v5 : Int32) (xc : Nat → Int32) (xt : Nat → Nat → Int32) (xn : Nat → Nat → Int64) (xl : Nat → Nat → Int32) (rc : Nat → Int32) (rb : Nat → Nat → Int32) (srow : Option Nat) (ssp : Int32) (sen : Int32) (str : Int32) (stp : Int32) (k37 : Int32 → (Nat → Int32) → (Nat → Nat → Int32) → (Nat → Nat → Int64) → (Nat → Nat → Int32) → Int32 → Int32 → Int32 → Option ((Nat → Int32) × (Nat → Nat → Int32) × (Nat → Nat → Int64) × (Nat → Nat → Int32) × (Nat → Nat → Int64) × Int32 × Int32 × Int32)) : Option ((Nat → Int32) × (Nat → Nat → Int32) × (Nat → Nat → Int64) × (Nat → Nat → Int32) × (Nat → Nat → Int64) × Int32 × Int32 × Int32) :=
  p_X1_readPlain_J137 v1 v3 v4 v5 (nI 0) xc xt xn xl rc rb srow ssp sen str stp k37
def p_X1_readPlain_L37 (v1 : Nat) (v2 : Int32) (xk : Nat → Int32) (rc : Nat → Int32) (rb : Nat → Nat → Int32) (la : Nat → Nat → Int64) (srow : Option Nat) (sen : Int32) (k37 : Int32 → (Nat → Int32) → (Nat → Nat → Int32) → (Nat → Nat → Int64) → (Nat → Nat → Int32) → Int32 → Int32 → Int32 → Option ((Nat → Int32) × (Nat → Nat → Int32) × (Nat → Nat → Int64) × (Nat → Nat → Int32) × (Nat → Nat → Int64) × Int32 × Int32 × Int32)) (v3 : Int32) (xc : Nat → Int32) (xt : Nat → Nat → Int32) (xn : Nat → Nat → Int64) (xl : Nat → Nat → Int32) (ssp : Int32) (str : Int32) (stp : Int32) : Option ((Nat → Int32) × (Nat → Nat → Int32) × (Nat → Nat → Int64) × (Nat → Nat → Int32) × (Nat → Nat → Int64) × Int32 × Int32 × Int32) :=
  if v3 < v2 then
    bd1 (p_X4_isSound str) <| fun a_12 =>
    if a_12 = (nI 0) then
      some (xc, xt, xn, xl, la, ssp, str, stp)
    else
      if (xk v1) = (nI 2) then
        bd4 (p_X4_nextLittle (nI 4) rb srow ssp sen str stp) <| fun a_14 ssp_15 str_16 stp_17 =>
        if (l2i a_14) < (nI 0) then
          p_X1_readPlain_J136 v1 v3 ssp (l2i a_14) xc xt xn xl rc rb srow ssp_15 sen str_16 stp_17 k37
        else
          if (nI 40) < (l2i a_14) then
            p_X1_readPlain_J136 v1 v3 ssp (l2i a_14) xc xt xn xl rc rb srow ssp_15 sen str_16 stp_17 k37
          else
            bd1 (p_X4_left ssp_15 sen) <| fun a_28 =>
            if a_28 < (l2i a_14) then
              p_X1_readPlain_J136 v1 v3 ssp (l2i a_14) xc xt xn xl rc rb srow ssp_15 sen str_16 stp_17 k37
            else
              p_X1_readPlain_J137 v1 v3 ssp (l2i a_14) (nI 1) xc xt xn xl rc rb srow ssp_15 sen str_16 stp_17 k37
      else
        if (xk v1) = (nI 1) then
          bd4 (p_X4_nextLittle (nI 8) rb srow ssp sen str stp) <| fun a_30 ssp_31 str_32 stp_33 =>
          bd3 (p_X0_pushNumber v1 a_30 xk xc xt xn) <| fun xc_35 xt_36 xn_37 =>
          k37 (v3 + (nI 1)) xc_35 xt_36 xn_37 xl ssp_31 str_32 stp_33
        else
          bd4 (p_X4_nextLittle (nI 4) rb srow ssp sen str stp) <| fun a_39 ssp_40 str_41 stp_42 =>
          bd3 (p_X0_pushNumber v1 a_39 xk xc xt xn) <| fun xc_44 xt_45 xn_46 =>
          k37 (v3 + (nI 1)) xc_44 xt_45 xn_46 xl ssp_40 str_41 stp_42
  else
    some (xc, xt, xn, xl, la, ssp, str, stp)
def p_X1_readPlain (v1 : Nat) (v2 : Int32) (xk : Nat → Int32) (xc : Nat → Int32) (xt : Nat → Nat → Int32) (xn : Nat → Nat → Int64) (xl : Nat → Nat → Int32) (rc : Nat → Int32) (rb : Nat → Nat → Int32) (la : Nat → Nat → Int64) (srow : Option Nat) (ssp : Int32) (sen : Int32) (str : Int32) (stp : Int32) : Option ((Nat → Int32) × (Nat → Nat → Int32) × (Nat → Nat → Int64) × (Nat → Nat → Int32) × (Nat → Nat → Int64) × Int32 × Int32 × Int32) :=
  if (xk v1) = (nI 3) then
    bd1 (p_X5_wholeGroups v2) <| fun a_1 =>
    bd4 (p_X4_nextPacked 2 (nI 0) v2 (a_1 * (nI 8)) (nI 1) rb la srow ssp sen str stp) <| fun la_3 ssp_4 str_5 stp_6 =>
    bd3 (p_X1_pushNumbers v2 xk xc xt xn la_3 str_5) <| fun xc_8 xt_9 xn_10 =>
    some (xc_8, xt_9, xn_10, xl, la_3, ssp_4, str_5, stp_6)
  else
    itr8 (p_X1_readPlain_L37 v1 v2 xk rc rb la srow sen ) fu (nI 0) xc xt xn xl ssp str stp
def p_X1_readData_J169 (v1 : Int32) (xk : Nat → Int32) (xo : Nat → Int32) (xc : Nat → Int32) (xt : Nat → Nat → Int32) (xn : Nat → Nat → Int64) (xl : Nat → Nat → Int32) (la : Nat → Nat → Int64) (ssp : Int32) (sen : Int32) (str : Int32) (stp : Int32) (swd : Nat → Int32) (rpv : Int32) : Option ((Nat → Int32) × (Nat → Nat → Int32) × (Nat → Nat → Int64) × (Nat → Nat → Int32) × (Nat → Nat → Int64) × Int32 × Int32 × Int32 × Int32 × (Nat → Int32)) :=
  if (xo 4) = (nI 0) then
    some (xc, xt, xn, xl, la, ssp, sen, str, stp, swd)
  else
    bd1 (p_X4_isSound str) <| fun a_11 =>
    if a_11 = (nI 0) then
      some (xc, xt, xn, xl, la, ssp, sen, str, stp, swd)
    else
      bd4 (p_X0_spread 4 v1 rpv 1 xk xc xt xn xl la) <| fun xc_13 xt_14 xn_15 xl_16 =>
      some (xc_13, xt_14, xn_15, xl_16, la, ssp, sen, str, stp, swd)
def p_X1_readData_J128 (v1 : Int32) (v2 : Int32) (s2 : Int32) (s3 : Int32) (xk : Nat → Int32) (xo : Nat → Int32) (xc : Nat → Int32) (xt : Nat → Nat → Int32) (xn : Nat → Nat → Int64) (xl : Nat → Nat → Int32) (rb : Nat → Nat → Int32) (la : Nat → Nat → Int64) (srow : Option Nat) (ssp : Int32) (sen : Int32) (str : Int32) (stp : Int32) (swd : Nat → Int32) (rpv : Int32) : Option ((Nat → Int32) × (Nat → Nat → Int32) × (Nat → Nat → Int64) × (Nat → Nat → Int32) × (Nat → Nat → Int64) × Int32 × Int32 × Int32 × Int32 × (Nat → Int32)) :=
  bd5 (p_X4_nextDifferences 2 s2 s3 rb la srow ssp sen str stp swd) <| fun la_60 ssp_61 str_62 stp_63 swd_64 =>
  bd3 (p_X1_pushNumbers v2 xk xc xt xn la_60 str_62) <| fun xc_66 xt_67 xn_68 =>
  p_X1_readData_J169 v1 xk xo xc_66 xt_67 xn_68 xl la_60 ssp_61 sen str_62 stp_63 swd_64 rpv
def p_X1_readData_J44 (v1 : Int32) (v2 : Int32) (xk : Nat → Int32) (xo : Nat → Int32) (xc : Nat → Int32) (xt : Nat → Nat → Int32) (xn : Nat → Nat → Int64) (xl : Nat → Nat → Int32) (rc : Nat → Int32) (rb : Nat → Nat → Int32) (la : Nat → Nat → Int64) (srow : Option Nat) (ssp : Int32) (sen : Int32) (str : Int32) (stp : Int32) (swd : Nat → Int32) (rpv : Int32) (rpc : Int32) : Option ((Nat → Int32) × (Nat → Nat → Int32) × (Nat → Nat → Int64) × (Nat → Nat → Int32) × (Nat → Nat → Int64) × Int32 × Int32 × Int32 × Int32 × (Nat → Int32)) :=
  if rpc = (nI 0) then
    bd8 (p_X1_readPlain 4 v2 xk xc xt xn xl rc rb la srow ssp sen str stp) <| fun xc_2 xt_3 xn_4 xl_5 la_6 ssp_7 str_8 stp_9 =>
    p_X1_readData_J169 v1 xk xo xc_2 xt_3 xn_4 xl_5 la_6 ssp_7 sen str_8 stp_9 swd rpv
  else
    if rpc = (nI 1) then
      bd8 (p_X1_readPlaces v2 xk xc xt xn xl rb la srow ssp sen str stp) <| fun xc_19 xt_20 xn_21 xl_22 la_23 ssp_24 str_25 stp_26 =>
      p_X1_readData_J169 v1 xk xo xc_19 xt_20 xn_21 xl_22 la_23 ssp_24 sen str_25 stp_26 swd rpv
    else
      if rpc = (nI 2) then
        bd8 (p_X1_readPlaces v2 xk xc xt xn xl rb la srow ssp sen str stp) <| fun xc_29 xt_30 xn_31 xl_32 la_33 ssp_34 str_35 stp_36 =>
        p_X1_readData_J169 v1 xk xo xc_29 xt_30 xn_31 xl_32 la_33 ssp_34 sen str_35 stp_36 swd rpv
      else
        if rpc = (nI 3) then
          bd5 (p_X1_readOwnRuns 2 v2 rb la srow ssp sen str stp) <| fun la_39 ssp_40 sen_41 str_42 stp_43 =>
          bd3 (p_X1_pushNumbers v2 xk xc xt xn la_39 str_42) <| fun xc_45 xt_46 xn_47 =>
          p_X1_readData_J169 v1 xk xo xc_45 xt_46 xn_47 xl la_39 ssp_40 sen_41 str_42 stp_43 swd rpv
        else
          if rpc = (nI 4) then
            bd8 (p_X1_readPlaces v2 xk xc xt xn xl rb la srow ssp sen str stp) <| fun xc_50 xt_51 xn_52 xl_53 la_54 ssp_55 str_56 stp_57 =>
            p_X1_readData_J169 v1 xk xo xc_50 xt_51 xn_52 xl_53 la_54 ssp_55 sen str_56 stp_57 swd rpv
          else
            if rpc = (nI 5) then
              if (xk 4) = (nI 0) then
                p_X1_readData_J128 v1 v2 v2 (nI 1) xk xo xc xt xn xl rb la srow ssp sen str stp swd rpv
              else
                p_X1_readData_J128 v1 v2 v2 (nI 0) xk xo xc xt xn xl rb la srow ssp sen str stp swd rpv
            else
              if rpc = (nI 6) then
                bd9 (p_X1_readLengths v2 xc xt xn xl rc rb la srow ssp sen str stp swd) <| fun xc_71 xt_72 xn_73 xl_74 la_75 ssp_76 str_77 stp_78 swd_79 =>
                p_X1_readData_J169 v1 xk xo xc_71 xt_72 xn_73 xl_74 la_75 ssp_76 sen str_77 stp_78 swd_79 rpv
              else
                bd8 (p_X1_readPlaces v2 xk xc xt xn xl rb la srow ssp sen str stp) <| fun xc_81 xt_82 xn_83 xl_84 la_85 ssp_86 str_87 stp_88 =>
                p_X1_readData_J169 v1 xk xo xc_81 xt_82 xn_83 xl_84 la_85 ssp_86 sen str_87 stp_88 swd rpv
def p_X1_readData (xk : Nat → Int32) (xo : Nat → Int32) (xc : Nat → Int32) (xt : Nat → Nat → Int32) (xn : Nat → Nat → Int64) (xl : Nat → Nat → Int32) (rc : Nat → Int32) (rb : Nat → Nat → Int32) (la : Nat → Nat → Int64) (srow : Option Nat) (ssp : Int32) (sen : Int32) (str : Int32) (stp : Int32) (swd : Nat → Int32) (rpv : Int32) (rpc : Int32) : Option ((Nat → Int32) × (Nat → Nat → Int32) × (Nat → Nat → Int64) × (Nat → Nat → Int32) × (Nat → Nat → Int64) × Int32 × Int32 × Int32 × Int32 × (Nat → Int32)) :=
  if (xo 4) = (nI 0) then
    p_X1_readData_J44 (xc 4) rpv xk xo xc xt xn xl rc rb la srow ssp sen str stp swd rpv rpc
  else
    bd5 (p_X1_readOwnRuns 1 rpv rb la srow ssp sen str stp) <| fun la_90 ssp_91 sen_92 str_93 stp_94 =>
    bd1 (p_X1_countOnes rpv la_90 str_93) <| fun a_96 =>
    p_X1_readData_J44 (xc 4) a_96 xk xo xc xt xn xl rc rb la_90 srow ssp_91 sen_92 str_93 stp_94 swd rpv rpc
def p_X1_readDictionary (xk : Nat → Int32) (xc : Nat → Int32) (xt : Nat → Nat → Int32) (xn : Nat → Nat → Int64) (xl : Nat → Nat → Int32) (rc : Nat → Int32) (rb : Nat → Nat → Int32) (la : Nat → Nat → Int64) (srow : Option Nat) (ssp : Int32) (sen : Int32) (str : Int32) (stp : Int32) (rdr : Int32) (rpv : Int32) : Option ((Nat → Int32) × (Nat → Nat → Int32) × (Nat → Nat → Int64) × (Nat → Nat → Int32) × (Nat → Nat → Int64) × Int32 × Int32 × Int32 × Int32) :=
  bd8 (p_X1_readPlain 5 rpv xk xc xt xn xl rc rb la srow ssp sen str stp) <| fun xc_1 xt_2 xn_3 xl_4 la_5 ssp_6 str_7 stp_8 =>
  bd1 (p_X4_isSound str_7) <| fun a_10 =>
  if a_10 = (nI 0) then
    some ((up xc_1 5 (nI 0)), xt_2, xn_3, xl_4, la_5, ssp_6, str_7, stp_8, rdr)
  else
    some (xc_1, xt_2, xn_3, xl_4, la_5, ssp_6, str_7, stp_8, (nI 1))
def p_X1_isDataCode (v1 : Int64) (xk : Nat → Int32) (rdr : Int32) : Option (Int32) :=
  if v1 = (lN 5) then
    if (xk 4) = (nI 0) then
      some ((nI 1))
    else
      if (xk 4) = (nI 1) then
        some ((nI 1))
      else
        some ((nI 0))
  else
    if v1 = (lN 6) then
      if (xk 4) = (nI 2) then
        some ((nI 1))
      else
        some ((nI 0))
    else
      if v1 = (lN 3) then
        if (xk 4) = (nI 3) then
          some ((nI 1))
        else
          some ((nI 0))
      else
        if v1 = (lN 8) then
          gd (isB rdr) <|
          some (rdr)
        else
          if v1 = (lN 0) then
            some ((nI 1))
          else
            some ((nI 0))
def p_X4_expect (v1 : Int32) (rb : Nat → Nat → Int32) (srow : Option Nat) (ssp : Int32) (sen : Int32) (str : Int32) (stp : Int32) : Option (Int32 × Int32 × Int32) :=
  bd4 (p_X4_next rb srow ssp sen str stp) <| fun a_1 ssp_2 str_3 stp_4 =>
  if a_1 = v1 then
    bd2 (p_X4_demand (nI 1) (nI 7) ssp str_3 stp_4) <| fun str_6 stp_7 =>
    some (ssp_2, str_6, stp_7)
  else
    bd2 (p_X4_demand (nI 0) (nI 7) ssp str_3 stp_4) <| fun str_9 stp_10 =>
    some (ssp_2, str_9, stp_10)
def p_X1_nextZigField (rb : Nat → Nat → Int32) (srow : Option Nat) (ssp : Int32) (sen : Int32) (str : Int32) (stp : Int32) (rzp : Int32) : Option (Int64 × Int32 × Int32 × Int32 × Int32) :=
  bd3 (p_X4_expect (nI 21) rb srow ssp sen str stp) <| fun ssp_1 str_2 stp_3 =>
  bd4 (p_X4_nextVar rb srow ssp_1 sen str_2 stp_3) <| fun a_5 ssp_6 str_7 stp_8 =>
  bd1 (p_X5_unzigged a_5) <| fun a_10 =>
  some (a_10, ssp_6, str_7, stp_8, ssp_1)
def p_X1_readHead_J371 (v5 : Int64) (v9 : Int64) (v12 : Int64) (s1 : Int32) (ssp : Int32) (str : Int32) (stp : Int32) (rzp : Int32) : Option (Int32 × Int32 × Int32 × Int32 × Int32 × Int32 × Int32 × Int32) :=
  gd (isB s1) <|
  some (ssp, (ssp + (l2i v5)), str, stp, s1, (l2i v9), (l2i v12), rzp)
def p_X1_readHead_J339 (v4 : Int32) (v5 : Int64) (v9 : Int64) (v12 : Int64) (s1 : Int32) (ssp : Int32) (sen : Int32) (str : Int32) (stp : Int32) (rpd : Int32) (rpv : Int32) (rpc : Int32) (rzp : Int32) : Option (Int32 × Int32 × Int32 × Int32 × Int32 × Int32 × Int32 × Int32) :=
  bd2 (p_X4_demand s1 (nI 1) sen str stp) <| fun str_63 stp_64 =>
  bd1 (p_X4_isSound str_63) <| fun a_66 =>
  if a_66 = (nI 0) then
    some (ssp, sen, str_63, stp_64, rpd, rpv, rpc, rzp)
  else
    if v4 = (nI 0) then
      p_X1_readHead_J371 v5 v9 v12 (nI 1) ssp str_63 stp_64 rzp
    else
      p_X1_readHead_J371 v5 v9 v12 (nI 0) ssp str_63 stp_64 rzp
def p_X1_readHead_J291 (v4 : Int32) (v5 : Int64) (v9 : Int64) (v12 : Int64) (s1 : Int32) (rb : Nat → Nat → Int32) (srow : Option Nat) (ssp : Int32) (sen : Int32) (str : Int32) (stp : Int32) (rpd : Int32) (rpv : Int32) (rpc : Int32) (rzp : Int32) : Option (Int32 × Int32 × Int32 × Int32 × Int32 × Int32 × Int32 × Int32) :=
  bd2 (p_X4_demand s1 (nI 8) rzp str stp) <| fun str_50 stp_51 =>
  bd3 (p_X4_expect (nI 0) rb srow ssp sen str_50 stp_51) <| fun ssp_53 str_54 stp_55 =>
  bd3 (p_X4_expect (nI 0) rb srow ssp_53 sen str_54 stp_55) <| fun ssp_57 str_58 stp_59 =>
  bd1 (p_X4_left ssp_57 sen) <| fun a_61 =>
  if (i2l a_61) < v5 then
    p_X1_readHead_J339 v4 v5 v9 v12 (nI 0) ssp_57 sen str_58 stp_59 rpd rpv rpc rzp
  else
    p_X1_readHead_J339 v4 v5 v9 v12 (nI 1) ssp_57 sen str_58 stp_59 rpd rpv rpc rzp
def p_X1_readHead_J246 (v4 : Int32) (v5 : Int64) (v9 : Int64) (s1 : Int32) (xk : Nat → Int32) (rb : Nat → Nat → Int32) (srow : Option Nat) (ssp : Int32) (sen : Int32) (str : Int32) (stp : Int32) (rdr : Int32) (rpd : Int32) (rpv : Int32) (rpc : Int32) (rzp : Int32) : Option (Int32 × Int32 × Int32 × Int32 × Int32 × Int32 × Int32 × Int32) :=
  bd2 (p_X4_demand s1 (nI 8) rzp str stp) <| fun str_41 stp_42 =>
  bd5 (p_X1_nextZigField rb srow ssp sen str_41 stp_42 rzp) <| fun a_44 ssp_45 str_46 stp_47 rzp_48 =>
  if v4 = (nI 0) then
    if a_44 = (lN 0) then
      p_X1_readHead_J291 v4 v5 v9 a_44 (nI 1) rb srow ssp_45 sen str_46 stp_47 rpd rpv rpc rzp_48
    else
      p_X1_readHead_J291 v4 v5 v9 a_44 (nI 0) rb srow ssp_45 sen str_46 stp_47 rpd rpv rpc rzp_48
  else
    bd1 (p_X1_isDataCode a_44 xk rdr) <| fun a_69 =>
    p_X1_readHead_J291 v4 v5 v9 a_44 a_69 rb srow ssp_45 sen str_46 stp_47 rpd rpv rpc rzp_48
def p_X1_readHead_J245 (v4 : Int32) (v5 : Int64) (v9 : Int64) (xk : Nat → Int32) (rb : Nat → Nat → Int32) (srow : Option Nat) (ssp : Int32) (sen : Int32) (str : Int32) (stp : Int32) (rdr : Int32) (rpd : Int32) (rpv : Int32) (rpc : Int32) (rzp : Int32) : Option (Int32 × Int32 × Int32 × Int32 × Int32 × Int32 × Int32 × Int32) :=
  p_X1_readHead_J246 v4 v5 v9 (nI 0) xk rb srow ssp sen str stp rdr rpd rpv rpc rzp
def p_X1_readHead_J219 (v4 : Int32) (v5 : Int64) (v9 : Int64) (s0 : Int32) (xk : Nat → Int32) (rb : Nat → Nat → Int32) (srow : Option Nat) (ssp : Int32) (sen : Int32) (str : Int32) (stp : Int32) (rdr : Int32) (rpd : Int32) (rpv : Int32) (rpc : Int32) (rzp : Int32) : Option (Int32 × Int32 × Int32 × Int32 × Int32 × Int32 × Int32 × Int32) :=
  if v9 < (lN 0) then
    p_X1_readHead_J245 v4 v5 v9 xk rb srow ssp sen str stp rdr rpd rpv rpc rzp
  else
    if (i2l s0) < v9 then
      p_X1_readHead_J245 v4 v5 v9 xk rb srow ssp sen str stp rdr rpd rpv rpc rzp
    else
      p_X1_readHead_J246 v4 v5 v9 (nI 1) xk rb srow ssp sen str stp rdr rpd rpv rpc rzp
def p_X1_readHead_J188 (v4 : Int32) (v5 : Int64) (s1 : Int32) (xk : Nat → Int32) (xc : Nat → Int32) (rb : Nat → Nat → Int32) (srow : Option Nat) (ssp : Int32) (sen : Int32) (str : Int32) (stp : Int32) (rdr : Int32) (rpd : Int32) (rpv : Int32) (rpc : Int32) (rzp : Int32) : Option (Int32 × Int32 × Int32 × Int32 × Int32 × Int32 × Int32 × Int32) :=
  bd3 (p_X4_expect s1 rb srow ssp sen str stp) <| fun ssp_31 str_32 stp_33 =>
  bd5 (p_X1_nextZigField rb srow ssp_31 sen str_32 stp_33 rzp) <| fun a_35 ssp_36 str_37 stp_38 rzp_39 =>
  if v4 = (nI 0) then
    p_X1_readHead_J219 v4 v5 a_35 (nI 200) xk rb srow ssp_36 sen str_37 stp_38 rdr rpd rpv rpc rzp_39
  else
    p_X1_readHead_J219 v4 v5 a_35 ((nI 200) - (xc 4)) xk rb srow ssp_36 sen str_37 stp_38 rdr rpd rpv rpc rzp_39
def p_X1_readHead_J163 (v4 : Int32) (v5 : Int64) (s1 : Int32) (xk : Nat → Int32) (xc : Nat → Int32) (rb : Nat → Nat → Int32) (srow : Option Nat) (ssp : Int32) (sen : Int32) (str : Int32) (stp : Int32) (rdr : Int32) (rpd : Int32) (rpv : Int32) (rpc : Int32) (rzp : Int32) : Option (Int32 × Int32 × Int32 × Int32 × Int32 × Int32 × Int32 × Int32) :=
  bd2 (p_X4_demand s1 (nI 8) rzp str stp) <| fun str_28 stp_29 =>
  if v4 = (nI 0) then
    p_X1_readHead_J188 v4 v5 (nI 76) xk xc rb srow ssp sen str_28 stp_29 rdr rpd rpv rpc rzp
  else
    p_X1_readHead_J188 v4 v5 (nI 44) xk xc rb srow ssp sen str_28 stp_29 rdr rpd rpv rpc rzp
def p_X1_readHead_J131 (v4 : Int32) (v5 : Int64) (s1 : Int32) (xk : Nat → Int32) (xc : Nat → Int32) (rb : Nat → Nat → Int32) (srow : Option Nat) (ssp : Int32) (sen : Int32) (str : Int32) (stp : Int32) (rdr : Int32) (rpd : Int32) (rpv : Int32) (rpc : Int32) (rzp : Int32) : Option (Int32 × Int32 × Int32 × Int32 × Int32 × Int32 × Int32 × Int32) :=
  bd2 (p_X4_demand s1 (nI 8) rzp str stp) <| fun str_19 stp_20 =>
  bd5 (p_X1_nextZigField rb srow ssp sen str_19 stp_20 rzp) <| fun a_22 ssp_23 str_24 stp_25 rzp_26 =>
  if a_22 = v5 then
    p_X1_readHead_J163 v4 v5 (nI 1) xk xc rb srow ssp_23 sen str_24 stp_25 rdr rpd rpv rpc rzp_26
  else
    p_X1_readHead_J163 v4 v5 (nI 0) xk xc rb srow ssp_23 sen str_24 stp_25 rdr rpd rpv rpc rzp_26
def p_X1_readHead_J130 (v4 : Int32) (v5 : Int64) (xk : Nat → Int32) (xc : Nat → Int32) (rb : Nat → Nat → Int32) (srow : Option Nat) (ssp : Int32) (sen : Int32) (str : Int32) (stp : Int32) (rdr : Int32) (rpd : Int32) (rpv : Int32) (rpc : Int32) (rzp : Int32) : Option (Int32 × Int32 × Int32 × Int32 × Int32 × Int32 × Int32 × Int32) :=
  p_X1_readHead_J131 v4 v5 (nI 0) xk xc rb srow ssp sen str stp rdr rpd rpv rpc rzp
def p_X1_readHead_J89 (v1 : Int32) (v4 : Int32) (s1 : Int32) (xk : Nat → Int32) (xc : Nat → Int32) (rb : Nat → Nat → Int32) (srow : Option Nat) (ssp : Int32) (sen : Int32) (str : Int32) (stp : Int32) (rdr : Int32) (rpd : Int32) (rpv : Int32) (rpc : Int32) (rzp : Int32) : Option (Int32 × Int32 × Int32 × Int32 × Int32 × Int32 × Int32 × Int32) :=
  bd2 (p_X4_demand s1 (nI 9) v1 str stp) <| fun str_10 stp_11 =>
  bd5 (p_X1_nextZigField rb srow ssp sen str_10 stp_11 rzp) <| fun a_13 ssp_14 str_15 stp_16 rzp_17 =>
  if a_13 < (lN 0) then
    p_X1_readHead_J130 v4 a_13 xk xc rb srow ssp_14 sen str_15 stp_16 rdr rpd rpv rpc rzp_17
  else
    bd1 (p_X4_left ssp_14 sen) <| fun a_71 =>
    if (i2l a_71) < a_13 then
      p_X1_readHead_J130 v4 a_13 xk xc rb srow ssp_14 sen str_15 stp_16 rdr rpd rpv rpc rzp_17
    else
      p_X1_readHead_J131 v4 a_13 (nI 1) xk xc rb srow ssp_14 sen str_15 stp_16 rdr rpd rpv rpc rzp_17
def p_X1_readHead_J84 (v1 : Int32) (v4 : Int32) (xk : Nat → Int32) (xc : Nat → Int32) (rb : Nat → Nat → Int32) (srow : Option Nat) (ssp : Int32) (sen : Int32) (str : Int32) (stp : Int32) (rdr : Int32) (rpd : Int32) (rpv : Int32) (rpc : Int32) (rzp : Int32) : Option (Int32 × Int32 × Int32 × Int32 × Int32 × Int32 × Int32 × Int32) :=
  p_X1_readHead_J89 v1 v4 (nI 1) xk xc rb srow ssp sen str stp rdr rpd rpv rpc rzp
def p_X1_readHead_J59 (v1 : Int32) (v4 : Int32) (s1 : Int32) (xk : Nat → Int32) (xc : Nat → Int32) (rb : Nat → Nat → Int32) (srow : Option Nat) (ssp : Int32) (sen : Int32) (str : Int32) (stp : Int32) (rwp : Int32) (rdr : Int32) (rpd : Int32) (rpv : Int32) (rpc : Int32) (rzp : Int32) : Option (Int32 × Int32 × Int32 × Int32 × Int32 × Int32 × Int32 × Int32) :=
  bd2 (p_X4_demand s1 (nI 8) rzp str stp) <| fun str_7 stp_8 =>
  if v4 = (nI 0) then
    if rwp = (nI 0) then
      p_X1_readHead_J84 v1 v4 xk xc rb srow ssp sen str_7 stp_8 rdr rpd rpv rpc rzp
    else
      p_X1_readHead_J89 v1 v4 (nI 0) xk xc rb srow ssp sen str_7 stp_8 rdr rpd rpv rpc rzp
  else
    p_X1_readHead_J84 v1 v4 xk xc rb srow ssp sen str_7 stp_8 rdr rpd rpv rpc rzp
def p_X1_readHead_J58 (v1 : Int32) (v4 : Int32) (xk : Nat → Int32) (xc : Nat → Int32) (rb : Nat → Nat → Int32) (srow : Option Nat) (ssp : Int32) (sen : Int32) (str : Int32) (stp : Int32) (rwp : Int32) (rdr : Int32) (rpd : Int32) (rpv : Int32) (rpc : Int32) (rzp : Int32) : Option (Int32 × Int32 × Int32 × Int32 × Int32 × Int32 × Int32 × Int32) :=
  p_X1_readHead_J59 v1 v4 (nI 0) xk xc rb srow ssp sen str stp rwp rdr rpd rpv rpc rzp
def p_X1_readHead_J54 (v1 : Int32) (v4 : Int32) (xk : Nat → Int32) (xc : Nat → Int32) (rb : Nat → Nat → Int32) (srow : Option Nat) (ssp : Int32) (sen : Int32) (str : Int32) (stp : Int32) (rwp : Int32) (rdr : Int32) (rpd : Int32) (rpv : Int32) (rpc : Int32) (rzp : Int32) : Option (Int32 × Int32 × Int32 × Int32 × Int32 × Int32 × Int32 × Int32) :=
  p_X1_readHead_J59 v1 v4 (nI 1) xk xc rb srow ssp sen str stp rwp rdr rpd rpv rpc rzp
def p_X1_readHead_J24 (v1 : Int32) (v2 : Int64) (s0 : Int32) (xk : Nat → Int32) (xc : Nat → Int32) (rb : Nat → Nat → Int32) (srow : Option Nat) (ssp : Int32) (sen : Int32) (str : Int32) (stp : Int32) (rwp : Int32) (rdr : Int32) (rpd : Int32) (rpv : Int32) (rpc : Int32) (rzp : Int32) : Option (Int32 × Int32 × Int32 × Int32 × Int32 × Int32 × Int32 × Int32) :=
  if s0 = (nI 0) then
    if v2 = (lN 2) then
      if (xk 4) = (nI 3) then
        p_X1_readHead_J58 v1 s0 xk xc rb srow ssp sen str stp rwp rdr rpd rpv rpc rzp
      else
        p_X1_readHead_J54 v1 s0 xk xc rb srow ssp sen str stp rwp rdr rpd rpv rpc rzp
    else
      p_X1_readHead_J58 v1 s0 xk xc rb srow ssp sen str stp rwp rdr rpd rpv rpc rzp
  else
    p_X1_readHead_J54 v1 s0 xk xc rb srow ssp sen str stp rwp rdr rpd rpv rpc rzp
def p_X1_readHead (xk : Nat → Int32) (xc : Nat → Int32) (rb : Nat → Nat → Int32) (srow : Option Nat) (ssp : Int32) (sen : Int32) (str : Int32) (stp : Int32) (rwp : Int32) (rdr : Int32) (rpd : Int32) (rpv : Int32) (rpc : Int32) (rzp : Int32) : Option (Int32 × Int32 × Int32 × Int32 × Int32 × Int32 × Int32 × Int32) :=
  bd5 (p_X1_nextZigField rb srow ssp sen str stp rzp) <| fun a_1 ssp_2 str_3 stp_4 rzp_5 =>
  if a_1 = (lN 0) then
    p_X1_readHead_J24 ssp a_1 (nI 1) xk xc rb srow ssp_2 sen str_3 stp_4 rwp rdr rpd rpv rpc rzp_5
  else
    p_X1_readHead_J24 ssp a_1 (nI 0) xk xc rb srow ssp_2 sen str_3 stp_4 rwp rdr rpd rpv rpc rzp_5
def p_X4_begin (v1 : Nat) (rc : Nat → Int32) (srow : Option Nat) (ssp : Int32) (sen : Int32) (str : Int32) (stp : Int32) : Option ((Option Nat) × Int32 × Int32 × Int32 × Int32) :=
  some ((some v1), (nI 0), (rc v1), (nI 0), (nI 0))
def p_X1_readPages_J136 (v1 : Nat) (v4 : Int32) (s1 : Int32) (s2 : Int32) (xc : Nat → Int32) (xt : Nat → Nat → Int32) (xn : Nat → Nat → Int64) (xl : Nat → Nat → Int32) (rc : Nat → Int32) (la : Nat → Nat → Int64) (ssp : Int32) (str : Int32) (stp : Int32) (swd : Nat → Int32) (rdr : Int32) (rpd : Int32) (rpv : Int32) (rpc : Int32) (rzp : Int32) (k39 : Int32 → (Nat → Int32) → (Nat → Nat → Int32) → (Nat → Nat → Int64) → (Nat → Nat → Int32) → (Nat → Nat → Int64) → Int32 → Int32 → Int32 → Int32 → (Nat → Int32) → Int32 → Int32 → Int32 → Int32 → Int32 → Int32 → Option ((Nat → Int32) × (Nat → Int32) × (Nat → Int32) × (Nat → Nat → Int32) × (Nat → Nat → Int64) × (Nat → Nat → Int32) × (Nat → Nat → Int64) × (Option Nat) × Int32 × Int32 × Int32 × Int32 × (Nat → Int32) × Int32 × Int32 × Int32 × Int32 × Int32 × Int32)) : Option ((Nat → Int32) × (Nat → Int32) × (Nat → Int32) × (Nat → Nat → Int32) × (Nat → Nat → Int64) × (Nat → Nat → Int32) × (Nat → Nat → Int64) × (Option Nat) × Int32 × Int32 × Int32 × Int32 × (Nat → Int32) × Int32 × Int32 × Int32 × Int32 × Int32 × Int32) :=
  k39 (v4 + (nI 1)) xc xt xn xl la ssp (rc v1) str stp swd (s1 + s2) rdr rpd rpv rpc rzp
def p_X1_readPages_J109 (v1 : Nat) (v4 : Int32) (xc : Nat → Int32) (xt : Nat → Nat → Int32) (xn : Nat → Nat → Int64) (xl : Nat → Nat → Int32) (rc : Nat → Int32) (la : Nat → Nat → Int64) (ssp : Int32) (sen : Int32) (str : Int32) (stp : Int32) (swd : Nat → Int32) (rwp : Int32) (rdr : Int32) (rpd : Int32) (rpv : Int32) (rpc : Int32) (rzp : Int32) (k39 : Int32 → (Nat → Int32) → (Nat → Nat → Int32) → (Nat → Nat → Int64) → (Nat → Nat → Int32) → (Nat → Nat → Int64) → Int32 → Int32 → Int32 → Int32 → (Nat → Int32) → Int32 → Int32 → Int32 → Int32 → Int32 → Int32 → Option ((Nat → Int32) × (Nat → Int32) × (Nat → Int32) × (Nat → Nat → Int32) × (Nat → Nat → Int64) × (Nat → Nat → Int32) × (Nat → Nat → Int64) × (Option Nat) × Int32 × Int32 × Int32 × Int32 × (Nat → Int32) × Int32 × Int32 × Int32 × Int32 × Int32 × Int32)) : Option ((Nat → Int32) × (Nat → Int32) × (Nat → Int32) × (Nat → Nat → Int32) × (Nat → Nat → Int64) × (Nat → Nat → Int32) × (Nat → Nat → Int64) × (Option Nat) × Int32 × Int32 × Int32 × Int32 × (Nat → Int32) × Int32 × Int32 × Int32 × Int32 × Int32 × Int32) :=
  bd2 (p_X4_demandNothingLeft ssp sen str stp) <| fun str_32 stp_33 =>
  bd1 (p_X4_isSound str_32) <| fun a_35 =>
  if a_35 = (nI 0) then
    p_X1_readPages_J136 v1 v4 rwp (nI 0) xc xt xn xl rc la ssp str_32 stp_33 swd rdr rpd rpv rpc rzp k39
  else
    p_X1_readPages_J136 v1 v4 rwp (nI 1) xc xt xn xl rc la ssp str_32 stp_33 swd rdr rpd rpv rpc rzp k39
def p_X1_readPages_J95 (v1 : Nat) (v4 : Int32) (xk : Nat → Int32) (xo : Nat → Int32) (xc : Nat → Int32) (xt : Nat → Nat → Int32) (xn : Nat → Nat → Int64) (xl : Nat → Nat → Int32) (rc : Nat → Int32) (rb : Nat → Nat → Int32) (la : Nat → Nat → Int64) (srow : Option Nat) (ssp : Int32) (sen : Int32) (str : Int32) (stp : Int32) (swd : Nat → Int32) (rwp : Int32) (rdr : Int32) (rpd : Int32) (rpv : Int32) (rpc : Int32) (rzp : Int32) (k39 : Int32 → (Nat → Int32) → (Nat → Nat → Int32) → (Nat → Nat → Int64) → (Nat → Nat → Int32) → (Nat → Nat → Int64) → Int32 → Int32 → Int32 → Int32 → (Nat → Int32) → Int32 → Int32 → Int32 → Int32 → Int32 → Int32 → Option ((Nat → Int32) × (Nat → Int32) × (Nat → Int32) × (Nat → Nat → Int32) × (Nat → Nat → Int64) × (Nat → Nat → Int32) × (Nat → Nat → Int64) × (Option Nat) × Int32 × Int32 × Int32 × Int32 × (Nat → Int32) × Int32 × Int32 × Int32 × Int32 × Int32 × Int32)) : Option ((Nat → Int32) × (Nat → Int32) × (Nat → Int32) × (Nat → Nat → Int32) × (Nat → Nat → Int64) × (Nat → Nat → Int32) × (Nat → Nat → Int64) × (Option Nat) × Int32 × Int32 × Int32 × Int32 × (Nat → Int32) × Int32 × Int32 × Int32 × Int32 × Int32 × Int32) :=
  bd1 (p_X4_isSound str) <| fun a_30 =>
  if a_30 = (nI 0) then
    p_X1_readPages_J109 v1 v4 xc xt xn xl rc la ssp sen str stp swd rwp rdr rpd rpv rpc rzp k39
  else
    bd10 (p_X1_readData xk xo xc xt xn xl rc rb la srow ssp sen str stp swd rpv rpc) <| fun xc_37 xt_38 xn_39 xl_40 la_41 ssp_42 sen_43 str_44 stp_45 swd_46 =>
    p_X1_readPages_J109 v1 v4 xc_37 xt_38 xn_39 xl_40 rc la_41 ssp_42 sen_43 str_44 stp_45 swd_46 rwp rdr rpd rpv rpc rzp k39
def p_X1_readPages_L39 (v1 : Nat) (xk : Nat → Int32) (xo : Nat → Int32) (rc : Nat → Int32) (rb : Nat → Nat → Int32) (srow : Option Nat) (k39 : Int32 → (Nat → Int32) → (Nat → Nat → Int32) → (Nat → Nat → Int64) → (Nat → Nat → Int32) → (Nat → Nat → Int64) → Int32 → Int32 → Int32 → Int32 → (Nat → Int32) → Int32 → Int32 → Int32 → Int32 → Int32 → Int32 → Option ((Nat → Int32) × (Nat → Int32) × (Nat → Int32) × (Nat → Nat → Int32) × (Nat → Nat → Int64) × (Nat → Nat → Int32) × (Nat → Nat → Int64) × (Option Nat) × Int32 × Int32 × Int32 × Int32 × (Nat → Int32) × Int32 × Int32 × Int32 × Int32 × Int32 × Int32)) (v4 : Int32) (xc : Nat → Int32) (xt : Nat → Nat → Int32) (xn : Nat → Nat → Int64) (xl : Nat → Nat → Int32) (la : Nat → Nat → Int64) (ssp : Int32) (sen : Int32) (str : Int32) (stp : Int32) (swd : Nat → Int32) (rwp : Int32) (rdr : Int32) (rpd : Int32) (rpv : Int32) (rpc : Int32) (rzp : Int32) : Option ((Nat → Int32) × (Nat → Int32) × (Nat → Int32) × (Nat → Nat → Int32) × (Nat → Nat → Int64) × (Nat → Nat → Int32) × (Nat → Nat → Int64) × (Option Nat) × Int32 × Int32 × Int32 × Int32 × (Nat → Int32) × Int32 × Int32 × Int32 × Int32 × Int32 × Int32) :=
  if v4 < (nI 12000) then
    bd1 (p_X4_isSound str) <| fun a_15 =>
    if a_15 = (nI 0) then
      some (xk, xo, xc, xt, xn, xl, la, srow, ssp, sen, str, stp, swd, rwp, rdr, rpd, rpv, rpc, rzp)
    else
      bd1 (p_X4_left ssp sen) <| fun a_17 =>
      if (nI 0) < a_17 then
        bd8 (p_X1_readHead xk xc rb srow ssp sen str stp rwp rdr rpd rpv rpc rzp) <| fun ssp_19 sen_20 str_21 stp_22 rpd_23 rpv_24 rpc_25 rzp_26 =>
        bd1 (p_X4_isSound str_21) <| fun a_28 =>
        if a_28 = (nI 0) then
          p_X1_readPages_J95 v1 v4 xk xo xc xt xn xl rc rb la srow ssp_19 sen_20 str_21 stp_22 swd rwp rdr rpd_23 rpv_24 rpc_25 rzp_26 k39
        else
          if rpd_23 = (nI 0) then
            p_X1_readPages_J95 v1 v4 xk xo xc xt xn xl rc rb la srow ssp_19 sen_20 str_21 stp_22 swd rwp rdr rpd_23 rpv_24 rpc_25 rzp_26 k39
          else
            bd9 (p_X1_readDictionary xk xc xt xn xl rc rb la srow ssp_19 sen_20 str_21 stp_22 rdr rpv_24) <| fun xc_48 xt_49 xn_50 xl_51 la_52 ssp_53 str_54 stp_55 rdr_56 =>
            p_X1_readPages_J109 v1 v4 xc_48 xt_49 xn_50 xl_51 rc la_52 ssp_53 sen_20 str_54 stp_55 swd rwp rdr_56 rpd_23 rpv_24 rpc_25 rzp_26 k39
      else
        some (xk, xo, xc, xt, xn, xl, la, srow, ssp, sen, str, stp, swd, rwp, rdr, rpd, rpv, rpc, rzp)
  else
    some (xk, xo, xc, xt, xn, xl, la, srow, ssp, sen, str, stp, swd, rwp, rdr, rpd, rpv, rpc, rzp)
def p_X1_readPages (v1 : Nat) (v2 : Int32) (v3 : Int32) (xk : Nat → Int32) (xo : Nat → Int32) (xc : Nat → Int32) (xt : Nat → Nat → Int32) (xn : Nat → Nat → Int64) (xl : Nat → Nat → Int32) (rc : Nat → Int32) (rb : Nat → Nat → Int32) (la : Nat → Nat → Int64) (srow : Option Nat) (ssp : Int32) (sen : Int32) (str : Int32) (stp : Int32) (swd : Nat → Int32) (rwp : Int32) (rdr : Int32) (rpd : Int32) (rpv : Int32) (rpc : Int32) (rzp : Int32) : Option ((Nat → Int32) × (Nat → Int32) × (Nat → Int32) × (Nat → Nat → Int32) × (Nat → Nat → Int64) × (Nat → Nat → Int32) × (Nat → Nat → Int64) × (Option Nat) × Int32 × Int32 × Int32 × Int32 × (Nat → Int32) × Int32 × Int32 × Int32 × Int32 × Int32 × Int32) :=
  bd5 (p_X4_begin v1 rc srow ssp sen str stp) <| fun srow_1 ssp_2 sen_3 str_4 stp_5 =>
  bd3 (p_X0_begin 4 v2 v3 xk xo xc) <| fun xk_7 xo_8 xc_9 =>
  bd3 (p_X0_begin 5 v2 (nI 0) xk_7 xo_8 xc_9) <| fun xk_11 xo_12 xc_13 =>
  itr17 (p_X1_readPages_L39 v1 xk_11 xo_12 rc rb srow_1 ) fu (nI 0) xc_13 xt xn xl la ssp_2 sen_3 str_4 stp_5 swd (nI 0) (nI 0) rpd rpv rpc rzp
def p_X2_codeOf (v0 : Int32) (v1 : Int32) : Option (Int32) :=
  if v1 = (nI 0) then
    some ((nI 0))
  else
    if v1 = (nI 1) then
      some ((nI 8))
    else
      if v0 = (nI 2) then
        some ((nI 6))
      else
        if v0 = (nI 3) then
          some ((nI 3))
        else
          some ((nI 5))
def p_X2_chooseThere_L8 (v1 : Nat) (v3 : Int32) (xt : Nat → Nat → Int32) (k8 : Int32 → (Nat → Int32) → Int32 → Option ((Nat → Int32) × Int32)) (v4 : Int32) (wch : Nat → Int32) (wcc : Int32) : Option ((Nat → Int32) × Int32) :=
  if v4 < v3 then
    bd1 (p_X0_isThere v1 v4 xt) <| fun a_1 =>
    if a_1 = (nI 0) then
      k8 (v4 + (nI 1)) wch wcc
    else
      if wcc < (nI 0) then
        k8 (v4 + (nI 1)) wch wcc
      else
        if wcc < (nI 200) then
          gd (inb wcc 200) <|
          k8 (v4 + (nI 1)) (up wch (ix wcc) v4) (wcc + (nI 1))
        else
          k8 (v4 + (nI 1)) wch wcc
  else
    some (wch, wcc)
def p_X2_chooseThere (v1 : Nat) (v2 : Int32) (v3 : Int32) (xt : Nat → Nat → Int32) (wch : Nat → Int32) (wcc : Int32) : Option ((Nat → Int32) × Int32) :=
  itr3 (p_X2_chooseThere_L8 v1 v3 xt ) fu v2 wch (nI 0)
def p_X2_gatherLevels_L3 (v1 : Nat) (v2 : Int32) (v3 : Int32) (xt : Nat → Nat → Int32) (k3 : Int32 → (Nat → Nat → Int64) → Option ((Nat → Nat → Int64))) (v4 : Int32) (la : Nat → Nat → Int64) : Option ((Nat → Nat → Int64)) :=
  if v4 < (nI 0) then
    some (la)
  else
    if v4 < v3 then
      if (v4 - v2) < (nI 200) then
        bd1 (p_X0_isThere v1 v4 xt) <| fun a_1 =>
        if a_1 = (nI 0) then
          gd (inb (v4 - v2) 200) <|
          k3 (v4 + (nI 1)) (up la 0 (up (la 0) (ix (v4 - v2)) (lN 0)))
        else
          gd (inb (v4 - v2) 200) <|
          k3 (v4 + (nI 1)) (up la 0 (up (la 0) (ix (v4 - v2)) (lN 1)))
      else
        some (la)
    else
      some (la)
def p_X2_gatherLevels (v1 : Nat) (v2 : Int32) (v3 : Int32) (xt : Nat → Nat → Int32) (la : Nat → Nat → Int64) : Option ((Nat → Nat → Int64)) :=
  itr2 (p_X2_gatherLevels_L3 v1 v2 v3 xt ) fu v2 la
def p_X2_gatherNumbers_L2 (v1 : Nat) (xn : Nat → Nat → Int64) (wch : Nat → Int32) (wcc : Int32) (k2 : Int32 → (Nat → Nat → Int64) → Option ((Nat → Nat → Int64))) (v2 : Int32) (la : Nat → Nat → Int64) : Option ((Nat → Nat → Int64)) :=
  if v2 < wcc then
    if v2 < (nI 200) then
      if v2 < (nI 200) then
        gd (inb v2 200) <|
        bd1 (p_X0_numberAt v1 (wch (ix v2)) xn) <| fun a_2 =>
        gd (inb v2 200) <|
        k2 (v2 + (nI 1)) (up la 0 (up (la 0) (ix v2) a_2))
      else
        some (la)
    else
      some (la)
  else
    some (la)
def p_X2_gatherNumbers (v1 : Nat) (xn : Nat → Nat → Int64) (la : Nat → Nat → Int64) (wch : Nat → Int32) (wcc : Int32) : Option ((Nat → Nat → Int64)) :=
  itr2 (p_X2_gatherNumbers_L2 v1 xn wch wcc ) fu (nI 0) la
def p_X3_push (v0 : Nat) (v1 : Int32) (rc : Nat → Int32) (rv : Nat → Int32) (rb : Nat → Nat → Int32) : Option ((Nat → Int32) × (Nat → Int32) × (Nat → Nat → Int32)) :=
  if (rc v0) < (nI 0) then
    some (rc, (up rv v0 (nI 1)), rb)
  else
    if (rc v0) < (nI (rlen v0)) then
      gd (inb (rc v0) (rlen v0)) <|
      some ((up rc v0 ((rc v0) + (nI 1))), rv, (up rb v0 (up (rb v0) (ix (rc v0)) (b8 v1))))
    else
      some (rc, (up rv v0 (nI 1)), rb)
def p_X2_pushLetters_L9 (v1 : Nat) (v2 : Int32) (v3 : Int64) (xl : Nat → Nat → Int32) (k9 : Int32 → (Nat → Int32) → (Nat → Int32) → (Nat → Nat → Int32) → Option ((Nat → Int32) × (Nat → Int32) × (Nat → Nat → Int32))) (v5 : Int32) (rc : Nat → Int32) (rv : Nat → Int32) (rb : Nat → Nat → Int32) : Option ((Nat → Int32) × (Nat → Int32) × (Nat → Nat → Int32)) :=
  if v5 < (nI 40) then
    if (i2l v5) < v3 then
      bd1 (p_X0_letterAt v1 v2 v5 xl) <| fun a_3 =>
      bd3 (p_X3_push 3 a_3 rc rv rb) <| fun rc_5 rv_6 rb_7 =>
      k9 (v5 + (nI 1)) rc_5 rv_6 rb_7
    else
      some (rc, rv, rb)
  else
    some (rc, rv, rb)
def p_X2_pushLetters (v1 : Nat) (v2 : Int32) (xn : Nat → Nat → Int64) (xl : Nat → Nat → Int32) (rc : Nat → Int32) (rv : Nat → Int32) (rb : Nat → Nat → Int32) : Option ((Nat → Int32) × (Nat → Int32) × (Nat → Nat → Int32)) :=
  bd1 (p_X0_numberAt v1 v2 xn) <| fun a_1 =>
  itr4 (p_X2_pushLetters_L9 v1 v2 a_1 xl ) fu (nI 0) rc rv rb
def p_X2_pushAllLetters_L2 (v1 : Nat) (xn : Nat → Nat → Int64) (xl : Nat → Nat → Int32) (wch : Nat → Int32) (wcc : Int32) (k2 : Int32 → (Nat → Int32) → (Nat → Int32) → (Nat → Nat → Int32) → Option ((Nat → Int32) × (Nat → Int32) × (Nat → Nat → Int32))) (v2 : Int32) (rc : Nat → Int32) (rv : Nat → Int32) (rb : Nat → Nat → Int32) : Option ((Nat → Int32) × (Nat → Int32) × (Nat → Nat → Int32)) :=
  if v2 < wcc then
    if v2 < (nI 200) then
      gd (inb v2 200) <|
      bd3 (p_X2_pushLetters v1 (wch (ix v2)) xn xl rc rv rb) <| fun rc_2 rv_3 rb_4 =>
      k2 (v2 + (nI 1)) rc_2 rv_3 rb_4
    else
      some (rc, rv, rb)
  else
    some (rc, rv, rb)
def p_X2_pushAllLetters (v1 : Nat) (xn : Nat → Nat → Int64) (xl : Nat → Nat → Int32) (rc : Nat → Int32) (rv : Nat → Int32) (rb : Nat → Nat → Int32) (wch : Nat → Int32) (wcc : Int32) : Option ((Nat → Int32) × (Nat → Int32) × (Nat → Nat → Int32)) :=
  itr4 (p_X2_pushAllLetters_L2 v1 xn xl wch wcc ) fu (nI 0) rc rv rb
def p_X3_pushVar_L5 (v0 : Nat) (k5 : Int64 → Int32 → (Nat → Int32) → (Nat → Int32) → (Nat → Nat → Int32) → Option ((Nat → Int32) × (Nat → Int32) × (Nat → Nat → Int32))) (v3 : Int64) (v5 : Int32) (rc : Nat → Int32) (rv : Nat → Int32) (rb : Nat → Nat → Int32) : Option ((Nat → Int32) × (Nat → Int32) × (Nat → Nat → Int32)) :=
  if v5 < (nI 9) then
    if (lushr v3 (nI 7)) = (lN 0) then
      bd3 (p_X3_push v0 (l2i v3) rc rv rb) <| fun rc_1 rv_2 rb_3 =>
      some (rc_1, rv_2, rb_3)
    else
      bd3 (p_X3_push v0 ((l2i (v3 &&& (lN 127))) + (nI 128)) rc rv rb) <| fun rc_5 rv_6 rb_7 =>
      k5 (lushr v3 (nI 7)) (v5 + (nI 1)) rc_5 rv_6 rb_7
  else
    bd3 (p_X3_push v0 (l2i v3) rc rv rb) <| fun rc_9 rv_10 rb_11 =>
    some (rc_9, rv_10, rb_11)
def p_X3_pushVar (v0 : Nat) (v1 : Int64) (rc : Nat → Int32) (rv : Nat → Int32) (rb : Nat → Nat → Int32) : Option ((Nat → Int32) × (Nat → Int32) × (Nat → Nat → Int32)) :=
  itr5 (p_X3_pushVar_L5 v0 ) fu v1 (nI 0) rc rv rb
def p_X5_zigged (v0 : Int64) : Option (Int64) :=
  some (((lshl v0 (nI 1)) ^^^ (lshr v0 (nI 63))))
def p_X2_pushHead_J90 (v2 : Int32) (v3 : Int32) (s1 : Int32) (rc : Nat → Int32) (rv : Nat → Int32) (rb : Nat → Nat → Int32) : Option ((Nat → Int32) × (Nat → Int32) × (Nat → Nat → Int32)) :=
  bd3 (p_X3_push 2 s1 rc rv rb) <| fun rc_31 rv_32 rb_33 =>
  bd3 (p_X3_push 2 (nI 21) rc_31 rv_32 rb_33) <| fun rc_35 rv_36 rb_37 =>
  bd1 (p_X5_zigged (i2l v2)) <| fun a_39 =>
  bd3 (p_X3_pushVar 2 a_39 rc_35 rv_36 rb_37) <| fun rc_41 rv_42 rb_43 =>
  bd3 (p_X3_push 2 (nI 21) rc_41 rv_42 rb_43) <| fun rc_45 rv_46 rb_47 =>
  bd1 (p_X5_zigged (i2l v3)) <| fun a_49 =>
  bd3 (p_X3_pushVar 2 a_49 rc_45 rv_46 rb_47) <| fun rc_51 rv_52 rb_53 =>
  bd3 (p_X3_push 2 (nI 0) rc_51 rv_52 rb_53) <| fun rc_55 rv_56 rb_57 =>
  bd3 (p_X3_push 2 (nI 0) rc_55 rv_56 rb_57) <| fun rc_59 rv_60 rb_61 =>
  some (rc_59, rv_60, rb_61)
def p_X2_pushHead (v1 : Int32) (v2 : Int32) (v3 : Int32) (rc : Nat → Int32) (rv : Nat → Int32) (rb : Nat → Nat → Int32) : Option ((Nat → Int32) × (Nat → Int32) × (Nat → Nat → Int32)) :=
  bd3 (p_X3_push 2 (nI 21) rc rv rb) <| fun rc_1 rv_2 rb_3 =>
  bd1 (p_X5_zigged (i2l v1)) <| fun a_5 =>
  bd3 (p_X3_pushVar 2 a_5 rc_1 rv_2 rb_3) <| fun rc_7 rv_8 rb_9 =>
  bd3 (p_X3_push 2 (nI 21) rc_7 rv_8 rb_9) <| fun rc_11 rv_12 rb_13 =>
  bd1 (p_X5_zigged (i2l (rc_11 3))) <| fun a_15 =>
  bd3 (p_X3_pushVar 2 a_15 rc_11 rv_12 rb_13) <| fun rc_17 rv_18 rb_19 =>
  bd3 (p_X3_push 2 (nI 21) rc_17 rv_18 rb_19) <| fun rc_21 rv_22 rb_23 =>
  bd1 (p_X5_zigged (i2l (rc_21 3))) <| fun a_25 =>
  bd3 (p_X3_pushVar 2 a_25 rc_21 rv_22 rb_23) <| fun rc_27 rv_28 rb_29 =>
  if v1 = (nI 0) then
    p_X2_pushHead_J90 v2 v3 (nI 44) rc_27 rv_28 rb_29
  else
    p_X2_pushHead_J90 v2 v3 (nI 76) rc_27 rv_28 rb_29
def p_X3_pushLittle_L3 (v0 : Nat) (v1 : Int64) (v3 : Int32) (k3 : Int32 → (Nat → Int32) → (Nat → Int32) → (Nat → Nat → Int32) → Option ((Nat → Int32) × (Nat → Int32) × (Nat → Nat → Int32))) (v4 : Int32) (rc : Nat → Int32) (rv : Nat → Int32) (rb : Nat → Nat → Int32) : Option ((Nat → Int32) × (Nat → Int32) × (Nat → Nat → Int32)) :=
  if v4 < v3 then
    bd3 (p_X3_push v0 (l2i (lushr v1 ((nI 8) * v4))) rc rv rb) <| fun rc_1 rv_2 rb_3 =>
    k3 (v4 + (nI 1)) rc_1 rv_2 rb_3
  else
    some (rc, rv, rb)
def p_X3_pushLittle (v0 : Nat) (v1 : Int64) (v3 : Int32) (rc : Nat → Int32) (rv : Nat → Int32) (rb : Nat → Nat → Int32) : Option ((Nat → Int32) × (Nat → Int32) × (Nat → Nat → Int32)) :=
  itr4 (p_X3_pushLittle_L3 v0 v1 v3 ) fu (nI 0) rc rv rb
def p_X3_equalFrom_L4 (v0 : Nat) (v1 : Int32) (v2 : Int32) (la : Nat → Nat → Int64) (k4 : Int32 → Option (Int32)) (v3 : Int32) : Option (Int32) :=
  if v1 < (nI 0) then
    some ((v3 - v1))
  else
    if v3 < v2 then
      if v3 < (nI 200) then
        gd (inb v3 200) <|
        gd (inb v1 200) <|
        if (la v0 (ix v3)) = (la v0 (ix v1)) then
          k4 (v3 + (nI 1))
        else
          some ((v3 - v1))
      else
        some ((v3 - v1))
    else
      some ((v3 - v1))
def p_X3_equalFrom (v0 : Nat) (v1 : Int32) (v2 : Int32) (la : Nat → Nat → Int64) : Option (Int32) :=
  itr1 (p_X3_equalFrom_L4 v0 v1 v2 la ) fu (v1 + (nI 1))
def p_X3_groupsEnd_L5 (v0 : Nat) (v2 : Int32) (la : Nat → Nat → Int64) (k5 : Int32 → Option (Int32)) (v3 : Int32) : Option (Int32) :=
  if v3 < v2 then
    bd1 (p_X3_equalFrom v0 v3 v2 la) <| fun a_1 =>
    if a_1 < (nI 8) then
      k5 (v3 + (nI 8))
    else
      some ((imin v3 v2))
  else
    some ((imin v3 v2))
def p_X3_groupsEnd (v0 : Nat) (v1 : Int32) (v2 : Int32) (la : Nat → Nat → Int64) : Option (Int32) :=
  itr1 (p_X3_groupsEnd_L5 v0 v2 la ) fu (v1 + (nI 8))
def p_X3_pushPacked_L49 (v0 : Nat) (v5 : Int32) (v9 : Int64) (k100 : Int32 → Int32 → (Nat → Int32) → (Nat → Int32) → (Nat → Nat → Int32) → Option ((Nat → Int32) × (Nat → Int32) × (Nat → Nat → Int32))) (k49 : Int32 → Int32 → Int32 → (Nat → Int32) → (Nat → Int32) → (Nat → Nat → Int32) → Option ((Nat → Int32) × (Nat → Int32) × (Nat → Nat → Int32))) (v6 : Int32) (v7 : Int32) (v11 : Int32) (rc : Nat → Int32) (rv : Nat → Int32) (rb : Nat → Nat → Int32) : Option ((Nat → Int32) × (Nat → Int32) × (Nat → Nat → Int32)) :=
  if v11 < v5 then
    if (v7 + (nI 1)) = (nI 8) then
      bd3 (p_X3_push v0 (v6 ||| (ishl (l2i ((lushr v9 v11) &&& (lN 1))) v7)) rc rv rb) <| fun rc_1 rv_2 rb_3 =>
      k49 (nI 0) (nI 0) (v11 + (nI 1)) rc_1 rv_2 rb_3
    else
      k49 (v6 ||| (ishl (l2i ((lushr v9 v11) &&& (lN 1))) v7)) (v7 + (nI 1)) (v11 + (nI 1)) rc rv rb
  else
    k100 v6 v7 rc rv rb
def p_X3_pushPacked_L9 (v0 : Nat) (v1 : Nat) (v2 : Int32) (v3 : Int32) (v4 : Int32) (v5 : Int32) (la : Nat → Nat → Int64) (k9 : Int32 → Int32 → Int32 → (Nat → Int32) → (Nat → Int32) → (Nat → Nat → Int32) → Option ((Nat → Int32) × (Nat → Int32) × (Nat → Nat → Int32))) (v6 : Int32) (v7 : Int32) (v8 : Int32) (rc : Nat → Int32) (rv : Nat → Int32) (rb : Nat → Nat → Int32) : Option ((Nat → Int32) × (Nat → Int32) × (Nat → Nat → Int32)) :=
  if v8 < (v2 + v4) then
    if v8 < (nI 0) then
      itr6 (p_X3_pushPacked_L49 v0 v5 (lN 0) (fun v6_5 v7_6 rc_7 rv_8 rb_9 =>
          k9 v6_5 v7_6 (v8 + (nI 1)) rc_7 rv_8 rb_9)) fu v6 v7 (nI 0) rc rv rb
    else
      if v8 < v3 then
        if v8 < (nI 200) then
          gd (inb v8 200) <|
          itr6 (p_X3_pushPacked_L49 v0 v5 (la v1 (ix v8)) (fun v6_11 v7_12 rc_13 rv_14 rb_15 =>
              k9 v6_11 v7_12 (v8 + (nI 1)) rc_13 rv_14 rb_15)) fu v6 v7 (nI 0) rc rv rb
        else
          itr6 (p_X3_pushPacked_L49 v0 v5 (lN 0) (fun v6_16 v7_17 rc_18 rv_19 rb_20 =>
              k9 v6_16 v7_17 (v8 + (nI 1)) rc_18 rv_19 rb_20)) fu v6 v7 (nI 0) rc rv rb
      else
        itr6 (p_X3_pushPacked_L49 v0 v5 (lN 0) (fun v6_21 v7_22 rc_23 rv_24 rb_25 =>
            k9 v6_21 v7_22 (v8 + (nI 1)) rc_23 rv_24 rb_25)) fu v6 v7 (nI 0) rc rv rb
  else
    some (rc, rv, rb)
def p_X3_pushPacked (v0 : Nat) (v1 : Nat) (v2 : Int32) (v3 : Int32) (v4 : Int32) (v5 : Int32) (rc : Nat → Int32) (rv : Nat → Int32) (rb : Nat → Nat → Int32) (la : Nat → Nat → Int64) : Option ((Nat → Int32) × (Nat → Int32) × (Nat → Nat → Int32)) :=
  itr6 (p_X3_pushPacked_L9 v0 v1 v2 v3 v4 v5 la ) fu (nI 0) (nI 0) v2 rc rv rb
def p_X3_pushRuns_L6 (v0 : Nat) (v1 : Nat) (v2 : Int32) (v3 : Int32) (la : Nat → Nat → Int64) (k6 : Int32 → Int32 → (Nat → Int32) → (Nat → Int32) → (Nat → Nat → Int32) → Option ((Nat → Int32) × (Nat → Int32) × (Nat → Nat → Int32))) (v4 : Int32) (v5 : Int32) (rc : Nat → Int32) (rv : Nat → Int32) (rb : Nat → Nat → Int32) : Option ((Nat → Int32) × (Nat → Int32) × (Nat → Nat → Int32)) :=
  if v5 < v2 then
    if v4 < v2 then
      if v4 < (nI 200) then
        bd1 (p_X3_equalFrom v1 v4 v2 la) <| fun a_1 =>
        if a_1 < (nI 8) then
          bd1 (p_X3_groupsEnd v1 v4 v2 la) <| fun a_3 =>
          bd1 (p_X5_wholeGroups (a_3 - v4)) <| fun a_5 =>
          bd3 (p_X3_pushVar v0 (((lN 2) * (i2l a_5)) + (lN 1)) rc rv rb) <| fun rc_7 rv_8 rb_9 =>
          bd3 (p_X3_pushPacked v0 v1 v4 a_3 (a_5 * (nI 8)) v3 rc_7 rv_8 rb_9 la) <| fun rc_11 rv_12 rb_13 =>
          k6 (v4 + (a_5 * (nI 8))) (v5 + (nI 1)) rc_11 rv_12 rb_13
        else
          bd3 (p_X3_pushVar v0 ((lN 2) * (i2l a_1)) rc rv rb) <| fun rc_15 rv_16 rb_17 =>
          gd (inb v4 200) <|
          bd3 (p_X3_pushLittle v0 (la v1 (ix v4)) ((v3 + (nI 7)) / (nI 8)) rc_15 rv_16 rb_17) <| fun rc_20 rv_21 rb_22 =>
          k6 (v4 + a_1) (v5 + (nI 1)) rc_20 rv_21 rb_22
      else
        some (rc, rv, rb)
    else
      some (rc, rv, rb)
  else
    some (rc, rv, rb)
def p_X3_pushRuns (v0 : Nat) (v1 : Nat) (v2 : Int32) (v3 : Int32) (rc : Nat → Int32) (rv : Nat → Int32) (rb : Nat → Nat → Int32) (la : Nat → Nat → Int64) : Option ((Nat → Int32) × (Nat → Int32) × (Nat → Nat → Int32)) :=
  itr5 (p_X3_pushRuns_L6 v0 v1 v2 v3 la ) fu (nI 0) (nI 0) rc rv rb
def p_X3_set (v0 : Nat) (v1 : Int32) (v2 : Int32) (rc : Nat → Int32) (rb : Nat → Nat → Int32) : Option ((Nat → Nat → Int32)) :=
  if v1 < (nI 0) then
    some (rb)
  else
    if v1 < (rc v0) then
      if v1 < (nI (rlen v0)) then
        gd (inb v1 (rlen v0)) <|
        some ((up rb v0 (up (rb v0) (ix v1) (b8 v2))))
      else
        some (rb)
    else
      some (rb)
def p_X3_tellLength_L11 (v0 : Nat) (v1 : Int32) (v2 : Int32) (rc : Nat → Int32) (k11 : Int32 → (Nat → Nat → Int32) → Option ((Nat → Nat → Int32))) (v3 : Int32) (rb : Nat → Nat → Int32) : Option ((Nat → Nat → Int32)) :=
  if v3 < (nI 4) then
    bd1 (p_X3_set v0 (v1 + v3) (iushr v2 ((nI 8) * v3)) rc rb) <| fun rb_1 =>
    k11 (v3 + (nI 1)) rb_1
  else
    some (rb)
def p_X3_tellLength (v0 : Nat) (v1 : Int32) (rc : Nat → Int32) (rb : Nat → Nat → Int32) : Option ((Nat → Nat → Int32)) :=
  itr2 (p_X3_tellLength_L11 v0 v1 (((rc v0) - v1) - (nI 4)) rc ) fu (nI 0) rb
def p_X2_pushOwnRuns (v1 : Int32) (rc : Nat → Int32) (rv : Nat → Int32) (rb : Nat → Nat → Int32) (la : Nat → Nat → Int64) : Option ((Nat → Int32) × (Nat → Int32) × (Nat → Nat → Int32)) :=
  bd3 (p_X3_pushLittle 3 (lN 0) (nI 4) rc rv rb) <| fun rc_1 rv_2 rb_3 =>
  bd3 (p_X3_pushRuns 3 0 v1 (nI 1) rc_1 rv_2 rb_3 la) <| fun rc_5 rv_6 rb_7 =>
  bd1 (p_X3_tellLength 3 (rc 3) rc_5 rb_7) <| fun rb_9 =>
  some (rc_5, rv_6, rb_9)
def p_X2_pushPlaces_L2 (wch : Nat → Int32) (wcc : Int32) (wpl : Nat → Int32) (k71 : (Nat → Nat → Int64) → Option ((Nat → Int32) × (Nat → Int32) × (Nat → Nat → Int32) × (Nat → Nat → Int64))) (k2 : Int32 → (Nat → Nat → Int64) → Option ((Nat → Int32) × (Nat → Int32) × (Nat → Nat → Int32) × (Nat → Nat → Int64))) (v1 : Int32) (la : Nat → Nat → Int64) : Option ((Nat → Int32) × (Nat → Int32) × (Nat → Nat → Int32) × (Nat → Nat → Int64)) :=
  if v1 < wcc then
    if v1 < (nI 200) then
      if v1 < (nI 200) then
        gd (inb v1 200) <|
        if (wch (ix v1)) < (nI 0) then
          gd (inb v1 200) <|
          k2 (v1 + (nI 1)) (up la 0 (up (la 0) (ix v1) (lN 0)))
        else
          if (wch (ix v1)) < (nI 200) then
            gd (inb (wch (ix v1)) 200) <|
            gd (inb v1 200) <|
            k2 (v1 + (nI 1)) (up la 0 (up (la 0) (ix v1) (i2l (wpl (ix (wch (ix v1)))))))
          else
            gd (inb v1 200) <|
            k2 (v1 + (nI 1)) (up la 0 (up (la 0) (ix v1) (lN 0)))
      else
        k71 la
    else
      k71 la
  else
    k71 la
def p_X2_pushPlaces_J93 (s0 : Int32) (rc : Nat → Int32) (rv : Nat → Int32) (rb : Nat → Nat → Int32) (la : Nat → Nat → Int64) (wcc : Int32) : Option ((Nat → Int32) × (Nat → Int32) × (Nat → Nat → Int32) × (Nat → Nat → Int64)) :=
  bd3 (p_X3_push 3 s0 rc rv rb) <| fun rc_9 rv_10 rb_11 =>
  bd3 (p_X3_pushRuns 3 0 wcc s0 rc_9 rv_10 rb_11 la) <| fun rc_13 rv_14 rb_15 =>
  some (rc_13, rv_14, rb_15, la)
def p_X2_pushPlaces_J71 (rc : Nat → Int32) (rv : Nat → Int32) (rb : Nat → Nat → Int32) (la : Nat → Nat → Int64) (wcc : Int32) (wun : Int32) : Option ((Nat → Int32) × (Nat → Int32) × (Nat → Nat → Int32) × (Nat → Nat → Int64)) :=
  if (nI 1) < wun then
    bd1 (p_X5_bitsOf (i2l (wun - (nI 1)))) <| fun a_7 =>
    p_X2_pushPlaces_J93 a_7 rc rv rb la wcc
  else
    p_X2_pushPlaces_J93 (nI 0) rc rv rb la wcc
def p_X2_pushPlaces (rc : Nat → Int32) (rv : Nat → Int32) (rb : Nat → Nat → Int32) (la : Nat → Nat → Int64) (wch : Nat → Int32) (wcc : Int32) (wpl : Nat → Int32) (wun : Int32) : Option ((Nat → Int32) × (Nat → Int32) × (Nat → Nat → Int32) × (Nat → Nat → Int64)) :=
  itr2 (p_X2_pushPlaces_L2 wch wcc wpl (fun la_6 =>
      p_X2_pushPlaces_J71 rc rv rb la_6 wcc wun)) fu (nI 0) la
def p_X2_pushPlain_J88 (v1 : Nat) (v2 : Int32) (s1 : Int64) (s2 : Int32) (xk : Nat → Int32) (xn : Nat → Nat → Int64) (xl : Nat → Nat → Int32) (rc : Nat → Int32) (rv : Nat → Int32) (rb : Nat → Nat → Int32) (wch : Nat → Int32) (k43 : Int32 → (Nat → Int32) → (Nat → Int32) → (Nat → Nat → Int32) → Option ((Nat → Int32) × (Nat → Int32) × (Nat → Nat → Int32) × (Nat → Nat → Int64))) : Option ((Nat → Int32) × (Nat → Int32) × (Nat → Nat → Int32) × (Nat → Nat → Int64)) :=
  bd3 (p_X3_pushLittle 3 s1 s2 rc rv rb) <| fun rc_12 rv_13 rb_14 =>
  if (xk v1) = (nI 2) then
    gd (inb v2 200) <|
    bd3 (p_X2_pushLetters v1 (wch (ix v2)) xn xl rc_12 rv_13 rb_14) <| fun rc_17 rv_18 rb_19 =>
    k43 (v2 + (nI 1)) rc_17 rv_18 rb_19
  else
    k43 (v2 + (nI 1)) rc_12 rv_13 rb_14
def p_X2_pushPlain_L43 (v1 : Nat) (xk : Nat → Int32) (xn : Nat → Nat → Int64) (xl : Nat → Nat → Int32) (la : Nat → Nat → Int64) (wch : Nat → Int32) (wcc : Int32) (k43 : Int32 → (Nat → Int32) → (Nat → Int32) → (Nat → Nat → Int32) → Option ((Nat → Int32) × (Nat → Int32) × (Nat → Nat → Int32) × (Nat → Nat → Int64))) (v2 : Int32) (rc : Nat → Int32) (rv : Nat → Int32) (rb : Nat → Nat → Int32) : Option ((Nat → Int32) × (Nat → Int32) × (Nat → Nat → Int32) × (Nat → Nat → Int64)) :=
  if v2 < wcc then
    if v2 < (nI 200) then
      gd (inb v2 200) <|
      bd1 (p_X0_numberAt v1 (wch (ix v2)) xn) <| fun a_10 =>
      if (xk v1) = (nI 1) then
        p_X2_pushPlain_J88 v1 v2 a_10 (nI 8) xk xn xl rc rv rb wch k43
      else
        p_X2_pushPlain_J88 v1 v2 a_10 (nI 4) xk xn xl rc rv rb wch k43
    else
      some (rc, rv, rb, la)
  else
    some (rc, rv, rb, la)
def p_X2_pushPlain (v1 : Nat) (xk : Nat → Int32) (xn : Nat → Nat → Int64) (xl : Nat → Nat → Int32) (rc : Nat → Int32) (rv : Nat → Int32) (rb : Nat → Nat → Int32) (la : Nat → Nat → Int64) (wch : Nat → Int32) (wcc : Int32) : Option ((Nat → Int32) × (Nat → Int32) × (Nat → Nat → Int32) × (Nat → Nat → Int64)) :=
  if (xk v1) = (nI 3) then
    bd1 (p_X2_gatherNumbers v1 xn la wch wcc) <| fun la_1 =>
    bd1 (p_X5_wholeGroups wcc) <| fun a_3 =>
    bd3 (p_X3_pushPacked 3 0 (nI 0) wcc (a_3 * (nI 8)) (nI 1) rc rv rb la_1) <| fun rc_5 rv_6 rb_7 =>
    some (rc_5, rv_6, rb_7, la_1)
  else
    itr4 (p_X2_pushPlain_L43 v1 xk xn xl la wch wcc ) fu (nI 0) rc rv rb
def p_X3_append_L25 (v0 : Nat) (v1 : Nat) (k25 : Int32 → (Nat → Int32) → (Nat → Int32) → (Nat → Nat → Int32) → Option ((Nat → Int32) × (Nat → Int32) × (Nat → Nat → Int32))) (v2 : Int32) (rc : Nat → Int32) (rv : Nat → Int32) (rb : Nat → Nat → Int32) : Option ((Nat → Int32) × (Nat → Int32) × (Nat → Nat → Int32)) :=
  if v2 < (rc v1) then
    bd1 (p_X3_get v1 v2 rc rb) <| fun a_1 =>
    bd3 (p_X3_push v0 a_1 rc rv rb) <| fun rc_3 rv_4 rb_5 =>
    k25 (v2 + (nI 1)) rc_3 rv_4 rb_5
  else
    some (rc, rv, rb)
def p_X3_append (v0 : Nat) (v1 : Nat) (rc : Nat → Int32) (rv : Nat → Int32) (rb : Nat → Nat → Int32) : Option ((Nat → Int32) × (Nat → Int32) × (Nat → Nat → Int32)) :=
  if (rv v0) = (nI 0) then
    if (rv v1) = (nI 0) then
      itr4 (p_X3_append_L25 v0 v1 ) fu (nI 0) rc (up rv v0 (nI 0)) rb
    else
      itr4 (p_X3_append_L25 v0 v1 ) fu (nI 0) rc (up rv v0 (nI 1)) rb
  else
    itr4 (p_X3_append_L25 v0 v1 ) fu (nI 0) rc (up rv v0 (nI 1)) rb
def p_X3_clear (v0 : Nat) (rc : Nat → Int32) (rv : Nat → Int32) : Option ((Nat → Int32) × (Nat → Int32)) :=
  some ((up rc v0 (nI 0)), (up rv v0 (nI 0)))
def p_X3_lowerToLeast_L26 (v0 : Nat) (v2 : Int32) (la : Nat → Nat → Int64) (k56 : Int64 → Option (Int64 × (Nat → Nat → Int64))) (k26 : Int64 → Int32 → Option (Int64 × (Nat → Nat → Int64))) (v4 : Int64) (v6 : Int32) : Option (Int64 × (Nat → Nat → Int64)) :=
  if v6 < v2 then
    if v6 < (nI 200) then
      gd (inb v6 200) <|
      k26 (lmin v4 (la v0 (ix v6))) (v6 + (nI 1))
    else
      k56 v4
  else
    k56 v4
def p_X3_lowerToLeast_L63 (v0 : Nat) (v2 : Int32) (v3 : Int32) (v4 : Int64) (k63 : Int32 → (Nat → Nat → Int64) → Option (Int64 × (Nat → Nat → Int64))) (v6 : Int32) (la : Nat → Nat → Int64) : Option (Int64 × (Nat → Nat → Int64)) :=
  if v6 < v2 then
    if v6 < (nI 200) then
      gd (inb v6 200) <|
      if v3 = (nI 0) then
        gd (inb v6 200) <|
        k63 (v6 + (nI 1)) (up la v0 (up (la v0) (ix v6) ((la v0 (ix v6)) - v4)))
      else
        gd (inb v6 200) <|
        k63 (v6 + (nI 1)) (up la v0 (up (la v0) (ix v6) (((la v0 (ix v6)) - v4) &&& (lN 4294967295))))
    else
      some (v4, la)
  else
    some (v4, la)
def p_X3_lowerToLeast (v0 : Nat) (v1 : Int32) (v2 : Int32) (v3 : Int32) (la : Nat → Nat → Int64) : Option (Int64 × (Nat → Nat → Int64)) :=
  if v1 < (nI 0) then
    itr2 (p_X3_lowerToLeast_L26 v0 v2 la (fun v4_2 =>
        itr2 (p_X3_lowerToLeast_L63 v0 v2 v3 v4_2 ) fu (imax v1 (nI 0)) la)) fu (lN 0) (imax v1 (nI 0))
  else
    if v1 < (nI 200) then
      gd (inb v1 200) <|
      itr2 (p_X3_lowerToLeast_L26 v0 v2 la (fun v4_7 =>
          itr2 (p_X3_lowerToLeast_L63 v0 v2 v3 v4_7 ) fu (imax v1 (nI 0)) la)) fu (la v0 (ix v1)) (imax v1 (nI 0))
    else
      itr2 (p_X3_lowerToLeast_L26 v0 v2 la (fun v4_8 =>
          itr2 (p_X3_lowerToLeast_L63 v0 v2 v3 v4_8 ) fu (imax v1 (nI 0)) la)) fu (lN 0) (imax v1 (nI 0))
def p_X3_partWidth_L9 (v0 : Nat) (v1 : Int32) (v2 : Int32) (la : Nat → Nat → Int64) (k9 : Int64 → Int32 → Option (Int32)) (v3 : Int64) (v5 : Int32) : Option (Int32) :=
  if v5 < (v1 + (nI 32)) then
    if v5 < v2 then
      if v5 < (nI 200) then
        gd (inb v5 200) <|
        k9 (v3 ||| (la v0 (ix v5))) (v5 + (nI 1))
      else
        bd1 (p_X5_bitsOf v3) <| fun a_2 =>
        some (a_2)
    else
      bd1 (p_X5_bitsOf v3) <| fun a_4 =>
      some (a_4)
  else
    bd1 (p_X5_bitsOf v3) <| fun a_6 =>
    some (a_6)
def p_X3_partWidth (v0 : Nat) (v1 : Int32) (v2 : Int32) (la : Nat → Nat → Int64) : Option (Int32) :=
  itr2 (p_X3_partWidth_L9 v0 v1 v2 la ) fu (lN 0) (imax v1 (nI 0))
def p_X3_pushBlock_L22 (v0 : Nat) (v1 : Nat) (v2 : Int32) (v3 : Int32) (la : Nat → Nat → Int64) (k50 : (Nat → Int32) → (Nat → Int32) → (Nat → Nat → Int32) → Option ((Nat → Int32) × (Nat → Int32) × (Nat → Nat → Int32) × (Nat → Nat → Int64))) (k22 : Int32 → (Nat → Int32) → (Nat → Int32) → (Nat → Nat → Int32) → Option ((Nat → Int32) × (Nat → Int32) × (Nat → Nat → Int32) × (Nat → Nat → Int64))) (v7 : Int32) (rc : Nat → Int32) (rv : Nat → Int32) (rb : Nat → Nat → Int32) : Option ((Nat → Int32) × (Nat → Int32) × (Nat → Nat → Int32) × (Nat → Nat → Int64)) :=
  if v7 < (nI 4) then
    bd1 (p_X3_partWidth v1 (v2 + (v7 * (nI 32))) v3 la) <| fun a_10 =>
    bd3 (p_X3_push v0 a_10 rc rv rb) <| fun rc_12 rv_13 rb_14 =>
    k22 (v7 + (nI 1)) rc_12 rv_13 rb_14
  else
    k50 rc rv rb
def p_X3_pushBlock_L53 (v0 : Nat) (v1 : Nat) (v2 : Int32) (v3 : Int32) (la : Nat → Nat → Int64) (k53 : Int32 → (Nat → Int32) → (Nat → Int32) → (Nat → Nat → Int32) → Option ((Nat → Int32) × (Nat → Int32) × (Nat → Nat → Int32) × (Nat → Nat → Int64))) (v7 : Int32) (rc : Nat → Int32) (rv : Nat → Int32) (rb : Nat → Nat → Int32) : Option ((Nat → Int32) × (Nat → Int32) × (Nat → Nat → Int32) × (Nat → Nat → Int64)) :=
  if v7 < (nI 4) then
    if (v2 + (v7 * (nI 32))) < v3 then
      bd1 (p_X3_partWidth v1 (v2 + (v7 * (nI 32))) v3 la) <| fun a_19 =>
      bd3 (p_X3_pushPacked v0 v1 (v2 + (v7 * (nI 32))) v3 (nI 32) a_19 rc rv rb la) <| fun rc_21 rv_22 rb_23 =>
      k53 (v7 + (nI 1)) rc_21 rv_22 rb_23
    else
      k53 (v7 + (nI 1)) rc rv rb
  else
    some (rc, rv, rb, la)
def p_X3_pushBlock (v0 : Nat) (v1 : Nat) (v2 : Int32) (v3 : Int32) (v4 : Int32) (rc : Nat → Int32) (rv : Nat → Int32) (rb : Nat → Nat → Int32) (la : Nat → Nat → Int64) : Option ((Nat → Int32) × (Nat → Int32) × (Nat → Nat → Int32) × (Nat → Nat → Int64)) :=
  bd2 (p_X3_lowerToLeast v1 v2 v3 v4 la) <| fun a_1 la_2 =>
  bd1 (p_X5_zigged a_1) <| fun a_4 =>
  bd3 (p_X3_pushVar v0 a_4 rc rv rb) <| fun rc_6 rv_7 rb_8 =>
  itr4 (p_X3_pushBlock_L22 v0 v1 v2 v3 la_2 (fun rc_16 rv_17 rb_18 =>
      itr4 (p_X3_pushBlock_L53 v0 v1 v2 v3 la_2 ) fu (nI 0) rc_16 rv_17 rb_18)) fu (nI 0) rc_6 rv_7 rb_8
def p_X3_pushDifferences_L53 (v1 : Nat) (v3 : Int32) (k94 : (Nat → Nat → Int64) → Option ((Nat → Int32) × (Nat → Int32) × (Nat → Nat → Int32) × (Nat → Nat → Int64))) (k53 : Int32 → (Nat → Nat → Int64) → Option ((Nat → Int32) × (Nat → Int32) × (Nat → Nat → Int32) × (Nat → Nat → Int64))) (v4 : Int32) (la : Nat → Nat → Int64) : Option ((Nat → Int32) × (Nat → Int32) × (Nat → Nat → Int32) × (Nat → Nat → Int64)) :=
  if (nI 0) < v4 then
    gd (inb v4 200) <|
    gd (inb (v4 - (nI 1)) 200) <|
    if v3 = (nI 0) then
      gd (inb v4 200) <|
      k53 (v4 + (-1 : Int32)) (up la v1 (up (la v1) (ix v4) ((la v1 (ix v4)) - (la v1 (ix (v4 - (nI 1)))))))
    else
      gd (inb v4 200) <|
      k53 (v4 + (-1 : Int32)) (up la v1 (up (la v1) (ix v4) (i2l (l2i ((la v1 (ix v4)) - (la v1 (ix (v4 - (nI 1)))))))))
  else
    k94 la
def p_X3_pushDifferences_L97 (v0 : Nat) (v1 : Nat) (v2 : Int32) (v3 : Int32) (k97 : Int32 → (Nat → Int32) → (Nat → Int32) → (Nat → Nat → Int32) → (Nat → Nat → Int64) → Option ((Nat → Int32) × (Nat → Int32) × (Nat → Nat → Int32) × (Nat → Nat → Int64))) (v4 : Int32) (rc : Nat → Int32) (rv : Nat → Int32) (rb : Nat → Nat → Int32) (la : Nat → Nat → Int64) : Option ((Nat → Int32) × (Nat → Int32) × (Nat → Nat → Int32) × (Nat → Nat → Int64)) :=
  if v4 < v2 then
    bd4 (p_X3_pushBlock v0 v1 v4 (imin (imin (v4 + (nI 128)) v2) (nI 200)) v3 rc rv rb la) <| fun rc_25 rv_26 rb_27 la_28 =>
    k97 (v4 + (nI 128)) rc_25 rv_26 rb_27 la_28
  else
    some (rc, rv, rb, la)
def p_X3_pushDifferences_J37 (v0 : Nat) (v1 : Nat) (v2 : Int32) (v3 : Int32) (s0 : Nat) (s1 : Int64) (rc : Nat → Int32) (rv : Nat → Int32) (rb : Nat → Nat → Int32) (la : Nat → Nat → Int64) : Option ((Nat → Int32) × (Nat → Int32) × (Nat → Nat → Int32) × (Nat → Nat → Int64)) :=
  bd1 (p_X5_zigged s1) <| fun a_14 =>
  bd3 (p_X3_pushVar s0 a_14 rc rv rb) <| fun rc_16 rv_17 rb_18 =>
  itr2 (p_X3_pushDifferences_L53 v1 v3 (fun la_24 =>
      itr5 (p_X3_pushDifferences_L97 v0 v1 v2 v3 ) fu (nI 1) rc_16 rv_17 rb_18 la_24)) fu ((imin v2 (nI 200)) - (nI 1)) la
def p_X3_pushDifferences_J36 (v0 : Nat) (v1 : Nat) (v2 : Int32) (v3 : Int32) (s0 : Nat) (rc : Nat → Int32) (rv : Nat → Int32) (rb : Nat → Nat → Int32) (la : Nat → Nat → Int64) : Option ((Nat → Int32) × (Nat → Int32) × (Nat → Nat → Int32) × (Nat → Nat → Int64)) :=
  p_X3_pushDifferences_J37 v0 v1 v2 v3 s0 (lN 0) rc rv rb la
def p_X3_pushDifferences (v0 : Nat) (v1 : Nat) (v2 : Int32) (v3 : Int32) (rc : Nat → Int32) (rv : Nat → Int32) (rb : Nat → Nat → Int32) (la : Nat → Nat → Int64) : Option ((Nat → Int32) × (Nat → Int32) × (Nat → Nat → Int32) × (Nat → Nat → Int64)) :=
  bd3 (p_X3_pushVar v0 (lN 128) rc rv rb) <| fun rc_1 rv_2 rb_3 =>
  bd3 (p_X3_pushVar v0 (lN 4) rc_1 rv_2 rb_3) <| fun rc_5 rv_6 rb_7 =>
  bd3 (p_X3_pushVar v0 (i2l v2) rc_5 rv_6 rb_7) <| fun rc_9 rv_10 rb_11 =>
  if (nI 0) < v2 then
    if (nI 0) < (nI 200) then
      gd (inb (nI 0) 200) <|
      p_X3_pushDifferences_J37 v0 v1 v2 v3 v0 (la v1 (ix (nI 0))) rc_9 rv_10 rb_11 la
    else
      p_X3_pushDifferences_J36 v0 v1 v2 v3 v0 rc_9 rv_10 rb_11 la
  else
    p_X3_pushDifferences_J36 v0 v1 v2 v3 v0 rc_9 rv_10 rb_11 la
def p_X2_dataPage_J172 (v2 : Int32) (v3 : Int32) (v4 : Int32) (rc : Nat → Int32) (rv : Nat → Int32) (rb : Nat → Nat → Int32) (la : Nat → Nat → Int64) (wch : Nat → Int32) (wcc : Int32) : Option ((Nat → Int32) × (Nat → Int32) × (Nat → Nat → Int32) × (Nat → Nat → Int64) × (Nat → Int32) × Int32) :=
  bd3 (p_X2_pushHead (nI 0) (v3 - v2) v4 rc rv rb) <| fun rc_13 rv_14 rb_15 =>
  bd3 (p_X3_append 2 3 rc_13 rv_14 rb_15) <| fun rc_17 rv_18 rb_19 =>
  some (rc_17, rv_18, rb_19, la, wch, wcc)
def p_X2_dataPage_J117 (v2 : Int32) (v3 : Int32) (v4 : Int32) (s2 : Int32) (s3 : Int32) (rc : Nat → Int32) (rv : Nat → Int32) (rb : Nat → Nat → Int32) (la : Nat → Nat → Int64) (wch : Nat → Int32) (wcc : Int32) : Option ((Nat → Int32) × (Nat → Int32) × (Nat → Nat → Int32) × (Nat → Nat → Int64) × (Nat → Int32) × Int32) :=
  bd4 (p_X3_pushDifferences 3 0 s2 s3 rc rv rb la) <| fun rc_49 rv_50 rb_51 la_52 =>
  p_X2_dataPage_J172 v2 v3 v4 rc_49 rv_50 rb_51 la_52 wch wcc
def p_X2_dataPage_J28 (v1 : Nat) (v2 : Int32) (v3 : Int32) (v4 : Int32) (xk : Nat → Int32) (xt : Nat → Nat → Int32) (xn : Nat → Nat → Int64) (xl : Nat → Nat → Int32) (rc : Nat → Int32) (rv : Nat → Int32) (rb : Nat → Nat → Int32) (la : Nat → Nat → Int64) (wch : Nat → Int32) (wcc : Int32) (wpl : Nat → Int32) (wun : Int32) : Option ((Nat → Int32) × (Nat → Int32) × (Nat → Nat → Int32) × (Nat → Nat → Int64) × (Nat → Int32) × Int32) :=
  bd2 (p_X2_chooseThere v1 v2 v3 xt wch wcc) <| fun wch_4 wcc_5 =>
  if v4 = (nI 0) then
    bd4 (p_X2_pushPlain v1 xk xn xl rc rv rb la wch_4 wcc_5) <| fun rc_8 rv_9 rb_10 la_11 =>
    p_X2_dataPage_J172 v2 v3 v4 rc_8 rv_9 rb_10 la_11 wch_4 wcc_5
  else
    if v4 = (nI 1) then
      bd4 (p_X2_pushPlaces rc rv rb la wch_4 wcc_5 wpl wun) <| fun rc_22 rv_23 rb_24 la_25 =>
      p_X2_dataPage_J172 v2 v3 v4 rc_22 rv_23 rb_24 la_25 wch_4 wcc_5
    else
      if v4 = (nI 2) then
        bd4 (p_X2_pushPlaces rc rv rb la wch_4 wcc_5 wpl wun) <| fun rc_28 rv_29 rb_30 la_31 =>
        p_X2_dataPage_J172 v2 v3 v4 rc_28 rv_29 rb_30 la_31 wch_4 wcc_5
      else
        if v4 = (nI 3) then
          bd1 (p_X2_gatherNumbers v1 xn la wch_4 wcc_5) <| fun la_34 =>
          bd3 (p_X2_pushOwnRuns wcc_5 rc rv rb la_34) <| fun rc_36 rv_37 rb_38 =>
          p_X2_dataPage_J172 v2 v3 v4 rc_36 rv_37 rb_38 la_34 wch_4 wcc_5
        else
          if v4 = (nI 4) then
            bd4 (p_X2_pushPlaces rc rv rb la wch_4 wcc_5 wpl wun) <| fun rc_41 rv_42 rb_43 la_44 =>
            p_X2_dataPage_J172 v2 v3 v4 rc_41 rv_42 rb_43 la_44 wch_4 wcc_5
          else
            if v4 = (nI 5) then
              bd1 (p_X2_gatherNumbers v1 xn la wch_4 wcc_5) <| fun la_47 =>
              if (xk v1) = (nI 0) then
                p_X2_dataPage_J117 v2 v3 v4 wcc_5 (nI 1) rc rv rb la_47 wch_4 wcc_5
              else
                p_X2_dataPage_J117 v2 v3 v4 wcc_5 (nI 0) rc rv rb la_47 wch_4 wcc_5
            else
              if v4 = (nI 6) then
                bd1 (p_X2_gatherNumbers v1 xn la wch_4 wcc_5) <| fun la_55 =>
                bd4 (p_X3_pushDifferences 3 0 wcc_5 (nI 1) rc rv rb la_55) <| fun rc_57 rv_58 rb_59 la_60 =>
                bd3 (p_X2_pushAllLetters v1 xn xl rc_57 rv_58 rb_59 wch_4 wcc_5) <| fun rc_62 rv_63 rb_64 =>
                p_X2_dataPage_J172 v2 v3 v4 rc_62 rv_63 rb_64 la_60 wch_4 wcc_5
              else
                bd4 (p_X2_pushPlaces rc rv rb la wch_4 wcc_5 wpl wun) <| fun rc_66 rv_67 rb_68 la_69 =>
                p_X2_dataPage_J172 v2 v3 v4 rc_66 rv_67 rb_68 la_69 wch_4 wcc_5
def p_X2_dataPage (v1 : Nat) (v2 : Int32) (v3 : Int32) (v4 : Int32) (xk : Nat → Int32) (xo : Nat → Int32) (xt : Nat → Nat → Int32) (xn : Nat → Nat → Int64) (xl : Nat → Nat → Int32) (rc : Nat → Int32) (rv : Nat → Int32) (rb : Nat → Nat → Int32) (la : Nat → Nat → Int64) (wch : Nat → Int32) (wcc : Int32) (wpl : Nat → Int32) (wun : Int32) : Option ((Nat → Int32) × (Nat → Int32) × (Nat → Nat → Int32) × (Nat → Nat → Int64) × (Nat → Int32) × Int32) :=
  bd2 (p_X3_clear 3 rc rv) <| fun rc_1 rv_2 =>
  if (xo v1) = (nI 0) then
    p_X2_dataPage_J28 v1 v2 v3 v4 xk xt xn xl rc_1 rv_2 rb la wch wcc wpl wun
  else
    bd1 (p_X2_gatherLevels v1 v2 v3 xt la) <| fun la_71 =>
    bd3 (p_X2_pushOwnRuns (v3 - v2) rc_1 rv_2 rb la_71) <| fun rc_73 rv_74 rb_75 =>
    p_X2_dataPage_J28 v1 v2 v3 v4 xk xt xn xl rc_73 rv_74 rb_75 la_71 wch wcc wpl wun
def p_X2_chooseUnlike_J73 (v2 : Int32) (v3 : Int32) (wch : Nat → Int32) (wcc : Int32) (wpl : Nat → Int32) (k7 : Int32 → (Nat → Int32) → Int32 → (Nat → Int32) → Option ((Nat → Int32) × Int32 × (Nat → Int32) × Int32)) : Option ((Nat → Int32) × Int32 × (Nat → Int32) × Int32) :=
  if v3 = v2 then
    if wcc < (nI 0) then
      k7 (v2 + (nI 1)) wch wcc wpl
    else
      if wcc < (nI 200) then
        gd (inb wcc 200) <|
        gd (inb v2 200) <|
        k7 (v2 + (nI 1)) (up wch (ix wcc) v2) (wcc + (nI 1)) (up wpl (ix v2) wcc)
      else
        k7 (v2 + (nI 1)) wch wcc wpl
  else
    k7 (v2 + (nI 1)) wch wcc wpl
def p_X2_chooseUnlike_J48 (v2 : Int32) (s0 : Int32) (wch : Nat → Int32) (wcc : Int32) (wpl : Nat → Int32) (k7 : Int32 → (Nat → Int32) → Int32 → (Nat → Int32) → Option ((Nat → Int32) × Int32 × (Nat → Int32) × Int32)) : Option ((Nat → Int32) × Int32 × (Nat → Int32) × Int32) :=
  if s0 < (nI 0) then
    p_X2_chooseUnlike_J73 v2 s0 wch wcc wpl k7
  else
    if s0 < v2 then
      gd (inb s0 200) <|
      gd (inb v2 200) <|
      k7 (v2 + (nI 1)) wch wcc (up wpl (ix v2) (wpl (ix s0)))
    else
      p_X2_chooseUnlike_J73 v2 s0 wch wcc wpl k7
def p_X2_chooseUnlike_L7 (v1 : Nat) (xk : Nat → Int32) (xc : Nat → Int32) (xt : Nat → Nat → Int32) (xn : Nat → Nat → Int64) (xl : Nat → Nat → Int32) (k7 : Int32 → (Nat → Int32) → Int32 → (Nat → Int32) → Option ((Nat → Int32) × Int32 × (Nat → Int32) × Int32)) (v2 : Int32) (wch : Nat → Int32) (wcc : Int32) (wpl : Nat → Int32) : Option ((Nat → Int32) × Int32 × (Nat → Int32) × Int32) :=
  if v2 < (xc v1) then
    if v2 < (nI 200) then
      gd (inb v2 200) <|
      bd1 (p_X0_isThere v1 v2 xt) <| fun a_2 =>
      if a_2 = (nI 0) then
        p_X2_chooseUnlike_J48 v2 (-1 : Int32) wch wcc (up wpl (ix v2) (nI 0)) k7
      else
        bd1 (p_X0_firstLike v1 v2 xk xt xn xl) <| fun a_8 =>
        p_X2_chooseUnlike_J48 v2 a_8 wch wcc (up wpl (ix v2) (nI 0)) k7
    else
      some (wch, wcc, wpl, wcc)
  else
    some (wch, wcc, wpl, wcc)
def p_X2_chooseUnlike (v1 : Nat) (xk : Nat → Int32) (xc : Nat → Int32) (xt : Nat → Nat → Int32) (xn : Nat → Nat → Int64) (xl : Nat → Nat → Int32) (wch : Nat → Int32) (wcc : Int32) (wpl : Nat → Int32) (wun : Int32) : Option ((Nat → Int32) × Int32 × (Nat → Int32) × Int32) :=
  itr4 (p_X2_chooseUnlike_L7 v1 xk xc xt xn xl ) fu (nI 0) wch (nI 0) wpl
def p_X2_dictionaryPage (v1 : Nat) (xk : Nat → Int32) (xc : Nat → Int32) (xt : Nat → Nat → Int32) (xn : Nat → Nat → Int64) (xl : Nat → Nat → Int32) (rc : Nat → Int32) (rv : Nat → Int32) (rb : Nat → Nat → Int32) (la : Nat → Nat → Int64) (wch : Nat → Int32) (wcc : Int32) (wpl : Nat → Int32) (wun : Int32) : Option ((Nat → Int32) × (Nat → Int32) × (Nat → Nat → Int32) × (Nat → Nat → Int64) × (Nat → Int32) × Int32 × (Nat → Int32) × Int32) :=
  bd2 (p_X3_clear 3 rc rv) <| fun rc_1 rv_2 =>
  bd4 (p_X2_chooseUnlike v1 xk xc xt xn xl wch wcc wpl wun) <| fun wch_4 wcc_5 wpl_6 wun_7 =>
  bd4 (p_X2_pushPlain v1 xk xn xl rc_1 rv_2 rb la wch_4 wcc_5) <| fun rc_9 rv_10 rb_11 la_12 =>
  bd3 (p_X2_pushHead (nI 2) wun_7 (nI 0) rc_9 rv_10 rb_11) <| fun rc_14 rv_15 rb_16 =>
  bd3 (p_X3_append 2 3 rc_14 rv_15 rb_16) <| fun rc_18 rv_19 rb_20 =>
  some (rc_18, rv_19, rb_20, la_12, wch_4, wcc_5, wpl_6, wun_7)
def p_X2_writePages_L34 (v1 : Nat) (v2 : Int32) (v4 : Int32) (xk : Nat → Int32) (xo : Nat → Int32) (xc : Nat → Int32) (xt : Nat → Nat → Int32) (xn : Nat → Nat → Int64) (xl : Nat → Nat → Int32) (wpl : Nat → Int32) (wun : Int32) (k34 : Int32 → (Nat → Int32) → (Nat → Int32) → (Nat → Nat → Int32) → (Nat → Nat → Int64) → (Nat → Int32) → Int32 → Option ((Nat → Int32) × (Nat → Int32) × (Nat → Nat → Int32) × (Nat → Nat → Int64) × (Nat → Int32) × Int32 × (Nat → Int32) × Int32)) (v5 : Int32) (rc : Nat → Int32) (rv : Nat → Int32) (rb : Nat → Nat → Int32) (la : Nat → Nat → Int64) (wch : Nat → Int32) (wcc : Int32) : Option ((Nat → Int32) × (Nat → Int32) × (Nat → Nat → Int32) × (Nat → Nat → Int64) × (Nat → Int32) × Int32 × (Nat → Int32) × Int32) :=
  if v5 < (xc v1) then
    bd1 (p_X2_codeOf (xk v1) v2) <| fun a_13 =>
    bd6 (p_X2_dataPage v1 v5 (imin (v5 + v4) (xc v1)) a_13 xk xo xt xn xl rc rv rb la wch wcc wpl wun) <| fun rc_15 rv_16 rb_17 la_18 wch_19 wcc_20 =>
    k34 (v5 + v4) rc_15 rv_16 rb_17 la_18 wch_19 wcc_20
  else
    some (rc, rv, rb, la, wch, wcc, wpl, wun)
def p_X2_writePages (v1 : Nat) (v2 : Int32) (v3 : Int32) (xk : Nat → Int32) (xo : Nat → Int32) (xc : Nat → Int32) (xt : Nat → Nat → Int32) (xn : Nat → Nat → Int64) (xl : Nat → Nat → Int32) (rc : Nat → Int32) (rv : Nat → Int32) (rb : Nat → Nat → Int32) (la : Nat → Nat → Int64) (wch : Nat → Int32) (wcc : Int32) (wpl : Nat → Int32) (wun : Int32) : Option ((Nat → Int32) × (Nat → Int32) × (Nat → Nat → Int32) × (Nat → Nat → Int64) × (Nat → Int32) × Int32 × (Nat → Int32) × Int32) :=
  bd2 (p_X3_clear 2 rc rv) <| fun rc_1 rv_2 =>
  if v2 = (nI 1) then
    if (nI 0) < (xc v1) then
      bd8 (p_X2_dictionaryPage v1 xk xc xt xn xl rc_1 rv_2 rb la wch wcc wpl wun) <| fun rc_4 rv_5 rb_6 la_7 wch_8 wcc_9 wpl_10 wun_11 =>
      itr7 (p_X2_writePages_L34 v1 v2 (imax v3 (nI 1)) xk xo xc xt xn xl wpl_10 wun_11 ) fu (nI 0) rc_4 rv_5 rb_6 la_7 wch_8 wcc_9
    else
      itr7 (p_X2_writePages_L34 v1 v2 (imax v3 (nI 1)) xk xo xc xt xn xl wpl wun ) fu (nI 0) rc_1 rv_2 rb la wch wcc
  else
    itr7 (p_X2_writePages_L34 v1 v2 (imax v3 (nI 1)) xk xo xc xt xn xl wpl wun ) fu (nI 0) rc_1 rv_2 rb la wch wcc
def p_X3_shorten (v0 : Nat) (v1 : Int32) (rc : Nat → Int32) : Option ((Nat → Int32)) :=
  some ((up rc v0 (imax (nI 0) (imin v1 (rc v0)))))
def p_X5_columnAt (v1 : Int32) : Option ((Option Nat)) :=
  if v1 < (nI 0) then
    some (none)
  else
    if v1 < (nI 4) then
      gd (inb v1 4) <|
      some ((some (ix v1)))
    else
      some (none)
def p_X5_column (v1 : Int32) (v2 : Int32) (v3 : Int32) (xk : Nat → Int32) (xo : Nat → Int32) (xc : Nat → Int32) : Option (Int32 × (Nat → Int32) × (Nat → Int32) × (Nat → Int32)) :=
  bd1 (p_X5_columnAt v1) <| fun a_1 =>
  mo a_1
    (
      some ((-1 : Int32), xk, xo, xc))
    (fun o_3 => gd (decide (o_3 < 6)) <|
      if v2 < (nI 0) then
        some ((-1 : Int32), xk, xo, xc)
      else
        if (nI 3) < v2 then
          some ((-1 : Int32), xk, xo, xc)
        else
          bd3 (p_X0_begin o_3 v2 v3 xk xo xc) <| fun xk_5 xo_6 xc_7 =>
          some ((xc o_3), xk_5, xo_6, xc_7))
def p_X5_add (v1 : Int32) (v2 : Int64) (xk : Nat → Int32) (xc : Nat → Int32) (xt : Nat → Nat → Int32) (xn : Nat → Nat → Int64) : Option (Int32 × (Nat → Int32) × (Nat → Nat → Int32) × (Nat → Nat → Int64)) :=
  bd1 (p_X5_columnAt v1) <| fun a_1 =>
  mo a_1
    (
      some ((-1 : Int32), xc, xt, xn))
    (fun o_3 => gd (decide (o_3 < 6)) <|
      if (xk o_3) = (nI 2) then
        some ((-2 : Int32), xc, xt, xn)
      else
        if (xc o_3) < (nI 200) then
          bd3 (p_X0_pushNumber o_3 v2 xk xc xt xn) <| fun xc_5 xt_6 xn_7 =>
          some (((xc_5 o_3) - (nI 1)), xc_5, xt_6, xn_7)
        else
          some ((-3 : Int32), xc, xt, xn))
def p_X5_type_L35 (v1 : Int64) (k35 : Int32 → (Nat → Int32) → (Nat → Int32) → (Nat → Nat → Int32) → Option (Int32 × (Nat → Int32) × (Nat → Int32) × (Nat → Nat → Int32))) (v4 : Int32) (rc : Nat → Int32) (rv : Nat → Int32) (rb : Nat → Nat → Int32) : Option (Int32 × (Nat → Int32) × (Nat → Int32) × (Nat → Nat → Int32)) :=
  if v4 < (nI 0) then
    some ((rc 0), rc, rv, rb)
  else
    bd3 (p_X3_push 0 (l2i (lushr v1 ((nI 8) * v4))) rc rv rb) <| fun rc_1 rv_2 rb_3 =>
    k35 (v4 + (-1 : Int32)) rc_1 rv_2 rb_3
def p_X5_type (v1 : Int64) (v3 : Int32) (rc : Nat → Int32) (rv : Nat → Int32) (rb : Nat → Nat → Int32) : Option (Int32 × (Nat → Int32) × (Nat → Int32) × (Nat → Nat → Int32)) :=
  if v3 < (nI 1) then
    some ((-1 : Int32), rc, rv, rb)
  else
    if (nI 8) < v3 then
      some ((-1 : Int32), rc, rv, rb)
    else
      if (nI 40) < ((rc 0) + v3) then
        some ((-3 : Int32), rc, rv, rb)
      else
        itr4 (p_X5_type_L35 v1 ) fu (v3 - (nI 1)) rc rv rb
def p_X5_addText (v1 : Int32) (xk : Nat → Int32) (xc : Nat → Int32) (xt : Nat → Nat → Int32) (xn : Nat → Nat → Int64) (xl : Nat → Nat → Int32) (rc : Nat → Int32) (rv : Nat → Int32) (rb : Nat → Nat → Int32) : Option (Int32 × (Nat → Int32) × (Nat → Nat → Int32) × (Nat → Nat → Int64) × (Nat → Nat → Int32) × (Nat → Int32) × (Nat → Int32)) :=
  bd1 (p_X5_columnAt v1) <| fun a_1 =>
  mo a_1
    (
      some ((-1 : Int32), xc, xt, xn, xl, rc, rv))
    (fun o_3 => gd (decide (o_3 < 6)) <|
      if (xk o_3) = (nI 2) then
        if (xc o_3) < (nI 200) then
          bd4 (p_X0_pushText o_3 0 (nI 0) (rc 0) xc xt xn xl rc rb) <| fun xc_5 xt_6 xn_7 xl_8 =>
          bd2 (p_X3_clear 0 rc rv) <| fun rc_10 rv_11 =>
          some (((xc_5 o_3) - (nI 1)), xc_5, xt_6, xn_7, xl_8, rc_10, rv_11)
        else
          some ((-3 : Int32), xc, xt, xn, xl, rc, rv)
      else
        some ((-2 : Int32), xc, xt, xn, xl, rc, rv))
def p_X5_addNone (v1 : Int32) (xo : Nat → Int32) (xc : Nat → Int32) (xt : Nat → Nat → Int32) (xn : Nat → Nat → Int64) : Option (Int32 × (Nat → Int32) × (Nat → Nat → Int32) × (Nat → Nat → Int64)) :=
  bd1 (p_X5_columnAt v1) <| fun a_1 =>
  mo a_1
    (
      some ((-1 : Int32), xc, xt, xn))
    (fun o_3 => gd (decide (o_3 < 6)) <|
      if (xo o_3) = (nI 0) then
        some ((-2 : Int32), xc, xt, xn)
      else
        if (xc o_3) < (nI 200) then
          bd3 (p_X0_pushNone o_3 xc xt xn) <| fun xc_5 xt_6 xn_7 =>
          some (((xc_5 o_3) - (nI 1)), xc_5, xt_6, xn_7)
        else
          some ((-3 : Int32), xc, xt, xn))
def p_X5_repeat (v1 : Int32) (v2 : Int32) (v3 : Int32) (xk : Nat → Int32) (xc : Nat → Int32) (xt : Nat → Nat → Int32) (xn : Nat → Nat → Int64) (xl : Nat → Nat → Int32) : Option (Int32 × (Nat → Int32) × (Nat → Nat → Int32) × (Nat → Nat → Int64) × (Nat → Nat → Int32)) :=
  bd1 (p_X5_columnAt v1) <| fun a_1 =>
  mo a_1
    (
      some ((-1 : Int32), xc, xt, xn, xl))
    (fun o_3 => gd (decide (o_3 < 6)) <|
      if v2 < (nI 0) then
        some ((-1 : Int32), xc, xt, xn, xl)
      else
        if (xc o_3) < v2 then
          some ((-1 : Int32), xc, xt, xn, xl)
        else
          if v3 < (nI 1) then
            some ((-1 : Int32), xc, xt, xn, xl)
          else
            if (nI 200) < v3 then
              some ((-1 : Int32), xc, xt, xn, xl)
            else
              if (nI 200) < (v2 * v3) then
                some ((-3 : Int32), xc, xt, xn, xl)
              else
                bd4 (p_X0_multiply o_3 v2 v3 xk xc xt xn xl) <| fun xc_5 xt_6 xn_7 xl_8 =>
                some ((xc_5 o_3), xc_5, xt_6, xn_7, xl_8))
def p_X5_told (v1 : Int32) (v2 : Int32) (xk : Nat → Int32) (xo : Nat → Int32) (xc : Nat → Int32) (xt : Nat → Nat → Int32) (xn : Nat → Nat → Int64) (xl : Nat → Nat → Int32) : Option (Int32) :=
  bd1 (p_X5_columnAt v1) <| fun a_1 =>
  mo a_1
    (
      some ((-1 : Int32)))
    (fun o_3 => gd (decide (o_3 < 6)) <|
      if v2 = (nI 0) then
        some ((xk o_3))
      else
        if v2 = (nI 1) then
          if (xo o_3) = (nI 0) then
            some ((nI 0))
          else
            some ((nI 1))
        else
          if v2 = (nI 2) then
            some ((xc o_3))
          else
            if v2 = (nI 3) then
              bd1 (p_X0_countAbsent o_3 xc xt) <| fun a_9 =>
              some (a_9)
            else
              if v2 = (nI 4) then
                bd1 (p_X0_countUnlike o_3 xk xc xt xn xl) <| fun a_12 =>
                some (a_12)
              else
                some ((-1 : Int32)))
def p_X5_has (v1 : Int32) (v2 : Int32) (xc : Nat → Int32) (xt : Nat → Nat → Int32) : Option (Int32) :=
  bd1 (p_X5_columnAt v1) <| fun a_1 =>
  mo a_1
    (
      some ((-1 : Int32)))
    (fun o_3 => gd (decide (o_3 < 6)) <|
      bd1 (p_X0_holds o_3 v2 xc) <| fun a_5 =>
      if a_5 = (nI 0) then
        some ((-1 : Int32))
      else
        bd1 (p_X0_isThere o_3 v2 xt) <| fun a_7 =>
        if a_7 = (nI 0) then
          some ((nI 0))
        else
          some ((nI 1)))
def p_X5_value (v1 : Int32) (v2 : Int32) (xc : Nat → Int32) (xn : Nat → Nat → Int64) : Option (Int64) :=
  bd1 (p_X5_columnAt v1) <| fun a_1 =>
  mo a_1
    (
      some ((lN 0)))
    (fun o_3 => gd (decide (o_3 < 6)) <|
      bd1 (p_X0_holds o_3 v2 xc) <| fun a_5 =>
      if a_5 = (nI 0) then
        some ((lN 0))
      else
        bd1 (p_X0_numberAt o_3 v2 xn) <| fun a_7 =>
        some (a_7))
def p_X5_letter (v1 : Int32) (v2 : Int32) (v3 : Int32) (xk : Nat → Int32) (xc : Nat → Int32) (xt : Nat → Nat → Int32) (xn : Nat → Nat → Int64) (xl : Nat → Nat → Int32) : Option (Int32) :=
  bd1 (p_X5_columnAt v1) <| fun a_1 =>
  mo a_1
    (
      some ((-1 : Int32)))
    (fun o_3 => gd (decide (o_3 < 6)) <|
      if (xk o_3) = (nI 2) then
        bd1 (p_X0_holds o_3 v2 xc) <| fun a_5 =>
        if a_5 = (nI 0) then
          some ((-1 : Int32))
        else
          bd1 (p_X0_isThere o_3 v2 xt) <| fun a_7 =>
          if a_7 = (nI 0) then
            some ((-1 : Int32))
          else
            if v3 < (nI 0) then
              some ((-1 : Int32))
            else
              bd1 (p_X0_numberAt o_3 v2 xn) <| fun a_9 =>
              if (i2l v3) < a_9 then
                bd1 (p_X0_letterAt o_3 v2 v3 xl) <| fun a_11 =>
                some (a_11)
              else
                some ((-1 : Int32))
      else
        some ((-1 : Int32)))
def p_X5_alike (v1 : Int32) (v2 : Int32) (xk : Nat → Int32) (xc : Nat → Int32) (xt : Nat → Nat → Int32) (xn : Nat → Nat → Int64) (xl : Nat → Nat → Int32) : Option (Int32) :=
  bd1 (p_X5_columnAt v1) <| fun a_1 =>
  mo a_1
    (
      bd1 (p_X5_columnAt v2) <| fun a_4 =>
      mo a_4
        (
          some ((-1 : Int32)))
        (fun o_6 => gd (decide (o_6 < 6)) <|
          some ((-1 : Int32))))
    (fun o_3 => gd (decide (o_3 < 6)) <|
      bd1 (p_X5_columnAt v2) <| fun a_9 =>
      mo a_9
        (
          some ((-1 : Int32)))
        (fun o_11 => gd (decide (o_11 < 6)) <|
          bd1 (p_X0_isLike o_3 o_11 xk xc xt xn xl) <| fun a_13 =>
          if a_13 = (nI 0) then
            some ((nI 0))
          else
            some ((nI 1))))
def p_X5_write_J78 (s0 : Int32) (rc : Nat → Int32) (rv : Nat → Int32) (rb : Nat → Nat → Int32) (la : Nat → Nat → Int64) (wch : Nat → Int32) (wcc : Int32) (wpl : Nat → Int32) (wun : Int32) : Option (Int32 × (Nat → Int32) × (Nat → Int32) × (Nat → Nat → Int32) × (Nat → Nat → Int64) × (Nat → Int32) × Int32 × (Nat → Int32) × Int32) :=
  if (rv 2) = (nI 0) then
    if (nI 12000) < (s0 + (rc 2)) then
      some ((-3 : Int32), rc, rv, rb, la, wch, wcc, wpl, wun)
    else
      bd1 (p_X3_shorten 1 s0 rc) <| fun rc_14 =>
      bd3 (p_X3_append 1 2 rc_14 rv rb) <| fun rc_16 rv_17 rb_18 =>
      some ((rc_16 1), rc_16, rv_17, rb_18, la, wch, wcc, wpl, wun)
  else
    some ((-3 : Int32), rc, rv, rb, la, wch, wcc, wpl, wun)
def p_X5_write_J51 (v2 : Int32) (v3 : Int32) (v4 : Int32) (v5 : Nat) (xk : Nat → Int32) (xo : Nat → Int32) (xc : Nat → Int32) (xt : Nat → Nat → Int32) (xn : Nat → Nat → Int64) (xl : Nat → Nat → Int32) (rc : Nat → Int32) (rv : Nat → Int32) (rb : Nat → Nat → Int32) (la : Nat → Nat → Int64) (wch : Nat → Int32) (wcc : Int32) (wpl : Nat → Int32) (wun : Int32) : Option (Int32 × (Nat → Int32) × (Nat → Int32) × (Nat → Nat → Int32) × (Nat → Nat → Int64) × (Nat → Int32) × Int32 × (Nat → Int32) × Int32) :=
  bd8 (p_X2_writePages v5 v2 v3 xk xo xc xt xn xl rc rv rb la wch wcc wpl wun) <| fun rc_5 rv_6 rb_7 la_8 wch_9 wcc_10 wpl_11 wun_12 =>
  if v4 = (nI 0) then
    p_X5_write_J78 (nI 0) rc_5 rv_6 rb_7 la_8 wch_9 wcc_10 wpl_11 wun_12
  else
    p_X5_write_J78 (rc_5 1) rc_5 rv_6 rb_7 la_8 wch_9 wcc_10 wpl_11 wun_12
def p_X5_write (v1 : Int32) (v2 : Int32) (v3 : Int32) (v4 : Int32) (xk : Nat → Int32) (xo : Nat → Int32) (xc : Nat → Int32) (xt : Nat → Nat → Int32) (xn : Nat → Nat → Int64) (xl : Nat → Nat → Int32) (rc : Nat → Int32) (rv : Nat → Int32) (rb : Nat → Nat → Int32) (la : Nat → Nat → Int64) (wch : Nat → Int32) (wcc : Int32) (wpl : Nat → Int32) (wun : Int32) : Option (Int32 × (Nat → Int32) × (Nat → Int32) × (Nat → Nat → Int32) × (Nat → Nat → Int64) × (Nat → Int32) × Int32 × (Nat → Int32) × Int32) :=
  bd1 (p_X5_columnAt v1) <| fun a_1 =>
  mo a_1
    (
      some ((-1 : Int32), rc, rv, rb, la, wch, wcc, wpl, wun))
    (fun o_3 => gd (decide (o_3 < 6)) <|
      if v2 < (nI 0) then
        some ((-1 : Int32), rc, rv, rb, la, wch, wcc, wpl, wun)
      else
        if (nI 2) < v2 then
          some ((-1 : Int32), rc, rv, rb, la, wch, wcc, wpl, wun)
        else
          if v3 < (nI 1) then
            some ((-1 : Int32), rc, rv, rb, la, wch, wcc, wpl, wun)
          else
            if (nI 200) < v3 then
              some ((-1 : Int32), rc, rv, rb, la, wch, wcc, wpl, wun)
            else
              if v2 = (nI 1) then
                if (xk o_3) = (nI 3) then
                  some ((-1 : Int32), rc, rv, rb, la, wch, wcc, wpl, wun)
                else
                  p_X5_write_J51 v2 v3 v4 o_3 xk xo xc xt xn xl rc rv rb la wch wcc wpl wun
              else
                p_X5_write_J51 v2 v3 v4 o_3 xk xo xc xt xn xl rc rv rb la wch wcc wpl wun)
def p_X5_read (v1 : Int32) (xk : Nat → Int32) (xo : Nat → Int32) (xc : Nat → Int32) (xt : Nat → Nat → Int32) (xn : Nat → Nat → Int64) (xl : Nat → Nat → Int32) (rc : Nat → Int32) (rb : Nat → Nat → Int32) (la : Nat → Nat → Int64) (srow : Option Nat) (ssp : Int32) (sen : Int32) (str : Int32) (stp : Int32) (swd : Nat → Int32) (rwp : Int32) (rdr : Int32) (rpd : Int32) (rpv : Int32) (rpc : Int32) (rzp : Int32) : Option (Int32 × (Nat → Int32) × (Nat → Int32) × (Nat → Int32) × (Nat → Nat → Int32) × (Nat → Nat → Int64) × (Nat → Nat → Int32) × (Nat → Nat → Int64) × (Option Nat) × Int32 × Int32 × Int32 × Int32 × (Nat → Int32) × Int32 × Int32 × Int32 × Int32 × Int32 × Int32) :=
  bd1 (p_X5_columnAt v1) <| fun a_1 =>
  mo a_1
    (
      some ((-1 : Int32), xk, xo, xc, xt, xn, xl, la, srow, ssp, sen, str, stp, swd, rwp, rdr, rpd, rpv, rpc, rzp))
    (fun o_3 => gd (decide (o_3 < 6)) <|
      bd19 (p_X1_readPages 1 (xk o_3) (xo o_3) xk xo xc xt xn xl rc rb la srow ssp sen str stp swd rwp rdr rpd rpv rpc rzp) <| fun xk_5 xo_6 xc_7 xt_8 xn_9 xl_10 la_11 srow_12 ssp_13 sen_14 str_15 stp_16 swd_17 rwp_18 rdr_19 rpd_20 rpv_21 rpc_22 rzp_23 =>
      bd1 (p_X4_isSound str_15) <| fun a_25 =>
      if a_25 = (nI 0) then
        some (((-10 : Int32) - str_15), xk_5, xo_6, xc_7, xt_8, xn_9, xl_10, la_11, srow_12, ssp_13, sen_14, str_15, stp_16, swd_17, rwp_18, rdr_19, rpd_20, rpv_21, rpc_22, rzp_23)
      else
        bd6 (p_X0_become o_3 4 xk_5 xo_6 xc_7 xt_8 xn_9 xl_10) <| fun xk_27 xo_28 xc_29 xt_30 xn_31 xl_32 =>
        some ((xc_29 o_3), xk_27, xo_28, xc_29, xt_30, xn_31, xl_32, la_11, srow_12, ssp_13, sen_14, str_15, stp_16, swd_17, rwp_18, rdr_19, rpd_20, rpv_21, rpc_22, rzp_23))
def p_X5_fault (v1 : Int32) (xc : Nat → Int32) (str : Int32) (stp : Int32) (rwp : Int32) : Option (Int32) :=
  if v1 = (nI 0) then
    some (str)
  else
    if v1 = (nI 1) then
      some (stp)
    else
      if v1 = (nI 2) then
        some (rwp)
      else
        if v1 = (nI 3) then
          some ((xc 5))
        else
          some ((-1 : Int32))
def p_X5_size (rc : Nat → Int32) : Option (Int32) :=
  some ((rc 1))
def p_X5_byteAt (v1 : Int32) (rc : Nat → Int32) (rb : Nat → Nat → Int32) : Option (Int32) :=
  if v1 < (nI 0) then
    some ((-1 : Int32))
  else
    if v1 < (rc 1) then
      bd1 (p_X3_get 1 v1 rc rb) <| fun a_1 =>
      some (a_1)
    else
      some ((-1 : Int32))
def p_X5_poke (v1 : Int32) (v2 : Int32) (rc : Nat → Int32) (rb : Nat → Nat → Int32) : Option (Int32 × (Nat → Nat → Int32)) :=
  if v1 < (nI 0) then
    some ((-1 : Int32), rb)
  else
    if v1 < (rc 1) then
      bd1 (p_X3_get 1 v1 rc rb) <| fun a_1 =>
      bd1 (p_X3_set 1 v1 (a_1 ^^^ v2) rc rb) <| fun rb_3 =>
      bd1 (p_X3_get 1 v1 rc rb_3) <| fun a_5 =>
      some (a_5, rb_3)
    else
      some ((-1 : Int32), rb)
def p_X5_cut (v1 : Int32) (rc : Nat → Int32) : Option (Int32 × (Nat → Int32)) :=
  if v1 < (nI 0) then
    some ((-1 : Int32), rc)
  else
    if (rc 1) < v1 then
      some ((-1 : Int32), rc)
    else
      bd1 (p_X3_shorten 1 v1 rc) <| fun rc_1 =>
      some (((rc 1) - v1), rc_1)
def p_X5_put (v1 : Int64) (v3 : Int32) (rc : Nat → Int32) (rv : Nat → Int32) (rb : Nat → Nat → Int32) : Option (Int32 × (Nat → Int32) × (Nat → Int32) × (Nat → Nat → Int32)) :=
  if v3 < (nI 1) then
    some ((-1 : Int32), rc, rv, rb)
  else
    if (nI 8) < v3 then
      some ((-1 : Int32), rc, rv, rb)
    else
      if (nI 12000) < ((rc 1) + v3) then
        some ((-3 : Int32), rc, rv, rb)
      else
        bd3 (p_X3_pushLittle 1 v1 v3 rc rv rb) <| fun rc_1 rv_2 rb_3 =>
        some ((rc_1 1), rc_1, rv_2, rb_3)
end
section
/-! rows on bits, shifts and unsigned numbers, to paste: each family out of a closed proof of our own, whole with what it rests on; each by itself clean at Lean in its own claim (generation 39, form 5). Take a family whole -/
/-! ===== Int32 by its bits: bt x i ===== -/
def bt (x : Int32) (i : Nat) : Bool := x.toBitVec.getLsbD i
theorem b_ext {x y : Int32} (h : ∀ i, i < 32 → bt x i = bt y i) : x = y := Int32.toBitVec_inj.mp (BitVec.eq_of_getLsbD_eq (fun i hi => h i hi))
theorem b_or (x y : Int32) (i : Nat) : bt (x ||| y) i = (bt x i || bt y i) := by unfold bt; rw [Int32.toBitVec_or, BitVec.getLsbD_or]
theorem b_and (x y : Int32) (i : Nat) : bt (x &&& y) i = (bt x i && bt y i) := by unfold bt; rw [Int32.toBitVec_and, BitVec.getLsbD_and]
theorem b_xor (x y : Int32) (i : Nat) : bt (x ^^^ y) i = (bt x i ^^ bt y i) := by unfold bt; rw [Int32.toBitVec_xor, BitVec.getLsbD_xor]
theorem b_big {x : Int32} {i : Nat} (h : 32 ≤ i) : bt x i = false := BitVec.getLsbD_of_ge _ _ h
theorem b_255 (i : Nat) : bt 255 i = decide (i < 8) := by
  rcases Nat.lt_or_ge i 32 with h | h
  · exact (by decide +kernel : ∀ i, i < 32 → bt 255 i = decide (i < 8)) i h
  · rw [b_big h, decide_eq_false (by omega)]
theorem b_65535 (i : Nat) : bt 65535 i = decide (i < 16) := by
  rcases Nat.lt_or_ge i 32 with h | h
  · exact (by decide +kernel : ∀ i, i < 32 → bt 65535 i = decide (i < 16)) i h
  · rw [b_big h, decide_eq_false (by omega)]
theorem b_m1 : ∀ i, i < 32 → bt (-1) i = true := by decide +kernel
theorem b_0 (i : Nat) : bt 0 i = false := BitVec.getLsbD_zero
theorem s_l : ∀ n, n < 32 → ((nI n &&& 31).toBitVec.smod 32).toNat = n := by decide +kernel
theorem s_u : ∀ n, n < 32 → (((nI n).toUInt32 &&& Int32.toUInt32 31).toBitVec % 32).toNat = n := by decide +kernel
theorem b_shl (n : Nat) (hn : n < 32) (x : Int32) {i : Nat} (hi : i < 32) : bt (x <<< (nI n &&& 31)) i = (decide (n ≤ i) && bt x (i - n)) := by
  unfold bt
  rw [Int32.toBitVec_shiftLeft]
  show (x.toBitVec <<< ((nI n &&& 31).toBitVec.smod 32).toNat).getLsbD i = _
  rw [s_l n hn, BitVec.getLsbD_shiftLeft]
  rcases Nat.lt_or_ge i n with h | h
  · simp [h, Nat.not_le.mpr h]
  · simp [hi, h, Nat.not_lt.mpr h]
theorem b_ushr (n : Nat) (hn : n < 32) (x : Int32) (i : Nat) : bt ((x.toUInt32 >>> ((nI n).toUInt32 &&& Int32.toUInt32 31)).toInt32) i = bt x (n + i) := by
  show (x.toUInt32 >>> ((nI n).toUInt32 &&& Int32.toUInt32 31)).toBitVec.getLsbD i = x.toUInt32.toBitVec.getLsbD (n + i)
  rw [UInt32.toBitVec_shiftRight]
  show (x.toUInt32.toBitVec >>> (((nI n).toUInt32 &&& Int32.toUInt32 31).toBitVec % 32).toNat).getLsbD i = _
  rw [s_u n hn, BitVec.getLsbD_ushiftRight]
theorem b_sshr (n : Nat) (hn : n < 32) (x : Int32) {i : Nat} (hi : i < 32) : bt (x >>> (nI n &&& 31)) i = if n + i < 32 then bt x (n + i) else bt x 31 := by
  unfold bt
  rw [Int32.toBitVec_shiftRight]
  show (x.toBitVec.sshiftRight ((nI n &&& 31).toBitVec.smod 32).toNat).getLsbD i = _
  rw [s_l n hn, BitVec.getLsbD_sshiftRight, BitVec.msb_eq_getLsbD_last]
  simp [hi]
theorem b_shl8 (x : Int32) {i : Nat} (hi : i < 32) : bt (x <<< ((8 : Int32) &&& 31)) i = (decide (8 ≤ i) && bt x (i - 8)) := b_shl 8 (by omega) x hi
theorem b_shl16 (x : Int32) {i : Nat} (hi : i < 32) : bt (x <<< ((16 : Int32) &&& 31)) i = (decide (16 ≤ i) && bt x (i - 16)) := b_shl 16 (by omega) x hi
theorem b_shl24 (x : Int32) {i : Nat} (hi : i < 32) : bt (x <<< ((24 : Int32) &&& 31)) i = (decide (24 ≤ i) && bt x (i - 24)) := b_shl 24 (by omega) x hi
theorem b_sshr8 (x : Int32) {i : Nat} (hi : i < 32) : bt (x >>> ((8 : Int32) &&& 31)) i = if 8 + i < 32 then bt x (8 + i) else bt x 31 := b_sshr 8 (by omega) x hi
/-! ===== nI under and, xor, >>>, one bit, 65535 ===== -/
theorem nx_and (a b : Nat) : nI a &&& nI b = nI (a &&& b) := by
  apply Int32.toBitVec_inj.1
  show BitVec.ofNat 32 a &&& BitVec.ofNat 32 b = BitVec.ofNat 32 (a &&& b)
  apply BitVec.eq_of_getLsbD_eq
  intro i hi
  simp [hi]
theorem nx_xor (a b : Nat) : nI a ^^^ nI b = nI (a ^^^ b) := by
  apply Int32.toBitVec_inj.1
  show BitVec.ofNat 32 a ^^^ BitVec.ofNat 32 b = BitVec.ofNat 32 (a ^^^ b)
  apply BitVec.eq_of_getLsbD_eq
  intro i hi
  simp [hi]
theorem nx_cnt : ∀ j : Fin 32, (UInt32.ofNat j.val &&& Int32.toUInt32 31).toNat % 32 = j.val := by decide +kernel
theorem nx_ush {k j : Nat} (hk : k < 65536) (hj : j < 32) : ((nI k).toUInt32 >>> ((nI j).toUInt32 &&& Int32.toUInt32 31)).toInt32 = nI (k >>> j) := by
  have hs : k >>> j ≤ k := by
    rw [Nat.shiftRight_eq_div_pow]
    exact Nat.div_le_self _ _
  have e2 : UInt32.ofNat k >>> (UInt32.ofNat j &&& Int32.toUInt32 31) = UInt32.ofNat (k >>> j) := by
    apply UInt32.toNat_inj.1
    have h1 : (UInt32.ofNat k).toNat = k := Nat.mod_eq_of_lt (by omega)
    have h2 : (UInt32.ofNat (k >>> j)).toNat = k >>> j := Nat.mod_eq_of_lt (by omega)
    rw [UInt32.toNat_shiftRight, nx_cnt ⟨j, hj⟩, h1, h2]
  show (UInt32.ofNat k >>> (UInt32.ofNat j &&& Int32.toUInt32 31)).toInt32 = _
  rw [e2]
  rfl
theorem nx_bit {k j : Nat} (hk : k < 65536) (hj : j < 16) : (((nI k).toUInt32 >>> ((nI j).toUInt32 &&& Int32.toUInt32 31)).toInt32 &&& 1) = 0 ↔ k.testBit j = false := by
  rw [nx_ush hk (by omega)]
  show nI (k >>> j) &&& nI 1 = 0 ↔ _
  rw [nx_and, Nat.and_one_is_mod, ← nI_0, nI_eq (by omega) (by omega), Nat.testBit_eq_decide_div_mod_eq, Nat.shiftRight_eq_div_pow, decide_eq_false_iff_not]
  generalize k / 2 ^ j = z
  omega
theorem nx_mod (k : Nat) : nI k &&& 65535 = nI (k % 65536) := by
  show nI k &&& nI 65535 = _
  rw [nx_and, show (65535 : Nat) = 2 ^ 16 - 1 from rfl, Nat.and_two_pow_sub_one_eq_mod]
theorem nx_m16 {k : Nat} (h : k < 65536) : nI k &&& 65535 = nI k := by rw [nx_mod, Nat.mod_eq_of_lt h]
theorem nx_mask (x : Int32) : ∃ k, k < 65536 ∧ x &&& 65535 = nI k := by
  have e : x = nI x.toBitVec.toNat := by
    apply Int32.toBitVec_inj.1
    show x.toBitVec = BitVec.ofNat 32 x.toBitVec.toNat
    simp
  refine ⟨x.toBitVec.toNat % 65536, Nat.mod_lt _ (by omega), ?_⟩
  rw [← nx_mod, ← e]
/-! ===== Int32 as a set of bits: test, set ===== -/
def nf_M (m : Int32) : Nat := 4294967296 - m.toBitVec.toNat
theorem nf_sh : ∀ l, l < 32 → ((1 : Int32) <<< (nI l &&& 31)).toBitVec = BitVec.twoPow 32 l := by decide +kernel
theorem nf_sl : ∀ l, l < 32 → (((nI l).toUInt32 &&& Int32.toUInt32 31).toBitVec % 32).toNat = l := by decide +kernel
theorem nf_tp : ∀ l, l < 32 → BitVec.twoPow 32 l ≠ 0#32 := by decide +kernel
theorem nf_bit (m : Int32) (l : Nat) (hl : l < 32) : ((m.toUInt32 >>> ((nI l).toUInt32 &&& Int32.toUInt32 31)).toInt32 &&& 1) = 0 ↔ (m &&& ((1 : Int32) <<< (nI l &&& 31))) = 0 := by
  have e : ((m.toUInt32 >>> ((nI l).toUInt32 &&& Int32.toUInt32 31)).toInt32).toBitVec = m.toBitVec >>> l := by
    show m.toBitVec >>> (((nI l).toUInt32 &&& Int32.toUInt32 31).toBitVec % 32) = m.toBitVec >>> l
    rw [BitVec.ushiftRight_eq', nf_sl l hl]
  rw [← Int32.toBitVec_inj, ← Int32.toBitVec_inj, Int32.toBitVec_and, Int32.toBitVec_and, nf_sh l hl, e, BitVec.and_twoPow]
  show (m.toBitVec >>> l &&& 1#32) = 0#32 ↔ _ = 0#32
  rw [BitVec.and_one_eq_setWidth_ofBool_getLsbD, BitVec.getLsbD_ushiftRight, Nat.add_zero]
  cases hb : m.toBitVec.getLsbD l
  · exact ⟨fun _ => by simp, fun _ => by decide⟩
  · exact ⟨fun z => absurd z (by decide), fun z => absurd ((if_pos rfl).symm.trans z) (nf_tp l hl)⟩
theorem nf_gr (m k : Int32) (h : m &&& k = 0) (hk : k ≠ 0) : nf_M (m ||| k) < nf_M m := by
  have hm := m.toBitVec.isLt
  have hm' := (m ||| k).toBitVec.isLt
  have h1 : m.toBitVec.toNat ≤ (m ||| k).toBitVec.toNat := by
    rw [Int32.toBitVec_or, BitVec.toNat_or]
    exact Nat.left_le_or
  have h2 : m.toBitVec.toNat ≠ (m ||| k).toBitVec.toNat := by
    intro e
    have e2 : m = m ||| k := Int32.toBitVec_inj.mp (BitVec.eq_of_toNat_eq e)
    apply hk
    apply Int32.toBitVec_inj.mp
    show k.toBitVec = 0#32
    apply BitVec.eq_of_getLsbD_eq
    intro i hi
    have a : m.toBitVec.getLsbD i = (m.toBitVec.getLsbD i || k.toBitVec.getLsbD i) := by rw [← BitVec.getLsbD_or, ← Int32.toBitVec_or, ← e2]
    have b : (m.toBitVec.getLsbD i && k.toBitVec.getLsbD i) = false := by
      rw [← BitVec.getLsbD_and, ← Int32.toBitVec_and, h]
      exact BitVec.getLsbD_zero
    rw [BitVec.getLsbD_zero]
    revert a b
    cases m.toBitVec.getLsbD i <;> cases k.toBitVec.getLsbD i <;> simp
  unfold nf_M
  omega
/-! ===== a byte read unsigned ===== -/
theorem bp_b (x : Int32) : x.toInt8.toInt32 &&& 255 = x &&& 255 := by
  apply Int32.toBitVec_inj.mp
  rw [Int32.toBitVec_and, Int32.toBitVec_and, Int8.toBitVec_toInt32, Int32.toBitVec_toInt8]
  apply BitVec.eq_of_getLsbD_eq
  intro i hi
  rw [BitVec.getLsbD_and, BitVec.getLsbD_and]
  have hm : ∀ i < 32, 8 ≤ i → (255 : Int32).toBitVec.getLsbD i = false := by decide
  rcases Nat.lt_or_ge i 8 with z | z
  · rw [BitVec.getLsbD_signExtend, BitVec.getLsbD_signExtend, if_pos z, if_pos hi]
    simp only [z, hi, decide_true, Bool.true_and]
  · rw [hm i hi z]; simp
/-! ===== the char cast and 65535 ===== -/

/-! ===== Int64 as a set of bits: test, set, clear ===== -/
theorem ts_nf {x : Bool} (h : ¬ x = false) : x = true := by cases x <;> first | rfl | exact absurd rfl h
theorem ts_nt {x : Bool} (h : ¬ x = true) : x = false := by cases x <;> first | rfl | exact absurd rfl h
theorem ts_bit {w : Int64} {s : UInt64} {j : Nat} (hj : j < 64) (hs : s.toNat = j) : ((w.toUInt64 >>> s).toInt64 &&& 1) = 0 ↔ w.toBitVec.getLsbD j = false := by
  have e : (w.toUInt64 >>> s).toInt64.toBitVec = w.toBitVec >>> j := by
    apply BitVec.eq_of_toNat_eq
    show (w.toUInt64 >>> s).toNat = _
    rw [UInt64.toNat_shiftRight, hs, Nat.mod_eq_of_lt hj, BitVec.toNat_ushiftRight]
    rfl
  rw [← Int64.toBitVec_inj, Int64.toBitVec_and, e]
  show w.toBitVec >>> j &&& 1#64 = 0#64 ↔ _
  constructor
  · intro h
    have t := congrArg (fun x => x.getLsbD 0) h
    simpa using t
  · intro h
    apply BitVec.eq_of_getLsbD_eq
    intro i hi
    cases i with
    | zero => simp [h]
    | succ i => simp
theorem ts_or {w m : Int64} {j : Nat} (hj : j < 64) (hm : m.toBitVec = BitVec.twoPow 64 j) : (w ||| m) = w ↔ w.toBitVec.getLsbD j = true := by
  rw [← Int64.toBitVec_inj, Int64.toBitVec_or, hm]
  constructor
  · intro h
    have t := congrArg (fun x => x.getLsbD j) h
    simp only [BitVec.getLsbD_or, BitVec.getLsbD_twoPow] at t
    simpa [hj] using t.symm
  · intro h
    apply BitVec.eq_of_getLsbD_eq
    intro i hi
    rw [BitVec.getLsbD_or, BitVec.getLsbD_twoPow]
    by_cases e : j = i
    · subst e; rw [h, Bool.true_or]
    · simp [e]
theorem ts_and {w m : Int64} {j : Nat} (hj : j < 64) (hm : m.toBitVec = BitVec.twoPow 64 j) : (w &&& (m ^^^ (-1))) = w ↔ w.toBitVec.getLsbD j = false := by
  have ha : (-1 : Int64).toBitVec = BitVec.allOnes 64 := by decide
  rw [← Int64.toBitVec_inj, Int64.toBitVec_and, Int64.toBitVec_xor, hm, ha]
  constructor
  · intro h
    have t := congrArg (fun x => x.getLsbD j) h
    simp only [BitVec.getLsbD_and, BitVec.getLsbD_xor, BitVec.getLsbD_twoPow, BitVec.getLsbD_allOnes] at t
    simpa [hj] using t.symm
  · intro h
    apply BitVec.eq_of_getLsbD_eq
    intro i hi
    rw [BitVec.getLsbD_and, BitVec.getLsbD_xor, BitVec.getLsbD_twoPow, BitVec.getLsbD_allOnes]
    by_cases e : j = i
    · subst e; rw [h, Bool.false_and]
    · simp [e, hi]
/-! ===== lN n to 2^64: shifts, and, or, masks, one bit ===== -/
theorem wb_tb (n : Nat) : (lN n).toBitVec = BitVec.ofNat 64 n := rfl
theorem wb_inj {a b : Int64} (h : a.toBitVec = b.toBitVec) : a = b := Int64.toBitVec_inj.mp h
theorem wb_tn {n : Nat} (h : n < 2 ^ 64) : (lN n).toBitVec.toNat = n := by rw [wb_tb, BitVec.toNat_ofNat, Nat.mod_eq_of_lt h]
theorem wb_of (x : Int64) : ∃ n, n < 2 ^ 64 ∧ x = lN n := ⟨x.toBitVec.toNat, x.toBitVec.isLt, wb_inj (by rw [wb_tb]; simp)⟩
theorem wb_of32 (x : Int32) : ∃ n, n < 2 ^ 32 ∧ x = nI n := ⟨x.toBitVec.toNat, x.toBitVec.isLt, Int32.toBitVec_inj.mp (by show _ = BitVec.ofNat 32 _; simp)⟩
theorem wb_c : ∀ k, k < 64 → ((nI k).toInt64 &&& 63) = lN k := by decide +kernel
theorem wb_cu : ∀ k, k < 64 → ((nI k).toInt64.toUInt64 &&& Int64.toUInt64 63) = UInt64.ofNat k := by decide +kernel
theorem wb_sm : ∀ k, k < 64 → (BitVec.ofNat 64 k).smod 64 = BitVec.ofNat 64 k := by decide +kernel
theorem wb_pw {a b : Nat} (h : a ≤ b) : 2 ^ b = 2 ^ a * 2 ^ (b - a) := by rw [← Nat.pow_add]; congr 1; omega
theorem wb_lt2 {a b : Nat} (h : a < b) : 2 ^ a < 2 ^ b := Nat.pow_lt_pow_right (by decide) h
theorem wb_mod (n : Nat) : lN n = lN (n % 2 ^ 64) := wb_inj (by rw [wb_tb, wb_tb]; apply BitVec.eq_of_toNat_eq; rw [BitVec.toNat_ofNat, BitVec.toNat_ofNat, Nat.mod_mod])
theorem wb_shr {n k : Nat} (hn : n < 2 ^ 64) (hk : k < 64) : ((lN n).toUInt64 >>> ((nI k).toInt64.toUInt64 &&& Int64.toUInt64 63)).toInt64 = lN (n / 2 ^ k) := by
  rw [wb_cu k hk]
  apply wb_inj
  apply BitVec.eq_of_toNat_eq
  show ((lN n).toUInt64 >>> UInt64.ofNat k).toNat = (BitVec.ofNat 64 _).toNat
  have h1 : (UInt64.ofNat k).toNat = k := by
    show (BitVec.ofNat 64 k).toNat = k
    rw [BitVec.toNat_ofNat, Nat.mod_eq_of_lt (by omega)]
  have h2 : (lN n).toUInt64.toNat = n := wb_tn hn
  rw [UInt64.toNat_shiftRight, h1, h2, Nat.mod_eq_of_lt hk, Nat.shiftRight_eq_div_pow, BitVec.toNat_ofNat, Nat.mod_eq_of_lt (Nat.lt_of_le_of_lt (Nat.div_le_self _ _) hn)]
theorem wb_shl (n : Nat) {k : Nat} (hk : k < 64) : lN n <<< ((nI k).toInt64 &&& 63) = lN (n * 2 ^ k) := by
  rw [wb_c k hk]
  apply wb_inj
  rw [Int64.toBitVec_shiftLeft, wb_tb, wb_tb, wb_tb, wb_sm k hk]
  apply BitVec.eq_of_toNat_eq
  rw [BitVec.shiftLeft_eq', BitVec.toNat_shiftLeft, BitVec.toNat_ofNat, BitVec.toNat_ofNat, BitVec.toNat_ofNat, Nat.mod_eq_of_lt (show k < 2 ^ 64 by omega), Nat.shiftLeft_eq, Nat.mul_mod, Nat.mod_mod, ← Nat.mul_mod]
theorem wb_and {a b : Nat} (ha : a < 2 ^ 64) (hb : b < 2 ^ 64) : lN a &&& lN b = lN (a &&& b) := by
  apply wb_inj
  rw [Int64.toBitVec_and, wb_tb, wb_tb, wb_tb]
  apply BitVec.eq_of_toNat_eq
  rw [BitVec.toNat_and, BitVec.toNat_ofNat, BitVec.toNat_ofNat, BitVec.toNat_ofNat, Nat.mod_eq_of_lt ha, Nat.mod_eq_of_lt hb, Nat.mod_eq_of_lt (Nat.and_lt_two_pow _ hb)]
theorem wb_or {a b : Nat} (ha : a < 2 ^ 64) (hb : b < 2 ^ 64) : lN a ||| lN b = lN (a ||| b) := by
  apply wb_inj
  rw [Int64.toBitVec_or, wb_tb, wb_tb, wb_tb]
  apply BitVec.eq_of_toNat_eq
  rw [BitVec.toNat_or, BitVec.toNat_ofNat, BitVec.toNat_ofNat, BitVec.toNat_ofNat, Nat.mod_eq_of_lt ha, Nat.mod_eq_of_lt hb, Nat.mod_eq_of_lt (Nat.or_lt_two_pow ha hb)]
theorem wb_mask {n k : Nat} (hn : n < 2 ^ 64) (hk : k < 64) : lN n &&& lN (2 ^ k - 1) = lN (n % 2 ^ k) := by
  rw [wb_and hn (by have := wb_lt2 hk; omega), Nat.and_two_pow_sub_one_eq_mod]
theorem wb_a1 {n : Nat} (hn : n < 2 ^ 64) : lN n &&& 1 = lN (n % 2) := wb_mask (k := 1) hn (by decide)
theorem wb_bit {n k : Nat} (hn : n < 2 ^ 64) (hk : k < 64) : ((lN n).toUInt64 >>> ((nI k).toInt64.toUInt64 &&& Int64.toUInt64 63)).toInt64 &&& 1 = lN (n / 2 ^ k % 2) := by
  rw [wb_shr hn hk, wb_a1 (Nat.lt_of_le_of_lt (Nat.div_le_self _ _) hn)]
theorem wb_xor {q k : Nat} (hk : k < 63) (h : 2 ^ k ≤ q) (h2 : q < 2 ^ (k + 1)) : lN q ^^^ lN (2 ^ k) = lN (q - 2 ^ k) := by
  obtain ⟨r, rfl⟩ : ∃ r, q = 2 ^ k + r := ⟨q - 2 ^ k, by omega⟩
  have hr : r < 2 ^ k := by rw [Nat.pow_succ] at h2; omega
  have hx : (2 ^ k + r) ^^^ 2 ^ k = r := by
    apply Nat.eq_of_testBit_eq
    intro i
    rw [Nat.testBit_xor, Nat.testBit_two_pow]
    rcases Nat.lt_trichotomy i k with h | h | h
    · rw [Nat.testBit_two_pow_add_gt h]
      simp [show ¬ k = i by omega]
    · subst h
      rw [Nat.testBit_two_pow_add_eq]
      simp
    · have a1 : 2 ^ (k + 1) ≤ 2 ^ i := Nat.pow_le_pow_right (by decide) h
      rw [Nat.testBit_lt_two_pow (show 2 ^ k + r < 2 ^ i by omega), Nat.testBit_lt_two_pow (show r < 2 ^ i by omega)]
      simp [show ¬ k = i by omega]
  have b1 := wb_lt2 (show k + 1 < 64 by omega)
  have b2 := wb_lt2 (show k < 64 by omega)
  apply wb_inj
  rw [Int64.toBitVec_xor, wb_tb, wb_tb, wb_tb]
  apply BitVec.eq_of_toNat_eq
  rw [BitVec.toNat_xor, BitVec.toNat_ofNat, BitVec.toNat_ofNat, BitVec.toNat_ofNat, Nat.mod_eq_of_lt (by omega : 2 ^ k + r < 2 ^ 64), Nat.mod_eq_of_lt b2, hx, Nat.add_sub_cancel_left, Nat.mod_eq_of_lt (by omega)]
/-! ===== lN: masks, 'or' of parts that don't overlap is a sum ===== -/
theorem u_tn {n : Nat} (h : n < 2 ^ 64) : (UInt64.ofNat n).toNat = n := Nat.mod_eq_of_lt h
theorem g_and {a b c : Nat} (ha : a < 2 ^ 64) (hb : b < 2 ^ 64) (hc : a &&& b = c) : lN a &&& lN b = lN c := by
  subst hc
  have h : UInt64.ofNat a &&& UInt64.ofNat b = UInt64.ofNat (a &&& b) := UInt64.toNat_inj.mp (by rw [UInt64.toNat_and, u_tn ha, u_tn hb, u_tn (Nat.and_lt_two_pow a hb)])
  have h2 := congrArg UInt64.toInt64 h
  exact h2
theorem g_and1 {a : Nat} (ha : a < 2 ^ 64) : lN a &&& 1 = lN (a % 2) := g_and (b := 1) ha (by decide) (Nat.and_two_pow_sub_one_eq_mod a 1)
theorem g_mask {a s p : Nat} (hp : 2 ^ s = p) (hs : s < 64) (ha : a < 2 ^ 64) : lN a &&& lN (p - 1) = lN (a % p) := by
  subst hp
  have := Nat.pow_lt_pow_right (show 1 < 2 by decide) hs
  exact g_and ha (by omega) (Nat.and_two_pow_sub_one_eq_mod a s)
theorem g_or {k p a b : Nat} (hp : 2 ^ k = p) (ha : a < p) (h : b * p + a < 2 ^ 64) : lN (b * p) ||| lN a = lN (b * p + a) := by
  subst hp
  have h1 : b * 2 ^ k ||| a = b * 2 ^ k + a := by rw [← Nat.shiftLeft_eq, Nat.shiftLeft_add_eq_or_of_lt ha]
  have h3 : UInt64.ofNat (b * 2 ^ k) ||| UInt64.ofNat a = UInt64.ofNat (b * 2 ^ k + a) := UInt64.toNat_inj.mp (by rw [UInt64.toNat_or, u_tn (by omega), u_tn (by omega), u_tn h, h1])
  have h2 := congrArg UInt64.toInt64 h3
  exact h2
theorem g_or' {k p a b : Nat} (hp : 2 ^ k = p) (ha : a < p) (h : a + b * p < 2 ^ 64) : lN a ||| lN (b * p) = lN (a + b * p) := by
  rw [Int64.or_comm, g_or hp ha (by omega), Nat.add_comm]
theorem g_ushr {a k p : Nat} {y : UInt64} (hy : y = UInt64.ofNat k) (hk : k < 64) (hp : 2 ^ k = p) (ha : a < 2 ^ 64) : ((lN a).toUInt64 >>> y).toInt64 = lN (a / p) := by
  subst hy hp
  have h : UInt64.ofNat a >>> UInt64.ofNat k = UInt64.ofNat (a / 2 ^ k) := UInt64.toNat_inj.mp (by rw [UInt64.toNat_shiftRight, u_tn ha, u_tn (by omega), u_tn (Nat.lt_of_le_of_lt (Nat.div_le_self _ _) ha), Nat.mod_eq_of_lt hk, Nat.shiftRight_eq_div_pow])
  have h2 := congrArg UInt64.toInt64 h
  exact h2
theorem g_shl {a k p : Nat} {y : Int64} (hy : y.toBitVec.smod 64 = BitVec.ofNat 64 k) (hk : k < 64) (hp : 2 ^ k = p) (ha : a < 2 ^ 64) : lN a <<< y = lN (a * p) := by
  subst hp
  apply Int64.toBitVec_inj.mp
  rw [Int64.toBitVec_shiftLeft, hy]
  apply BitVec.eq_of_toNat_eq
  have hb : (lN a).toBitVec.toNat = a := Nat.mod_eq_of_lt ha
  have hk' : (BitVec.ofNat 64 k).toNat = k := Nat.mod_eq_of_lt (by omega)
  have h : ((lN a).toBitVec <<< BitVec.ofNat 64 k).toNat = (a * 2 ^ k) % 2 ^ 64 := by simp only [BitVec.shiftLeft_eq', BitVec.toNat_shiftLeft, hb, hk', Nat.shiftLeft_eq]
  exact h
/-! ===== lN to 2^62 under >> and >>> ===== -/
theorem pf_lI {a : Nat} (h : a < 2 ^ 63) : (lN a).toInt = (a : Int) := lg_ofNat_toInt h
theorem pf_shr {a d : Nat} {D : Int64} (hD : (D.toBitVec.smod 64).toNat = d) (h : a < 2 ^ 62) : lN a >>> D = lN (a / 2 ^ d) := by
  have hd : a / 2 ^ d ≤ a := Nat.div_le_self _ _
  apply Int64.toInt_inj.mp
  have e : (lN a >>> D).toInt = (lN a).toInt >>> d := by
    rw [← hD]
    exact BitVec.toInt_sshiftRight ..
  rw [e, Int.shiftRight_eq_div_pow, pf_lI (by omega), pf_lI (by omega)]
  rfl
theorem pf_ushr {a d : Nat} {D : UInt64} (hD : D.toNat % 64 = d) (h : a < 2 ^ 62) : ((lN a).toUInt64 >>> D).toInt64 = lN (a / 2 ^ d) := by
  have hd : a / 2 ^ d ≤ a := Nat.div_le_self _ _
  have e : (lN a).toUInt64 >>> D = UInt64.ofNat (a / 2 ^ d) := UInt64.toNat_inj.mp (by
    rw [UInt64.toNat_shiftRight, hD, Nat.shiftRight_eq_div_pow, UInt64.toNat_ofNat']
    show (UInt64.ofNat a).toNat / 2 ^ d = _
    rw [UInt64.toNat_ofNat', Nat.mod_eq_of_lt (by omega), Nat.mod_eq_of_lt (by omega)])
  rw [e]
  rfl
theorem pf_andw (x : Int64) : ∃ m, m < 2 ^ 32 ∧ x &&& 4294967295 = lN m := ⟨x.toBitVec.toNat % 2 ^ 32, Nat.mod_lt _ (by decide), Int64.toBitVec_inj.mp (BitVec.eq_of_toNat_eq (by
  show (x.toBitVec &&& 4294967295#64).toNat = (BitVec.ofNat 64 (x.toBitVec.toNat % 2 ^ 32)).toNat
  rw [BitVec.toNat_and, show (4294967295#64).toNat = 2 ^ 32 - 1 from by decide, Nat.and_two_pow_sub_one_eq_mod, BitVec.toNat_ofNat]
  omega))⟩
/-! ===== Int64 as an unsigned number: uN x ===== -/
def uN (x : Int64) : Nat := x.toUInt64.toNat
theorem uN_lt (x : Int64) : uN x < 18446744073709551616 := x.toUInt64.toNat_lt
theorem uN_inj {x y : Int64} (h : uN x = uN y) : x = y := congrArg UInt64.toInt64 (UInt64.toNat_inj.mp h)
theorem uN_add (x y : Int64) : uN (x + y) = (uN x + uN y) % 18446744073709551616 := by
  show (x.toUInt64 + y.toUInt64).toNat = _
  exact UInt64.toNat_add _ _
theorem uN_mul (x y : Int64) : uN (x * y) = (uN x * uN y) % 18446744073709551616 := by
  show (x.toUInt64 * y.toUInt64).toNat = _
  exact UInt64.toNat_mul _ _
theorem uN_shl (x : Int64) : uN (x <<< ((1 : Int32).toInt64 &&& 63)) = (2 * uN x) % 18446744073709551616 := by
  have h : (((1 : Int32).toInt64 &&& 63).toBitVec.smod 64).toNat = 1 := by decide
  show (x.toBitVec <<< (((1 : Int32).toInt64 &&& 63).toBitVec.smod 64).toNat).toNat = _
  rw [h, BitVec.toNat_shiftLeft, Nat.shiftLeft_eq, Nat.mul_comm]
  rfl
theorem uN_shr (x : Int64) (s : UInt64) : uN (x.toUInt64 >>> s).toInt64 = uN x / 2 ^ (s.toNat % 64) := by
  show (x.toUInt64 >>> s).toNat = _
  rw [UInt64.toNat_shiftRight, Nat.shiftRight_eq_div_pow]
  rfl
theorem uN_s32 (x : Int64) : uN (x.toUInt64 >>> ((32 : Int32).toInt64.toUInt64 &&& Int64.toUInt64 63)).toInt64 = uN x / 4294967296 := by
  have h : ((32 : Int32).toInt64.toUInt64 &&& Int64.toUInt64 63).toNat % 64 = 32 := by decide
  rw [uN_shr, h]
theorem uN_s63 (x : Int64) : uN (x.toUInt64 >>> ((63 : Int32).toInt64.toUInt64 &&& Int64.toUInt64 63)).toInt64 = uN x / 9223372036854775808 := by
  have h : ((63 : Int32).toInt64.toUInt64 &&& Int64.toUInt64 63).toNat % 64 = 63 := by decide
  rw [uN_shr, h]
theorem uN_lo (x : Int64) : uN (x &&& 4294967295) = uN x % 4294967296 := by
  show (x.toUInt64 &&& Int64.toUInt64 4294967295).toNat = _
  rw [UInt64.toNat_and]
  exact Nat.and_two_pow_sub_one_eq_mod _ 32
theorem uN_bit (x : Int64) : (x &&& 1) = 0 ↔ uN x % 2 = 0 := by
  have h : uN (x &&& 1) = uN x % 2 := by
    show (x.toUInt64 &&& Int64.toUInt64 1).toNat = _
    rw [UInt64.toNat_and]
    exact Nat.and_two_pow_sub_one_eq_mod _ 1
  rw [← h]
  exact ⟨fun z => by rw [z]; rfl, fun z => uN_inj (z.trans rfl)⟩
theorem uN_or {x y : Int64} (hy : uN y < 2) : uN ((x <<< ((1 : Int32).toInt64 &&& 63)) ||| y) = (2 * uN x) % 18446744073709551616 + uN y := by
  have h1 : uN ((x <<< ((1 : Int32).toInt64 &&& 63)) ||| y) = uN (x <<< ((1 : Int32).toInt64 &&& 63)) ||| uN y := UInt64.toNat_or _ _
  have h2 : (2 * uN x) % 18446744073709551616 = 2 ^ 1 * (uN x % 9223372036854775808) := by omega
  rw [h1, uN_shl, h2]
  exact (Nat.two_pow_add_eq_or_of_lt (i := 1) hy _).symm
theorem nat_xor {a : Nat} (h : a < 18446744073709551616) : a ^^^ 2 ^ 63 = (a + 9223372036854775808) % 18446744073709551616 := by
  have h1 : (a ^^^ 2 ^ 63) % 2 ^ 63 = a % 2 ^ 63 := by rw [Nat.xor_mod_two_pow, Nat.mod_self, Nat.xor_zero]
  have h2 : (a ^^^ 2 ^ 63) / 2 ^ 63 = (a / 2 ^ 63) ^^^ 1 := by rw [Nat.xor_div_two_pow, Nat.div_self (Nat.two_pow_pos 63)]
  have h3 : a / 2 ^ 63 = 0 ∨ a / 2 ^ 63 = 1 := by omega
  generalize a ^^^ 2 ^ 63 = t at h1 h2
  rcases h3 with h3 | h3
  · rw [h3] at h2
    have h2 : t / 2 ^ 63 = 1 := h2
    omega
  · rw [h3] at h2
    have h2 : t / 2 ^ 63 = 0 := h2
    omega
theorem uN_xor (x : Int64) : uN (x ^^^ (-9223372036854775808)) = (uN x + 9223372036854775808) % 18446744073709551616 := by
  rw [← nat_xor (uN_lt x)]
  exact UInt64.toNat_xor _ _
theorem uN_int (x : Int64) : x.toInt = if 2 * uN x < 18446744073709551616 then (uN x : Int) else (uN x : Int) - 18446744073709551616 := BitVec.toInt_eq_toNat_cond _
theorem uN_le (x y : Int64) : (x ^^^ (-9223372036854775808)) ≤ (y ^^^ (-9223372036854775808)) ↔ uN x ≤ uN y := by
  have hx := uN_lt x
  have hy := uN_lt y
  rw [Int64.le_iff_toInt_le, uN_int, uN_int, uN_xor, uN_xor]
  omega
theorem uN_sk (x : Int64) {k : Nat} (hk : k < 64) : uN (x.toUInt64 >>> ((nI k).toInt64.toUInt64 &&& Int64.toUInt64 63)).toInt64 = uN x / 2 ^ k := by
  have h : ((nI k).toInt64.toUInt64 &&& Int64.toUInt64 63).toNat % 64 = k := by
    rw [nI_l (by omega), UInt64.toNat_and]
    have e : (lN k).toUInt64.toNat = k % 2 ^ 64 := rfl
    have e2 : (Int64.toUInt64 63).toNat = 2 ^ 6 - 1 := by decide
    rw [e, e2, Nat.and_two_pow_sub_one_eq_mod]
    omega
  rw [uN_shr, h]
/-! ===== unsigned comparison by xor with the least ===== -/
theorem lN_bv (n : Nat) : (lN n).toBitVec = BitVec.ofNat 64 n := rfl
theorem lN_nat {n : Nat} (h : n < 2 ^ 64) : (lN n).toBitVec.toNat = n := by rw [lN_bv, BitVec.toNat_ofNat]; exact Nat.mod_eq_of_lt h
theorem lN_xor (a b : Nat) : lN a ^^^ lN b = lN (a ^^^ b) := by
  apply Int64.toBitVec_inj.mp; rw [Int64.toBitVec_xor, lN_bv, lN_bv, lN_bv]; apply BitVec.eq_of_getLsbD_eq; intro i hi; simp [BitVec.getLsbD_ofNat, Nat.testBit_xor, hi]
theorem lN_ti {m : Nat} (h : m < 2 ^ 64) : (lN m).toInt = if m < 2 ^ 63 then (m : Int) else (m : Int) - 2 ^ 64 := by
  have c := BitVec.toInt_eq_toNat_cond (lN m).toBitVec
  rw [lN_nat h] at c
  show (lN m).toBitVec.toInt = _
  rw [c]
  split <;> split <;> omega
theorem xor63 {x : Nat} (h : x < 2 ^ 63) : x ^^^ 2 ^ 63 = 2 ^ 63 + x := by
  apply Nat.eq_of_testBit_eq
  intro i
  rw [Nat.testBit_xor, Nat.testBit_two_pow]
  rcases Nat.lt_trichotomy i 63 with z | z | z
  · rw [Nat.testBit_two_pow_add_gt z, decide_eq_false (by omega)]; simp
  · subst z; rw [Nat.testBit_two_pow_add_eq]; simp
  · have hp : 2 ^ 64 ≤ 2 ^ i := Nat.pow_le_pow_right (by decide) z
    rw [Nat.testBit_lt_two_pow (show x < 2 ^ i by omega), Nat.testBit_lt_two_pow (show 2 ^ 63 + x < 2 ^ i by omega), decide_eq_false (by omega)]; rfl
theorem xorS {a : Nat} (h : a < 2 ^ 64) : (lN a ^^^ (-9223372036854775808)).toInt = (a : Int) - 2 ^ 63 := by
  rw [show (-9223372036854775808 : Int64) = lN (2 ^ 63) from by decide +kernel, lN_xor]
  rcases Nat.lt_or_ge a (2 ^ 63) with z | z
  · rw [xor63 z, lN_ti (by omega), if_neg (by omega)]; omega
  · obtain ⟨x, rfl⟩ : ∃ x, a = 2 ^ 63 + x := ⟨a - 2 ^ 63, by omega⟩
    rw [← xor63 (by omega), Nat.xor_assoc, Nat.xor_self, Nat.xor_zero, lN_ti (by omega), if_pos (by omega), xor63 (by omega)]; omega
theorem ultL {a b : Nat} (ha : a < 2 ^ 64) (hb : b < 2 ^ 64) : ((lN b ^^^ (-9223372036854775808)) ≤ (lN a ^^^ (-9223372036854775808))) ↔ b ≤ a := by
  rw [Int64.le_iff_toInt_le, xorS ha, xorS hb]; omega
/-! ===== Int64 masks of n low bits ===== -/
theorem cr_bits (W U M : BitVec 64) : ((W &&& U) &&& (U &&& (M ^^^ BitVec.allOnes 64))) = 0#64 ↔ (W &&& U) &&& M = W &&& U := by
  constructor
  · intro h
    apply BitVec.eq_of_getLsbD_eq
    intro i hi
    have e := congrArg (fun x => BitVec.getLsbD x i) h
    simp only [BitVec.getLsbD_and, BitVec.getLsbD_xor, BitVec.getLsbD_allOnes, BitVec.getLsbD_zero, hi, decide_true] at e ⊢
    revert e
    cases W.getLsbD i <;> cases U.getLsbD i <;> cases M.getLsbD i <;> decide
  · intro h
    apply BitVec.eq_of_getLsbD_eq
    intro i hi
    have e := congrArg (fun x => BitVec.getLsbD x i) h
    simp only [BitVec.getLsbD_and, BitVec.getLsbD_xor, BitVec.getLsbD_allOnes, BitVec.getLsbD_zero, hi, decide_true] at e ⊢
    revert e
    cases W.getLsbD i <;> cases U.getLsbD i <;> cases M.getLsbD i <;> decide
theorem cr_mask (w U m : Int64) (n : Nat) (hm : m.toBitVec.toNat = 2 ^ n - 1) : ((w &&& U) &&& (U &&& (m ^^^ (-1)))) = 0 ↔ (w &&& U).toBitVec.toNat < 2 ^ n := by
  have e0 : (-1 : Int64).toBitVec = BitVec.allOnes 64 := by decide
  have z0 : (0 : Int64).toBitVec = 0#64 := by decide
  rw [← Int64.toBitVec_inj, z0, Int64.toBitVec_and, Int64.toBitVec_and, Int64.toBitVec_and, Int64.toBitVec_xor, e0, cr_bits]
  generalize w.toBitVec &&& U.toBitVec = T
  rw [← BitVec.toNat_inj, BitVec.toNat_and, hm, Nat.and_two_pow_sub_one_eq_mod]
  constructor
  · intro h
    have t := Nat.mod_lt T.toNat (Nat.two_pow_pos n)
    rw [h] at t
    exact t
  · exact Nat.mod_eq_of_lt
theorem cr_shr (t : Int64) (x : UInt64) (n : Nat) (hx : x.toNat % 64 = n) : (t.toUInt64 >>> x).toInt64 = 0 ↔ t.toBitVec.toNat < 2 ^ n := by
  rw [← Int64.toBitVec_inj, ← BitVec.toNat_inj]
  show (t.toUInt64 >>> x).toNat = 0 ↔ t.toUInt64.toNat < 2 ^ n
  rw [UInt64.toNat_shiftRight, hx, Nat.shiftRight_eq_div_pow]
  constructor
  · intro h
    have d : t.toUInt64.toNat / 2 ^ n < 1 := by
      rw [h]
      decide
    have e := (Nat.div_lt_iff_lt_mul (Nat.two_pow_pos n)).mp d
    rw [Nat.one_mul] at e
    exact e
  · exact Nat.div_eq_of_lt
theorem cr_amt (s : Int64) : ∃ n, n < 64 ∧ s &&& 63 = lN n ∧ (s.toUInt64 &&& Int64.toUInt64 63).toNat % 64 = n := by
  have e : (s.toUInt64 &&& Int64.toUInt64 63).toNat = s.toUInt64.toNat % 2 ^ 6 := by
    rw [UInt64.toNat_and, show (Int64.toUInt64 63).toNat = 2 ^ 6 - 1 from by decide, Nat.and_two_pow_sub_one_eq_mod]
  refine ⟨s.toUInt64.toNat % 2 ^ 6, by omega, ?_, by omega⟩
  rw [← Int64.toBitVec_inj, ← BitVec.toNat_inj]
  show (s.toUInt64 &&& Int64.toUInt64 63).toNat = (BitVec.ofNat 64 (s.toUInt64.toNat % 2 ^ 6)).toNat
  rw [e, BitVec.toNat_ofNat]
  omega
/-! plain facts on numbers and arrays, to paste: each family by itself; over the kit's rows on nI and upd -/
/-! ===== order of ints, in all its forms, and through longs ===== -/
theorem fa_lt (a b : Int32) : a < b ↔ a.toInt < b.toInt := Int32.lt_iff_toInt_lt
theorem fa_le (a b : Int32) : a ≤ b ↔ a.toInt ≤ b.toInt := Int32.le_iff_toInt_le
theorem fa_eq (a b : Int32) : a = b ↔ a.toInt = b.toInt := Int32.toInt_inj.symm
theorem fa_lt64 (a b : Int64) : a < b ↔ a.toInt < b.toInt := Int64.lt_iff_toInt_lt
theorem fa_le64 (a b : Int64) : a ≤ b ↔ a.toInt ≤ b.toInt := Int64.le_iff_toInt_le
theorem fa_eq64 (a b : Int64) : a = b ↔ a.toInt = b.toInt := Int64.toInt_inj.symm
/-- a comparison of two ints taken as longs -/
theorem fa_wide_lt (a b : Int32) : a.toInt64 < b.toInt64 ↔ a < b := by rw [fa_lt64, fa_lt, Int32.toInt_toInt64, Int32.toInt_toInt64]
theorem fa_wide_le (a b : Int32) : a.toInt64 ≤ b.toInt64 ↔ a ≤ b := by rw [fa_le64, fa_le, Int32.toInt_toInt64, Int32.toInt_toInt64]
theorem fa_wide_eq (a b : Int32) : a.toInt64 = b.toInt64 ↔ a = b := by rw [fa_eq64, fa_eq, Int32.toInt_toInt64, Int32.toInt_toInt64]
/-- one strict comparison gives all the others -/
theorem fa_of_lt {a b : Int32} (h : a < b) : a ≤ b ∧ ¬ b ≤ a ∧ ¬ b < a ∧ a ≠ b ∧ b ≠ a := by
  rw [fa_lt] at h
  refine ⟨?_, ?_, ?_, ?_, ?_⟩
  · rw [fa_le]; omega
  · rw [fa_le]; omega
  · rw [fa_lt]; omega
  · intro e; rw [fa_eq] at e; omega
  · intro e; rw [fa_eq] at e; omega
theorem fa_of_nlt {a b : Int32} (h : ¬ a < b) : b ≤ a := by
  rw [fa_lt] at h
  rw [fa_le]
  omega
theorem fa_of_nle {a b : Int32} (h : ¬ a ≤ b) : b < a := by
  rw [fa_le] at h
  rw [fa_lt]
  omega
theorem fa_le_ne {a b : Int32} (h : a ≤ b) (h2 : a ≠ b) : a < b := by
  rw [fa_le] at h
  rw [fa_lt]
  have h3 : a.toInt ≠ b.toInt := fun e => h2 ((fa_eq a b).mpr e)
  omega
theorem fa_three (a b : Int32) : a < b ∨ a = b ∨ b < a := by
  rw [fa_lt, fa_lt, fa_eq]
  omega
theorem fa_trans {a b c : Int32} (h : a < b) (h2 : b ≤ c) : a < c := by
  rw [fa_lt] at *
  rw [fa_le] at h2
  omega
/-! ===== small literals as numbers ===== -/
theorem fa_lit (n : Nat) : (OfNat.ofNat n : Int32) = nI n := rfl
theorem fa_litL (n : Nat) : (OfNat.ofNat n : Int64) = lN n := rfl
/-! ===== bits of a number: 'or', masks, one bit ===== -/
theorem fa_and (a b : Nat) : nI a &&& nI b = nI (a &&& b) := by
  apply Int32.toBitVec_inj.1
  show BitVec.ofNat 32 a &&& BitVec.ofNat 32 b = BitVec.ofNat 32 (a &&& b)
  apply BitVec.eq_of_getLsbD_eq
  intro i hi
  simp [hi]
theorem fa_or (a b : Nat) : nI a ||| nI b = nI (a ||| b) := by
  apply Int32.toBitVec_inj.1
  show BitVec.ofNat 32 a ||| BitVec.ofNat 32 b = BitVec.ofNat 32 (a ||| b)
  apply BitVec.eq_of_getLsbD_eq
  intro i hi
  simp [hi]
/-- a remainder by a power of two, as a mask -/
theorem fa_mask (n k : Nat) : nI n &&& nI (2 ^ k - 1) = nI (n % 2 ^ k) := by rw [fa_and, Nat.and_two_pow_sub_one_eq_mod]
/-- 'or' of a high part and a low one that don't meet is their sum -/
theorem fa_or_sum {a k : Nat} (b : Nat) (h : a < 2 ^ k) : nI (2 ^ k * b) ||| nI a = nI (2 ^ k * b + a) := by rw [fa_or, Nat.two_pow_add_eq_or_of_lt h]
/-- one bit, by 'and' with a power of two -/
theorem fa_bit {n j : Nat} (hj : j < 31) : nI n &&& nI (2 ^ j) = 0 ↔ n.testBit j = false := by
  have h2 : (2 : Nat) ^ j < 2 ^ 31 := Nat.pow_lt_pow_right (by decide) hj
  have hle : n &&& 2 ^ j ≤ 2 ^ j := Nat.and_le_right
  have e : n &&& 2 ^ j = 0 ↔ n.testBit j = false := by
    constructor
    · intro h
      have h1 : (n &&& 2 ^ j).testBit j = false := by rw [h]; simp
      rw [Nat.testBit_and] at h1
      first | simpa using h1 | simpa [Nat.testBit_two_pow_self] using h1 | simpa [Nat.testBit_two_pow] using h1
    · intro h
      apply Nat.eq_of_testBit_eq
      intro i
      rw [Nat.testBit_and]
      by_cases hi : j = i
      · subst hi; simp [h]
      · first | (simp [Nat.testBit_two_pow, hi]; done) | (simp [Nat.testBit_two_pow_of_ne hi]; done)
  rw [fa_and]
  constructor
  · intro h
    apply e.mp
    rcases Nat.eq_zero_or_pos (n &&& 2 ^ j) with z | z
    · exact z
    · exact absurd h (nI_ne0 z (Nat.lt_of_le_of_lt hle h2))
  · intro h
    rw [e.mpr h]; exact nI_0
/-- a remainder by a power of two of a number that isn't negative, as Java divides -/
theorem fa_rem {a k : Nat} (ha : a < 2 ^ 31) (hk : k < 31) : nI a - nI a / nI (2 ^ k) * nI (2 ^ k) = nI (a % 2 ^ k) := pk_rem ha (Nat.two_pow_pos k) (Nat.pow_lt_pow_right (by decide) hk)
/-! ===== cuts to a byte, a short ===== -/
theorem fa_byte_xor (x y : Int32) : (x ^^^ y).toInt8 = x.toInt8 ^^^ y.toInt8 := by
  apply Int8.toBitVec_inj.1
  apply BitVec.eq_of_getLsbD_eq
  intro i hi
  first | (simp [hi]; done) | (simp [hi, BitVec.getLsbD_setWidth, BitVec.getLsbD_signExtend]; done)
theorem fa_short_xor (x y : Int32) : (x ^^^ y).toInt16 = x.toInt16 ^^^ y.toInt16 := by
  apply Int16.toBitVec_inj.1
  apply BitVec.eq_of_getLsbD_eq
  intro i hi
  first | (simp [hi]; done) | (simp [hi, BitVec.getLsbD_setWidth, BitVec.getLsbD_signExtend]; done)
/-- the cut to a byte sees the low byte alone -/
theorem fa_byte_low (x : Int32) : (x &&& 255).toInt8 = x.toInt8 := by
  apply Int8.toBitVec_inj.1
  apply BitVec.eq_of_getLsbD_eq
  intro i hi
  have h2 : (255 : Int32).toBitVec.getLsbD i = true := by
    have : ∀ j : Fin 8, (255 : Int32).toBitVec.getLsbD j.val = true := by decide +kernel
    exact this ⟨i, hi⟩
  have h4 : (x &&& 255).toBitVec.getLsbD i = x.toBitVec.getLsbD i := by
    show (x.toBitVec &&& (255 : Int32).toBitVec).getLsbD i = _
    rw [BitVec.getLsbD_and, h2, Bool.and_true]
  have h3 : i < 32 := by omega
  first
    | (show (((x &&& 255).toBitVec).signExtend 8).getLsbD i = (x.toBitVec.signExtend 8).getLsbD i; rw [BitVec.getLsbD_signExtend, BitVec.getLsbD_signExtend, if_pos h3, if_pos h3, h4])
    | (show (((x &&& 255).toBitVec).setWidth 8).getLsbD i = (x.toBitVec.setWidth 8).getLsbD i; rw [BitVec.getLsbD_setWidth, BitVec.getLsbD_setWidth, h4])
    | (simp [hi, h3, h4]; done)
theorem fa_short_low (x : Int32) : (x &&& 65535).toInt16 = x.toInt16 := by
  apply Int16.toBitVec_inj.1
  apply BitVec.eq_of_getLsbD_eq
  intro i hi
  have h2 : (65535 : Int32).toBitVec.getLsbD i = true := by
    have : ∀ j : Fin 16, (65535 : Int32).toBitVec.getLsbD j.val = true := by decide +kernel
    exact this ⟨i, hi⟩
  have h4 : (x &&& 65535).toBitVec.getLsbD i = x.toBitVec.getLsbD i := by
    show (x.toBitVec &&& (65535 : Int32).toBitVec).getLsbD i = _
    rw [BitVec.getLsbD_and, h2, Bool.and_true]
  have h3 : i < 32 := by omega
  first
    | (show (((x &&& 65535).toBitVec).signExtend 16).getLsbD i = (x.toBitVec.signExtend 16).getLsbD i; rw [BitVec.getLsbD_signExtend, BitVec.getLsbD_signExtend, if_pos h3, if_pos h3, h4])
    | (show (((x &&& 65535).toBitVec).setWidth 16).getLsbD i = (x.toBitVec.setWidth 16).getLsbD i; rw [BitVec.getLsbD_setWidth, BitVec.getLsbD_setWidth, h4])
    | (simp [hi, h3, h4]; done)
/-- a small number is its own byte, its own short -/
theorem fa_byte_small {n : Nat} (h : n < 128) : (nI n).toInt8.toInt32 = nI n := by
  have : ∀ j : Fin 128, (nI j.val).toInt8.toInt32 = nI j.val := by decide +kernel
  exact this ⟨n, h⟩
/-! ===== absolute difference ===== -/
theorem fa_absdiff {a b : Nat} (ha : a < 2 ^ 31) (hb : b < 2 ^ 31) : (if nI a < nI b then nI b - nI a else nI a - nI b) = nI (if a < b then b - a else a - b) := by
  by_cases h : a < b
  · rw [if_pos (nI_lt h hb), if_pos h]
    exact pk_sub (Nat.le_of_lt h)
  · rw [if_neg (nI_nlt (Nat.le_of_not_lt h) ha), if_neg h]
    exact pk_sub (Nat.le_of_not_lt h)
/-! ===== an array behind i stores, a conditional store, a row copied ===== -/
/-- f where k < i, what stood there else -/
def fa_fill {α : Type} (f g : Nat → α) (i : Nat) : Nat → α := fun k => if k < i then f k else g k
theorem fa_fill_0 {α : Type} (f g : Nat → α) : fa_fill f g 0 = g := funext fun k => if_neg (Nat.not_lt_zero k)
theorem fa_fill_in {α : Type} {f g : Nat → α} {i k : Nat} (h : k < i) : fa_fill f g i k = f k := if_pos h
theorem fa_fill_out {α : Type} {f g : Nat → α} {i k : Nat} (h : i ≤ k) : fa_fill f g i k = g k := if_neg (Nat.not_lt.mpr h)
theorem fa_fill_succ (f g : Nat → Int32) (i : Nat) : upd (fa_fill f g i) i (f i) = fa_fill f g (i + 1) := by
  funext k
  by_cases e : k = i
  · subst e
    rw [pk_us]
    exact (if_pos (Nat.lt_succ_self k)).symm
  · rw [pk_un e]
    by_cases h : k < i
    · rw [fa_fill_in h, fa_fill_in (Nat.lt_succ_of_lt h)]
    · rw [fa_fill_out (Nat.le_of_not_lt h), fa_fill_out (by omega)]
/-- a store that changes nothing -/
theorem fa_upd_same {f : Nat → Int32} {i : Nat} {x : Int32} (h : f i = x) : upd f i x = f := by
  funext k
  by_cases e : k = i
  · subst e
    rw [pk_us, h]
  · rw [pk_un e]
/-- a store under a condition, told as one -/
theorem fa_upd_if (c : Prop) [Decidable c] (f : Nat → Int32) (i : Nat) (x : Int32) : (if c then upd f i x else f) = upd f i (if c then x else f i) := by
  by_cases h : c
  · rw [if_pos h, if_pos h]
  · rw [if_neg h, if_neg h, fa_upd_same rfl]
/-- two stores at one place, at two -/
theorem fa_upd_twice (f : Nat → Int32) (i : Nat) (x y : Int32) : upd (upd f i x) i y = upd f i y := by
  funext k
  by_cases e : k = i
  · subst e
    rw [pk_us, pk_us]
  · rw [pk_un e, pk_un e, pk_un e]
theorem fa_upd_swap (f : Nat → Int32) {i j : Nat} (h : i ≠ j) (x y : Int32) : upd (upd f i x) j y = upd (upd f j y) i x := by
  funext k
  by_cases e : k = i
  · subst e
    rw [pk_un h, pk_us, pk_us]
  · by_cases e2 : k = j
    · subst e2
      rw [pk_us, pk_un e, pk_us]
    · rw [pk_un e2, pk_un e, pk_un e, pk_un e2]
/-! ===== the first index with a property; a count ===== -/
/-- the first k < n with p k, n if there is none -/
def fa_first (p : Nat → Bool) : Nat → Nat
  | 0 => 0
  | n + 1 => if fa_first p n < n then fa_first p n else if p n then n else n + 1
theorem fa_first_le (p : Nat → Bool) : ∀ n, fa_first p n ≤ n
  | 0 => Nat.le_refl 0
  | n + 1 => by
    have ih := fa_first_le p n
    unfold fa_first
    split
    · omega
    · split
      · omega
      · omega
theorem fa_first_no (p : Nat → Bool) : ∀ n k, k < fa_first p n → p k = false
  | 0, k, h => absurd h (Nat.not_lt_zero k)
  | n + 1, k, h => by
    have ih := fa_first_no p n
    have hl := fa_first_le p n
    unfold fa_first at h
    split at h
    · exact ih k h
    · rename_i h1
      split at h
      · exact ih k (by omega)
      · rename_i h2
        by_cases e : k = n
        · subst e
          exact Bool.eq_false_iff.mpr h2
        · exact ih k (by omega)
theorem fa_first_yes (p : Nat → Bool) : ∀ n, fa_first p n < n → p (fa_first p n) = true
  | 0, h => absurd h (Nat.not_lt_zero _)
  | n + 1, h => by
    have ih := fa_first_yes p n
    have hl := fa_first_le p n
    unfold fa_first at h ⊢
    split at h
    · rename_i h1
      rw [if_pos h1]
      exact ih h1
    · rename_i h1
      rw [if_neg h1]
      split at h
      · rename_i h2
        rw [if_pos h2]
        exact h2
      · omega
/-- how many k < n have p k -/
def fa_cnt (p : Nat → Bool) : Nat → Nat
  | 0 => 0
  | n + 1 => fa_cnt p n + if p n then 1 else 0
theorem fa_cnt_le (p : Nat → Bool) : ∀ n, fa_cnt p n ≤ n
  | 0 => Nat.le_refl 0
  | n + 1 => by
    have ih := fa_cnt_le p n
    unfold fa_cnt
    split
    · omega
    · omega
theorem fa_cnt_yes {p : Nat → Bool} {n : Nat} (h : p n = true) : fa_cnt p (n + 1) = fa_cnt p n + 1 := by rw [fa_cnt, if_pos h]
theorem fa_cnt_no {p : Nat → Bool} {n : Nat} (h : p n = false) : fa_cnt p (n + 1) = fa_cnt p n := by rw [fa_cnt, if_neg (by rw [h]; decide)]; rfl
theorem fa_cnt_cong {p q : Nat → Bool} : ∀ {n : Nat}, (∀ k, k < n → p k = q k) → fa_cnt p n = fa_cnt q n
  | 0, _ => rfl
  | n + 1, h => by rw [fa_cnt, fa_cnt, fa_cnt_cong (fun k hk => h k (Nat.lt_succ_of_lt hk)), h n (Nat.lt_succ_self n)]
/-! ===== an answer carried into a post; a branch on a boolean answer ===== -/
theorem fa_post {α : Type} {P : α → Prop} {x y : α} (h : x = y) (hp : P y) : P x := h ▸ hp
theorem fa_post2 {α β : Type} {P : α → β → Prop} {x y : α} {u v : β} (h : x = y) (h2 : u = v) (hp : P y v) : P x u := h ▸ h2 ▸ hp
theorem fa_bool {r : Int32} {b : Bool} (h : r = if b then 1 else 0) : (r = 0 ↔ b = false) ∧ (¬ r = 0 ↔ b = true) := by
  subst h
  cases b
  · exact ⟨⟨fun _ => rfl, fun _ => rfl⟩, ⟨fun h => absurd rfl h, fun h => absurd h (by decide)⟩⟩
  · exact ⟨⟨fun h => absurd h (by decide), fun h => absurd h (by decide)⟩, ⟨fun _ => rfl, fun _ => by decide⟩⟩
/-- a boolean's narrowing changes nothing -/
theorem fa_bool_and {r : Int32} (h : r = 0 ∨ r = 1) : r &&& 1 = r := by
  rcases h with rfl | rfl
  · decide
  · decide
theorem fa_bool_prop {c : Prop} [Decidable c] {r : Int32} (h : r = if c then 1 else 0) : (r = 0 ↔ ¬ c) ∧ (¬ r = 0 ↔ c) := by
  subst h
  by_cases hc : c
  · rw [if_pos hc]
    exact ⟨⟨fun h => absurd h (by decide), fun h => absurd hc h⟩, ⟨fun _ => hc, fun _ => by decide⟩⟩
  · rw [if_neg hc]
    exact ⟨⟨fun _ => hc, fun _ => rfl⟩, ⟨fun h => absurd rfl h, fun h => absurd h hc⟩⟩
end
section
/-! numbers, places, written pieces -/
theorem ltI {a b : Nat} (ha : a < 2 ^ 31) (hb : b < 2 ^ 31) : (nI a < nI b) = (a < b) := propext (nI_ltI ha hb)
theorem eqI {a b : Nat} (ha : a < 2 ^ 31) (hb : b < 2 ^ 31) : (nI a = nI b) = (a = b) := propext (nI_eq ha hb)
theorem addI (a b : Nat) : nI a + nI b = nI (a + b) := nI_add a b
theorem subI {a b : Nat} (h : b ≤ a) : nI a - nI b = nI (a - b) := pk_sub h
theorem mulI (a b : Nat) : nI a * nI b = nI (a * b) := pk_mul a b
theorem divI {a d : Nat} (ha : a < 2 ^ 31) (h0 : 0 < d) (hd : d < 2 ^ 31) : nI a / nI d = nI (a / d) := pk_div ha h0 hd
theorem ixI {n : Nat} (h : n < 2 ^ 31) : ix (nI n) = n := nI_clamp h
theorem inbI {n N : Nat} (h : n < 2 ^ 31) : inb (nI n) N = decide (n < N) := by
  unfold inb
  rw [nI_toInt h]
  simp
theorem gdT {α : Type} {x : Option α} {b : Bool} (h : b = true) : gd b x = x := by
  subst h; rfl
theorem i2lI {n : Nat} (h : n < 2 ^ 31) : i2l (nI n) = lN n := nI_l h
theorem l2iL (n : Nat) : l2i (lN n) = nI n := lN_i n
theorem ltL {a b : Nat} (ha : a < 2 ^ 63) (hb : b < 2 ^ 63) : (lN a < lN b) = (a < b) := propext (pk_lLT ha hb)
theorem eqL {a b : Nat} (ha : a < 2 ^ 63) (hb : b < 2 ^ 63) : (lN a = lN b) = (a = b) := propext (pk_lEQ ha hb)
theorem addL (a b : Nat) : lN a + lN b = lN (a + b) := lN_add a b
theorem mulL (a b : Nat) : lN a * lN b = lN (a * b) := lN_mul a b
theorem subL {a b : Nat} (h : b ≤ a) : lN a - lN b = lN (a - b) := lN_sub h
theorem fu_eq : fu = 1048576 := rfl
section UP
variable {α : Type} {f : Nat → α} {k j : Nat} {x y : α}
theorem up_s : up f k x k = x := if_pos rfl
theorem up_n (h : j ≠ k) : up f k x j = f j := if_neg h
theorem up_up : up (up f k x) k y = up f k y := by
  funext j
  unfold up
  split <;> rfl
theorem up_id : up f k (f k) = f := by
  funext j
  unfold up
  split
  · next h => rw [h]
  · rfl
theorem up_c {a b : Nat} (h : a ≠ b) : up (up f a x) b y = up (up f b y) a x := by
  funext j
  unfold up
  by_cases h1 : j = b
  · have h2 : j ≠ a := by omega
    rw [if_pos h1, if_neg h2, if_pos h1]
  · rw [if_neg h1, if_neg h1]
end UP
theorem bd_none1 {α β : Type} {k : α → Option β} : bd1 none k = none := rfl
theorem b8_b8' (x : Int32) : b8 (b8 x) = b8 x := by
  have h := pk_vb x
  rw [vp_nar_byte] at h
  exact h
def wr (f : Nat → Int32) (a : Nat) (l : List Int32) : Nat → Int32 := fun j => if a ≤ j then (l[j - a]?).getD (f j) else f j
theorem wr_nil {f : Nat → Int32} {a : Nat} : wr f a [] = f := by
  funext j
  simp [wr]
theorem wr_app {f : Nat → Int32} {a : Nat} {l m : List Int32} : wr (wr f a l) (a + l.length) m = wr f a (l ++ m) := by
  funext j
  unfold wr
  by_cases h1 : a ≤ j
  · by_cases h2 : a + l.length ≤ j
    · rw [if_pos h2, if_pos h1, if_pos h1, List.getElem?_append_right (by omega), List.getElem?_eq_none (l := l) (by omega)]
      simp only [Option.getD_none]
      congr 2
      omega
    · rw [if_neg h2, if_pos h1, if_pos h1, List.getElem?_append_left (by omega)]
  · rw [if_neg h1, if_neg (by omega), if_neg h1]
theorem wr_one {f : Nat → Int32} {a : Nat} {x : Int32} : up f a x = wr f a [x] := by
  funext j
  unfold wr up
  by_cases h : j = a
  · subst h
    simp
  · by_cases h1 : a ≤ j
    · rw [if_neg h, if_pos h1, List.getElem?_eq_none (by simp; omega)]
      rfl
    · rw [if_neg h, if_neg h1]
theorem wr_snoc {f : Nat → Int32} {a : Nat} {l : List Int32} {x : Int32} : up (wr f a l) (a + l.length) x = wr f a (l ++ [x]) := by
  rw [wr_one, wr_app]
theorem wr_in {f : Nat → Int32} {a j : Nat} {l : List Int32} (h1 : a ≤ j) (h2 : j - a < l.length) : wr f a l j = l[j - a] := by
  unfold wr
  rw [if_pos h1, List.getElem?_eq_getElem h2]
  rfl
theorem wr_out {f : Nat → Int32} {a j : Nat} {l : List Int32} (h : j < a ∨ a + l.length ≤ j) : wr f a l j = f j := by
  unfold wr
  by_cases h1 : a ≤ j
  · rw [if_pos h1, List.getElem?_eq_none (by omega)]
    rfl
  · rw [if_neg h1]
theorem gdD {α : Type} {x : Option α} {p : Prop} {dec : Decidable p} (h : p) : gd (@decide p dec) x = x := gdT (decide_eq_true h)
theorem moN {α β : Type} {a : Option β} {b : α → Option β} : mo none a b = a := rfl
theorem moS {α β : Type} {k : α} {a : Option β} {b : α → Option β} : mo (some k) a b = b k := rfl
theorem bdS1 {α1 β : Type} {a1 : α1} {k : α1 → Option β} : bd1 (some a1) k = k a1 := rfl
theorem bdS2 {α1 α2 β : Type} {a1 : α1} {a2 : α2} {k : α1 → α2 → Option β} : bd2 (some (a1, a2)) k = k a1 a2 := rfl
theorem bdS3 {α1 α2 α3 β : Type} {a1 : α1} {a2 : α2} {a3 : α3} {k : α1 → α2 → α3 → Option β} : bd3 (some (a1, a2, a3)) k = k a1 a2 a3 := rfl
theorem bdS4 {α1 α2 α3 α4 β : Type} {a1 : α1} {a2 : α2} {a3 : α3} {a4 : α4} {k : α1 → α2 → α3 → α4 → Option β} : bd4 (some (a1, a2, a3, a4)) k = k a1 a2 a3 a4 := rfl
theorem bdS5 {α1 α2 α3 α4 α5 β : Type} {a1 : α1} {a2 : α2} {a3 : α3} {a4 : α4} {a5 : α5} {k : α1 → α2 → α3 → α4 → α5 → Option β} : bd5 (some (a1, a2, a3, a4, a5)) k = k a1 a2 a3 a4 a5 := rfl
theorem bdS6 {α1 α2 α3 α4 α5 α6 β : Type} {a1 : α1} {a2 : α2} {a3 : α3} {a4 : α4} {a5 : α5} {a6 : α6} {k : α1 → α2 → α3 → α4 → α5 → α6 → Option β} : bd6 (some (a1, a2, a3, a4, a5, a6)) k = k a1 a2 a3 a4 a5 a6 := rfl
theorem bdS7 {α1 α2 α3 α4 α5 α6 α7 β : Type} {a1 : α1} {a2 : α2} {a3 : α3} {a4 : α4} {a5 : α5} {a6 : α6} {a7 : α7} {k : α1 → α2 → α3 → α4 → α5 → α6 → α7 → Option β} : bd7 (some (a1, a2, a3, a4, a5, a6, a7)) k = k a1 a2 a3 a4 a5 a6 a7 := rfl
theorem bdS8 {α1 α2 α3 α4 α5 α6 α7 α8 β : Type} {a1 : α1} {a2 : α2} {a3 : α3} {a4 : α4} {a5 : α5} {a6 : α6} {a7 : α7} {a8 : α8} {k : α1 → α2 → α3 → α4 → α5 → α6 → α7 → α8 → Option β} : bd8 (some (a1, a2, a3, a4, a5, a6, a7, a8)) k = k a1 a2 a3 a4 a5 a6 a7 a8 := rfl
theorem bdS9 {α1 α2 α3 α4 α5 α6 α7 α8 α9 β : Type} {a1 : α1} {a2 : α2} {a3 : α3} {a4 : α4} {a5 : α5} {a6 : α6} {a7 : α7} {a8 : α8} {a9 : α9} {k : α1 → α2 → α3 → α4 → α5 → α6 → α7 → α8 → α9 → Option β} : bd9 (some (a1, a2, a3, a4, a5, a6, a7, a8, a9)) k = k a1 a2 a3 a4 a5 a6 a7 a8 a9 := rfl
theorem bdS10 {α1 α2 α3 α4 α5 α6 α7 α8 α9 α10 β : Type} {a1 : α1} {a2 : α2} {a3 : α3} {a4 : α4} {a5 : α5} {a6 : α6} {a7 : α7} {a8 : α8} {a9 : α9} {a10 : α10} {k : α1 → α2 → α3 → α4 → α5 → α6 → α7 → α8 → α9 → α10 → Option β} : bd10 (some (a1, a2, a3, a4, a5, a6, a7, a8, a9, a10)) k = k a1 a2 a3 a4 a5 a6 a7 a8 a9 a10 := rfl
theorem bdS11 {α1 α2 α3 α4 α5 α6 α7 α8 α9 α10 α11 β : Type} {a1 : α1} {a2 : α2} {a3 : α3} {a4 : α4} {a5 : α5} {a6 : α6} {a7 : α7} {a8 : α8} {a9 : α9} {a10 : α10} {a11 : α11} {k : α1 → α2 → α3 → α4 → α5 → α6 → α7 → α8 → α9 → α10 → α11 → Option β} : bd11 (some (a1, a2, a3, a4, a5, a6, a7, a8, a9, a10, a11)) k = k a1 a2 a3 a4 a5 a6 a7 a8 a9 a10 a11 := rfl
theorem bdS12 {α1 α2 α3 α4 α5 α6 α7 α8 α9 α10 α11 α12 β : Type} {a1 : α1} {a2 : α2} {a3 : α3} {a4 : α4} {a5 : α5} {a6 : α6} {a7 : α7} {a8 : α8} {a9 : α9} {a10 : α10} {a11 : α11} {a12 : α12} {k : α1 → α2 → α3 → α4 → α5 → α6 → α7 → α8 → α9 → α10 → α11 → α12 → Option β} : bd12 (some (a1, a2, a3, a4, a5, a6, a7, a8, a9, a10, a11, a12)) k = k a1 a2 a3 a4 a5 a6 a7 a8 a9 a10 a11 a12 := rfl
theorem bdS13 {α1 α2 α3 α4 α5 α6 α7 α8 α9 α10 α11 α12 α13 β : Type} {a1 : α1} {a2 : α2} {a3 : α3} {a4 : α4} {a5 : α5} {a6 : α6} {a7 : α7} {a8 : α8} {a9 : α9} {a10 : α10} {a11 : α11} {a12 : α12} {a13 : α13} {k : α1 → α2 → α3 → α4 → α5 → α6 → α7 → α8 → α9 → α10 → α11 → α12 → α13 → Option β} : bd13 (some (a1, a2, a3, a4, a5, a6, a7, a8, a9, a10, a11, a12, a13)) k = k a1 a2 a3 a4 a5 a6 a7 a8 a9 a10 a11 a12 a13 := rfl
end
section
/-! abstract values; what a column's rows hold -/
abbrev AV : Type := Option (Int64 × List Int32)
def th (a : AV) : Nat := match a with
  | none => 0
  | some _ => 1
def nu (a : AV) : Int64 := match a with
  | none => lN 0
  | some q => q.1
def le (a : AV) : List Int32 := match a with
  | none => []
  | some q => q.2
def wfv (K : Nat) (a : AV) : Prop := (le a).length ≤ 40 ∧ (∀ x ∈ le a, b8 x = x) ∧ (a ≠ none → if K = 2 then nu a = lN (le a).length else le a = [])
theorem X_holds {xc : Nat → Int32} {c i n : Nat} (hn : xc c = nI n) (h2 : n ≤ 200) (hi : i < 2 ^ 31) : p_X0_holds c (nI i) xc = some (nI (if i < n then 1 else 0)) := by
  unfold p_X0_holds
  rw [hn]
  by_cases h : i < n
  · simp (disch := omega) only [ltI, eqI, addI, subI, mulI, divI, ixI, inbI, i2lI, l2iL, ltL, eqL, addL, mulL, subL, gdD, if_pos, if_neg, if_true, if_false, bdS1, bdS2, bdS3, bdS4, bdS5, bdS6, bdS7, bdS8, bdS9, bdS10, bdS11, bdS12, bdS13, moN, moS]
  · simp (disch := omega) only [ltI, eqI, addI, subI, mulI, divI, ixI, inbI, i2lI, l2iL, ltL, eqL, addL, mulL, subL, gdD, if_pos, if_neg, if_true, if_false, bdS1, bdS2, bdS3, bdS4, bdS5, bdS6, bdS7, bdS8, bdS9, bdS10, bdS11, bdS12, bdS13, moN, moS]
theorem X_isThere {xt : Nat → Nat → Int32} {c i t : Nat} (ht : xt c i = nI t) (h1 : t ≤ 1) (hi : i < 200) : p_X0_isThere c (nI i) xt = some (nI t) := by
  unfold p_X0_isThere
  by_cases h : t = 0
  · subst h
    simp (disch := omega) only [ltI, eqI, addI, subI, mulI, divI, ixI, inbI, i2lI, l2iL, ltL, eqL, addL, mulL, subL, gdD, if_pos, if_neg, if_true, if_false, bdS1, bdS2, bdS3, bdS4, bdS5, bdS6, bdS7, bdS8, bdS9, bdS10, bdS11, bdS12, bdS13, moN, moS, ht]
  · have : t = 1 := by omega
    subst this
    simp (disch := omega) only [ltI, eqI, addI, subI, mulI, divI, ixI, inbI, i2lI, l2iL, ltL, eqL, addL, mulL, subL, gdD, if_pos, if_neg, if_true, if_false, bdS1, bdS2, bdS3, bdS4, bdS5, bdS6, bdS7, bdS8, bdS9, bdS10, bdS11, bdS12, bdS13, moN, moS, ht]
theorem X_numberAt {xn : Nat → Nat → Int64} {c i : Nat} (hi : i < 200) : p_X0_numberAt c (nI i) xn = some (xn c i) := by
  unfold p_X0_numberAt
  simp (disch := omega) only [ltI, eqI, addI, subI, mulI, divI, ixI, inbI, i2lI, l2iL, ltL, eqL, addL, mulL, subL, gdD, if_pos, if_neg, if_true, if_false, bdS1, bdS2, bdS3, bdS4, bdS5, bdS6, bdS7, bdS8, bdS9, bdS10, bdS11, bdS12, bdS13, moN, moS]
theorem X_letterAt {xl : Nat → Nat → Int32} {c i k : Nat} (hi : i < 200) (hk : k < 40) : p_X0_letterAt c (nI i) (nI k) xl = some (xl c (i * 40 + k) &&& nI 255) := by
  unfold p_X0_letterAt
  simp (disch := omega) only [ltI, eqI, addI, subI, mulI, divI, ixI, inbI, i2lI, l2iL, ltL, eqL, addL, mulL, subL, gdD, if_pos, if_neg, if_true, if_false, bdS1, bdS2, bdS3, bdS4, bdS5, bdS6, bdS7, bdS8, bdS9, bdS10, bdS11, bdS12, bdS13, moN, moS]
theorem take_snoc {α : Type} {l : List α} {k : Nat} (h : k < l.length) : l.take k ++ [l[k]] = l.take (k + 1) := (List.take_succ_eq_append_getElem h).symm
/-- the row of a value in class X: there, number, letters from place 40 i on -/
def XV (xt : Nat → Nat → Int32) (xn : Nat → Nat → Int64) (xl : Nat → Nat → Int32) (c i : Nat) (a : AV) : Prop := xt c i = nI (th a) ∧ xn c i = nu a ∧ ∀ (k : Nat) (h : k < (le a).length), xl c (i * 40 + k) = (le a)[k]
theorem wfv_none {K : Nat} : wfv K none := ⟨by simp [le], by simp [le], fun h => absurd rfl h⟩
theorem th_le (a : AV) : th a ≤ 1 := by
  cases a <;> simp [th]
theorem isB_th (a : AV) : isB (nI (th a)) = true := by
  cases a
  · exact (by decide : isB (nI 0) = true)
  · exact (by decide : isB (nI 1) = true)
/-- of a TEXT the number tells how many letters; else there are none -/
theorem wfv_num {a : AV} (h : wfv 2 a) : nu a = lN (le a).length := by
  cases a with
  | none => rfl
  | some q =>
    have h2 := h.2.2 (by simp)
    rw [if_pos rfl] at h2
    exact h2
theorem wfv_no {K : Nat} {a : AV} (h : wfv K a) (hK : K ≠ 2) : le a = [] := by
  cases a with
  | none => rfl
  | some q =>
    have h2 := h.2.2 (by simp)
    rw [if_neg hK] at h2
    exact h2
theorem X_setCopy_L {xt : Nat → Nat → Int32} {xn : Nat → Nat → Int64} {xl : Nat → Nat → Int32} {c i c2 j : Nat} {ls : List Int32} (hi : i < 200) (hj : j < 200) (hl : ls.length ≤ 40) (hn : xn c i = lN ls.length) (hb : ∀ x ∈ ls, b8 x = x)
    (hs : ∀ (k : Nat) (h : k < ls.length), xl c2 (j * 40 + k) = ls[k]) :
    ∀ (m n k : Nat), ls.length - k = m → k ≤ ls.length → m < n → itr2 (p_X0_setCopy_L58 c (nI i) c2 (nI j) xt xn) n (nI k) (up xl c (wr (xl c) (i * 40) (ls.take k))) = some (xt, xn, up xl c (wr (xl c) (i * 40) ls)) := by
  intro m
  induction m with
  | zero =>
    intro n k h1 h2 h3
    have hk : k = ls.length := by omega
    subst hk
    cases n with
    | zero => omega
    | succ n =>
      show p_X0_setCopy_L58 c (nI i) c2 (nI j) xt xn _ (nI ls.length) _ = _
      rw [p_X0_setCopy_L58]
      rw [List.take_length]
      by_cases h4 : ls.length < 40
      · simp (disch := omega) only [ltI, eqI, addI, subI, mulI, divI, ixI, inbI, i2lI, l2iL, ltL, eqL, addL, mulL, subL, gdD, if_pos, if_neg, if_true, if_false, bdS1, bdS2, bdS3, bdS4, bdS5, bdS6, bdS7, bdS8, bdS9, bdS10, bdS11, bdS12, bdS13, moN, moS, hn]
      · simp (disch := omega) only [ltI, eqI, addI, subI, mulI, divI, ixI, inbI, i2lI, l2iL, ltL, eqL, addL, mulL, subL, gdD, if_pos, if_neg, if_true, if_false, bdS1, bdS2, bdS3, bdS4, bdS5, bdS6, bdS7, bdS8, bdS9, bdS10, bdS11, bdS12, bdS13, moN, moS]
  | succ m ih =>
    intro n k h1 h2 h3
    have hk : k < ls.length := by omega
    cases n with
    | zero => omega
    | succ n =>
      show p_X0_setCopy_L58 c (nI i) c2 (nI j) xt xn _ (nI k) _ = _
      rw [p_X0_setCopy_L58]
      simp (disch := omega) only [ltI, eqI, addI, subI, mulI, divI, ixI, inbI, i2lI, l2iL, ltL, eqL, addL, mulL, subL, gdD, if_pos, if_neg, if_true, if_false, bdS1, bdS2, bdS3, bdS4, bdS5, bdS6, bdS7, bdS8, bdS9, bdS10, bdS11, bdS12, bdS13, moN, moS, hn]
      have e : up xl c (wr (xl c) (i * 40) (ls.take k)) c2 (j * 40 + k) = ls[k] := by
        rw [← hs k hk]
        by_cases hc : c2 = c
        · subst hc
          rw [up_s, wr_out]
          rw [List.length_take]
          omega
        · rw [up_n hc]
      rw [e, hb _ (List.getElem_mem hk), up_up, up_s]
      have e2 : i * 40 + k = i * 40 + (ls.take k).length := by rw [List.length_take]; omega
      rw [e2, wr_snoc, take_snoc hk]
      exact ih n (k + 1) (by omega) (by omega) (by omega)
theorem X_setCopy {xk : Nat → Int32} {xt : Nat → Nat → Int32} {xn : Nat → Nat → Int64} {xl : Nat → Nat → Int32} {c i c2 j K : Nat} {a : AV} (hi : i < 200) (hj : j < 200) (hK : xk c = nI K) (hK3 : K ≤ 3) (hw : wfv K a) (hs : XV xt xn xl c2 j a) :
    p_X0_setCopy c (nI i) c2 (nI j) xk xt xn xl = some (up xt c (up (xt c) i (nI (th a))), up xn c (up (xn c) i (nu a)), up xl c (wr (xl c) (i * 40) (le a))) := by
  obtain ⟨h1, h2, h3⟩ := hs
  unfold p_X0_setCopy
  simp (disch := omega) only [ltI, eqI, addI, subI, mulI, divI, ixI, inbI, i2lI, l2iL, ltL, eqL, addL, mulL, subL, gdD, if_pos, if_neg, if_true, if_false, bdS1, bdS2, bdS3, bdS4, bdS5, bdS6, bdS7, bdS8, bdS9, bdS10, bdS11, bdS12, bdS13, moN, moS, h1, h2, hK, gdT (isB_th a)]
  by_cases hk : K = 2
  · subst hk
    simp (disch := omega) only [ltI, eqI, addI, subI, mulI, divI, ixI, inbI, i2lI, l2iL, ltL, eqL, addL, mulL, subL, gdD, if_pos, if_neg, if_true, if_false, bdS1, bdS2, bdS3, bdS4, bdS5, bdS6, bdS7, bdS8, bdS9, bdS10, bdS11, bdS12, bdS13, moN, moS]
    have h := X_setCopy_L (xt := up xt c (up (xt c) i (nI (th a)))) (xn := up xn c (up (xn c) i (nu a))) (xl := xl) (c := c) hi hj hw.1 (by rw [up_s, up_s, wfv_num hw]) hw.2.1 h3 (le a).length fu 0 (by omega) (by omega) (by rw [fu_eq]; have := hw.1; omega)
    rw [List.take_zero, wr_nil, up_id] at h
    exact h
  · simp (disch := omega) only [ltI, eqI, addI, subI, mulI, divI, ixI, inbI, i2lI, l2iL, ltL, eqL, addL, mulL, subL, gdD, if_pos, if_neg, if_true, if_false, bdS1, bdS2, bdS3, bdS4, bdS5, bdS6, bdS7, bdS8, bdS9, bdS10, bdS11, bdS12, bdS13, moN, moS]
    rw [wfv_no hw hk, wr_nil, up_id]
end
section
/-! bytes of numbers -/
theorem b8_and (x : Int32) : b8 (x &&& nI 255) = b8 x := by
  unfold b8
  rw [show nI 255 = 255 from rfl, fa_byte_low]
theorem b8_0 : b8 (nI 0) = nI 0 := by decide
def lb (x : Int64) (i : Nat) : Bool := x.toBitVec.getLsbD i
theorem lb_ext {x y : Int64} (h : ∀ i, i < 64 → lb x i = lb y i) : x = y := Int64.toBitVec_inj.mp (BitVec.eq_of_getLsbD_eq (fun i hi => h i hi))
theorem amt_u : ∀ k, k < 64 → ((BitVec.signExtend 64 (nI k).toBitVec).toNat &&& 63) % 64 = k := by decide +kernel
theorem amt_s : ∀ k, k < 64 → ((BitVec.signExtend 64 (nI k).toBitVec &&& 63#64).smod 64#64).toNat = k := by decide +kernel
theorem lushr_bv (w : Int64) {k : Nat} (h : k < 64) : (lushr w (nI k)).toBitVec = w.toBitVec >>> k := by
  unfold lushr
  simp [amt_u k h]
theorem lshr_bv (w : Int64) {k : Nat} (h : k < 64) : (lshr w (nI k)).toBitVec = w.toBitVec.sshiftRight k := by
  unfold lshr
  simp [amt_s k h]
theorem lshl_bv (w : Int64) {k : Nat} (h : k < 64) : (lshl w (nI k)).toBitVec = w.toBitVec <<< k := by
  unfold lshl
  simp [amt_s k h]
theorem lb_ushr (w : Int64) {k i : Nat} (h : k < 64) : lb (lushr w (nI k)) i = lb w (k + i) := by
  unfold lb
  rw [lushr_bv w h, BitVec.getLsbD_ushiftRight]
theorem lb_shr (w : Int64) {k i : Nat} (h : k < 64) (hi : k + i < 64) : lb (lshr w (nI k)) i = lb w (k + i) := by
  unfold lb
  rw [lshr_bv w h, BitVec.getLsbD_sshiftRight]
  simp [hi]
  omega
theorem lb_shl (w : Int64) {k i : Nat} (h : k < 64) (hi : i < 64) : lb (lshl w (nI k)) i = (decide (k ≤ i) && lb w (i - k)) := by
  unfold lb
  rw [lshl_bv w h, BitVec.getLsbD_shiftLeft]
  by_cases h2 : k ≤ i
  · simp [hi, h2]
  · simp [h2]
theorem b8l_ext {x y : Int64} (h : ∀ i, i < 8 → lb x i = lb y i) : b8 (l2i x) = b8 (l2i y) := by
  unfold b8 l2i
  congr 1
  rw [Int64.toInt8_toInt32, Int64.toInt8_toInt32]
  apply Int8.toBitVec_inj.mp
  apply BitVec.eq_of_getLsbD_eq
  intro i hi
  have e := h i hi
  unfold lb at e
  have h64 : i < 64 := by omega
  rw [Int64.toBitVec_toInt8, Int64.toBitVec_toInt8, BitVec.getLsbD_signExtend, BitVec.getLsbD_signExtend, if_pos h64, if_pos h64, e]
theorem b8_sh (w : Int64) {k : Nat} (h : k < 8) : b8 (l2i (lushr w (nI (8 * k)))) = b8 (l2i (lshr w (nI (8 * k)))) :=
  b8l_ext (fun i hi => by rw [lb_ushr w (by omega), lb_shr w (by omega) (by omega)])
end
section
/-! rows of bytes: the file, the tape -/
theorem splitI (x : Int32) : x < nI 0 ∨ ∃ j : Nat, j < 2 ^ 31 ∧ x = nI j := by
  by_cases h : x < nI 0
  · exact Or.inl h
  · exact Or.inr (nI_of h)
theorem i2l_toInt (x : Int32) : (i2l x).toInt = x.toInt := Int32.toInt_toInt64 x
theorem neg_toInt {x : Int32} (h : x < nI 0) : x.toInt < 0 := by
  have := Int32.lt_iff_toInt_lt.mp h
  rw [nI_toInt (by omega)] at this
  omega
theorem lN_toInt' {n : Nat} (h : n < 2 ^ 31) : (lN n).toInt = n := lN_toInt h
theorem M_in (a b c : Int64) : p_X6_in a b c = some (nI (if b.toInt ≤ a.toInt ∧ a.toInt ≤ c.toInt then 1 else 0)) := by
  unfold p_X6_in
  by_cases h1 : a < b
  · have := Int64.lt_iff_toInt_lt.mp h1
    rw [if_pos h1, if_neg (by omega)]
  · by_cases h2 : c < a
    · have := Int64.lt_iff_toInt_lt.mp h2
      rw [if_neg h1, if_pos h2, if_neg (by omega)]
    · have e1 : b.toInt ≤ a.toInt := Int.not_lt.mp (fun h => h1 (Int64.lt_iff_toInt_lt.mpr h))
      have e2 : a.toInt ≤ c.toInt := Int.not_lt.mp (fun h => h2 (Int64.lt_iff_toInt_lt.mpr h))
      rw [if_neg h1, if_neg h2, if_pos (by omega)]
theorem M_in_neg {x : Int32} (h : x < nI 0) (b : Nat) (c : Int64) (hb : b < 2 ^ 31) : p_X6_in (i2l x) (lN b) c = some (nI 0) := by
  rw [M_in, i2l_toInt, lN_toInt hb]
  have := neg_toInt h
  rw [if_neg (by omega)]
theorem M_in_nat {j b c : Nat} (hj : j < 2 ^ 31) (hb : b < 2 ^ 31) (hc : c < 2 ^ 31) : p_X6_in (i2l (nI j)) (lN b) (lN c) = some (nI (if b ≤ j ∧ j ≤ c then 1 else 0)) := by
  rw [M_in, i2l_toInt, nI_toInt hj, lN_toInt hb, lN_toInt hc]
  simp only [Int.ofNat_le]
theorem M_in_lt {j n : Nat} (hj : j < 2 ^ 31) (hn : n < 2 ^ 30) : p_X6_in (i2l (nI j)) (lN 0) (i2l (nI n - nI 1)) = some (nI (if j < n then 1 else 0)) := by
  rw [M_in, i2l_toInt, i2l_toInt, nI_toInt hj, lN_toInt (by omega), pk_sub_toInt hn (by omega)]
  by_cases h : j < n
  · rw [if_pos h, if_pos (by omega)]
  · rw [if_neg h, if_neg (by omega)]
def XRow (rc : Nat → Int32) (rb : Nat → Nat → Int32) (r : Nat) (l : List Int32) : Prop := rc r = nI l.length ∧ l.length ≤ rlen r ∧ (∀ x ∈ l, b8 x = x) ∧ ∀ (k : Nat) (h : k < l.length), rb r k = l[k]
def MRow (f : Nat → Int32) (s : Int32) (cap : Nat) (l : List Int32) : Prop := s = nI l.length ∧ l.length ≤ cap ∧ ∀ (k : Nat) (h : k < l.length), f k = l[k]
theorem X_get {rc : Nat → Int32} {rb : Nat → Nat → Int32} {r : Nat} {l : List Int32} (h : XRow rc rb r l) {k : Nat} (hk : k < l.length) : p_X3_get r (nI k) rc rb = some (l[k] &&& nI 255) := by
  obtain ⟨h1, h2, h3, h4⟩ := h
  have hr : rlen r ≤ 12000 := by unfold rlen; split <;> omega
  unfold p_X3_get
  rw [h1]
  simp (disch := omega) only [ltI, eqI, addI, subI, mulI, divI, ixI, inbI, i2lI, l2iL, ltL, eqL, addL, mulL, subL, gdD, if_pos, if_neg, if_true, if_false, bdS1, bdS2, bdS3, bdS4, bdS5, bdS6, bdS7, bdS8, bdS9, bdS10, bdS11, bdS12, bdS13, moN, moS, h4 k hk]
theorem rlen_le (r : Nat) : rlen r ≤ 12000 := by unfold rlen; split <;> omega
theorem sim_size {rc : Nat → Int32} {rb : Nat → Nat → Int32} {mf : Nat → Int32} {ms : Int32} {l : List Int32} (hx : XRow rc rb 1 l) (hm : MRow mf ms 12000 l) : ∃ r, p_X5_size rc = some r ∧ p_X6_size ms = some r := by
  refine ⟨nI l.length, ?_, ?_⟩
  · unfold p_X5_size
    rw [hx.1]
  · unfold p_X6_size
    rw [hm.1]
theorem sim_byteAt {rc : Nat → Int32} {rb : Nat → Nat → Int32} {mf : Nat → Int32} {ms : Int32} {l : List Int32} (hx : XRow rc rb 1 l) (hm : MRow mf ms 12000 l) (v : Int32) : ∃ r, p_X5_byteAt v rc rb = some r ∧ p_X6_byteAt v mf ms = some r := by
  obtain ⟨rfl, hl, hm3⟩ := hm
  unfold p_X5_byteAt p_X6_byteAt
  rw [hx.1]
  rcases splitI v with h | ⟨j, hj, rfl⟩
  · refine ⟨-1, by rw [if_pos h], ?_⟩
    rw [M_in_neg h _ _ (by omega)]
    simp (disch := omega) only [ltI, eqI, addI, subI, mulI, divI, ixI, inbI, i2lI, l2iL, ltL, eqL, addL, mulL, subL, gdD, if_pos, if_neg, if_true, if_false, bdS1, bdS2, bdS3, bdS4, bdS5, bdS6, bdS7, bdS8, bdS9, bdS10, bdS11, bdS12, bdS13, moN, moS]
  · by_cases hjl : j < l.length
    · refine ⟨l[j] &&& nI 255, ?_, ?_⟩
      · simp (disch := omega) only [ltI, eqI, addI, subI, mulI, divI, ixI, inbI, i2lI, l2iL, ltL, eqL, addL, mulL, subL, gdD, if_pos, if_neg, if_true, if_false, bdS1, bdS2, bdS3, bdS4, bdS5, bdS6, bdS7, bdS8, bdS9, bdS10, bdS11, bdS12, bdS13, moN, moS, X_get hx hjl]
      · rw [M_in_lt hj (by omega)]
        simp (disch := omega) only [ltI, eqI, addI, subI, mulI, divI, ixI, inbI, i2lI, l2iL, ltL, eqL, addL, mulL, subL, gdD, if_pos, if_neg, if_true, if_false, bdS1, bdS2, bdS3, bdS4, bdS5, bdS6, bdS7, bdS8, bdS9, bdS10, bdS11, bdS12, bdS13, moN, moS, hm3 j hjl]
    · refine ⟨-1, ?_, ?_⟩
      · simp (disch := omega) only [ltI, eqI, addI, subI, mulI, divI, ixI, inbI, i2lI, l2iL, ltL, eqL, addL, mulL, subL, gdD, if_pos, if_neg, if_true, if_false, bdS1, bdS2, bdS3, bdS4, bdS5, bdS6, bdS7, bdS8, bdS9, bdS10, bdS11, bdS12, bdS13, moN, moS]
      · rw [M_in_lt hj (by omega)]
        simp (disch := omega) only [ltI, eqI, addI, subI, mulI, divI, ixI, inbI, i2lI, l2iL, ltL, eqL, addL, mulL, subL, gdD, if_pos, if_neg, if_true, if_false, bdS1, bdS2, bdS3, bdS4, bdS5, bdS6, bdS7, bdS8, bdS9, bdS10, bdS11, bdS12, bdS13, moN, moS]
theorem sim_poke {rc : Nat → Int32} {rb : Nat → Nat → Int32} {mf : Nat → Int32} {ms : Int32} {l : List Int32} (hx : XRow rc rb 1 l) (hm : MRow mf ms 12000 l) (v w : Int32) : ∃ r rb' mf' l', p_X5_poke v w rc rb = some (r, rb') ∧ p_X6_poke v w mf ms = some (r, mf') ∧ XRow rc rb' 1 l' ∧ MRow mf' ms 12000 l' ∧ ∀ q, q ≠ 1 → rb' q = rb q := by
  obtain ⟨rfl, hl, hm3⟩ := hm
  unfold p_X5_poke p_X6_poke
  rw [hx.1]
  rcases splitI v with h | ⟨j, hj, rfl⟩
  · refine ⟨-1, rb, mf, l, by rw [if_pos h], ?_, hx, ⟨rfl, hl, hm3⟩, fun q _ => rfl⟩
    rw [M_in_neg h _ _ (by omega)]
    simp (disch := omega) only [ltI, eqI, addI, subI, mulI, divI, ixI, inbI, i2lI, l2iL, ltL, eqL, addL, mulL, subL, gdD, if_pos, if_neg, if_true, if_false, bdS1, bdS2, bdS3, bdS4, bdS5, bdS6, bdS7, bdS8, bdS9, bdS10, bdS11, bdS12, bdS13, moN, moS]
  · by_cases hjl : j < l.length
    · have hset : XRow rc (up rb 1 (up (rb 1) j (b8 (l[j] ^^^ w)))) 1 (l.set j (b8 (l[j] ^^^ w))) := by
        obtain ⟨h1, h2, h3, h4⟩ := hx
        refine ⟨by rw [List.length_set]; exact h1, by rw [List.length_set]; exact h2, ?_, ?_⟩
        · intro x hxm
          rcases List.mem_or_eq_of_mem_set hxm with h | h
          · exact h3 x h
          · rw [h, b8_b8']
        · intro k hk
          rw [List.length_set] at hk
          rw [up_s, List.getElem_set]
          unfold up
          by_cases hkj : j = k
          · rw [if_pos hkj.symm, if_pos hkj]
          · rw [if_neg (Ne.symm hkj), if_neg hkj, h4 k hk]
      have hget := X_get hset (k := j) (by rw [List.length_set]; exact hjl)
      rw [List.getElem_set_self] at hget
      have e0 : b8 ((l[j] &&& nI 255) ^^^ w) = b8 (l[j] ^^^ w) := by
        unfold b8
        rw [fa_byte_xor, fa_byte_xor, show nI 255 = 255 from rfl, fa_byte_low]
      refine ⟨b8 (l[j] ^^^ w) &&& nI 255, up rb 1 (up (rb 1) j (b8 (l[j] ^^^ w))), up mf j (b8 (l[j] ^^^ w)), l.set j (b8 (l[j] ^^^ w)), ?_, ?_, hset, ⟨by rw [List.length_set], by rw [List.length_set]; exact hl, ?_⟩, fun q hq => up_n hq⟩
      · have h12 : rlen 1 = 12000 := rfl
        have eset : p_X3_set 1 (nI j) ((l[j] &&& nI 255) ^^^ w) rc rb = some (up rb 1 (up (rb 1) j (b8 (l[j] ^^^ w)))) := by
          unfold p_X3_set
          rw [hx.1, h12]
          simp (disch := omega) only [ltI, eqI, addI, subI, mulI, divI, ixI, inbI, i2lI, l2iL, ltL, eqL, addL, mulL, subL, gdD, if_pos, if_neg, if_true, if_false, bdS1, bdS2, bdS3, bdS4, bdS5, bdS6, bdS7, bdS8, bdS9, bdS10, bdS11, bdS12, bdS13, moN, moS, e0]
        simp (disch := omega) only [ltI, eqI, addI, subI, mulI, divI, ixI, inbI, i2lI, l2iL, ltL, eqL, addL, mulL, subL, gdD, if_pos, if_neg, if_true, if_false, bdS1, bdS2, bdS3, bdS4, bdS5, bdS6, bdS7, bdS8, bdS9, bdS10, bdS11, bdS12, bdS13, moN, moS, X_get hx hjl, eset, hget]
      · rw [M_in_lt hj (by omega)]
        simp (disch := omega) only [ltI, eqI, addI, subI, mulI, divI, ixI, inbI, i2lI, l2iL, ltL, eqL, addL, mulL, subL, gdD, if_pos, if_neg, if_true, if_false, bdS1, bdS2, bdS3, bdS4, bdS5, bdS6, bdS7, bdS8, bdS9, bdS10, bdS11, bdS12, bdS13, moN, moS, hm3 j hjl, up_s]
      · intro k hk
        rw [List.length_set] at hk
        rw [List.getElem_set]
        unfold up
        by_cases hkj : j = k
        · rw [if_pos hkj.symm, if_pos hkj]
        · rw [if_neg (Ne.symm hkj), if_neg hkj, hm3 k hk]
    · refine ⟨-1, rb, mf, l, ?_, ?_, hx, ⟨rfl, hl, hm3⟩, fun q _ => rfl⟩
      · simp (disch := omega) only [ltI, eqI, addI, subI, mulI, divI, ixI, inbI, i2lI, l2iL, ltL, eqL, addL, mulL, subL, gdD, if_pos, if_neg, if_true, if_false, bdS1, bdS2, bdS3, bdS4, bdS5, bdS6, bdS7, bdS8, bdS9, bdS10, bdS11, bdS12, bdS13, moN, moS]
      · rw [M_in_lt hj (by omega)]
        simp (disch := omega) only [ltI, eqI, addI, subI, mulI, divI, ixI, inbI, i2lI, l2iL, ltL, eqL, addL, mulL, subL, gdD, if_pos, if_neg, if_true, if_false, bdS1, bdS2, bdS3, bdS4, bdS5, bdS6, bdS7, bdS8, bdS9, bdS10, bdS11, bdS12, bdS13, moN, moS]
end
section
/-! writing behind a row: of the class (bounded, with its flag), of the reference (a draft) -/
def FrR (r : Nat) (rc rv : Nat → Int32) (rb : Nat → Nat → Int32) (rc' rv' : Nat → Int32) (rb' : Nat → Nat → Int32) : Prop := ∀ q, q ≠ r → rc' q = rc q ∧ rv' q = rv q ∧ rb' q = rb q
theorem FrR.rf {r : Nat} {rc rv : Nat → Int32} {rb : Nat → Nat → Int32} : FrR r rc rv rb rc rv rb := fun _ _ => ⟨rfl, rfl, rfl⟩
theorem FrR.tr {r : Nat} {rc rv rc1 rv1 rc2 rv2 : Nat → Int32} {rb rb1 rb2 : Nat → Nat → Int32} (h1 : FrR r rc rv rb rc1 rv1 rb1) (h2 : FrR r rc1 rv1 rb1 rc2 rv2 rb2) : FrR r rc rv rb rc2 rv2 rb2 := fun q hq => ⟨(h2 q hq).1.trans (h1 q hq).1, (h2 q hq).2.1.trans (h1 q hq).2.1, (h2 q hq).2.2.trans (h1 q hq).2.2⟩
def Seg (f : Nat → Int32) (l : List Int32) : Prop := ∀ (k : Nat) (h : k < l.length), f k = l[k]
theorem Seg.snoc {f : Nat → Int32} {l : List Int32} (h : Seg f l) (x : Int32) : Seg (up f l.length x) (l ++ [x]) := by
  intro k hk
  unfold up
  by_cases e : k = l.length
  · subst e
    rw [if_pos rfl]
    simp
  · rw [if_neg e]
    simp only [List.length_append, List.length_cons, List.length_nil] at hk
    rw [h k (by omega), List.getElem_append_left]
def XOut (rc rv : Nat → Int32) (rb : Nat → Nat → Int32) (r : Nat) (l : List Int32) : Prop := (l.length ≤ rlen r ∧ rc r = nI l.length ∧ rv r = nI 0 ∧ Seg (rb r) l) ∨ (rlen r < l.length ∧ rv r = nI 1 ∧ ∃ c, c ≤ rlen r ∧ rc r = nI c)
theorem XOut.of_fr {rc rv rc' rv' : Nat → Int32} {rb rb' : Nat → Nat → Int32} {r q : Nat} {l : List Int32} (h : XOut rc rv rb r l) (hf : FrR q rc rv rb rc' rv' rb') (hq : r ≠ q) : XOut rc' rv' rb' r l := by
  obtain ⟨e1, e2, e3⟩ := hf r hq
  unfold XOut
  rw [e1, e2, e3]
  exact h
theorem X_push {rc rv : Nat → Int32} {rb : Nat → Nat → Int32} {r c : Nat} (b : Int32) (hc : rc r = nI c) (h : c ≤ rlen r) : p_X3_push r b rc rv rb = if c < rlen r then some (up rc r (nI (c + 1)), rv, up rb r (up (rb r) c (b8 b))) else some (rc, up rv r (nI 1), rb) := by
  have := rlen_le r
  unfold p_X3_push
  rw [hc]
  by_cases h2 : c < rlen r
  · simp (disch := omega) only [ltI, eqI, addI, subI, mulI, divI, ixI, inbI, i2lI, l2iL, ltL, eqL, addL, mulL, subL, gdD, if_pos, if_neg, if_true, if_false, bdS1, bdS2, bdS3, bdS4, bdS5, bdS6, bdS7, bdS8, bdS9, bdS10, bdS11, bdS12, bdS13, moN, moS]
  · simp (disch := omega) only [ltI, eqI, addI, subI, mulI, divI, ixI, inbI, i2lI, l2iL, ltL, eqL, addL, mulL, subL, gdD, if_pos, if_neg, if_true, if_false, bdS1, bdS2, bdS3, bdS4, bdS5, bdS6, bdS7, bdS8, bdS9, bdS10, bdS11, bdS12, bdS13, moN, moS]
theorem XOut_push {rc rv : Nat → Int32} {rb : Nat → Nat → Int32} {r : Nat} {l : List Int32} (b : Int32) (h : XOut rc rv rb r l) : ∃ rc' rv' rb', p_X3_push r b rc rv rb = some (rc', rv', rb') ∧ XOut rc' rv' rb' r (l ++ [b8 b]) ∧ FrR r rc rv rb rc' rv' rb' := by
  have hlen : (l ++ [b8 b]).length = l.length + 1 := by simp
  rcases h with ⟨h1, h2, h3, h4⟩ | ⟨h1, h2, c, h3, h4⟩
  · by_cases h5 : l.length < rlen r
    · refine ⟨_, _, _, (X_push b h2 h1).trans (if_pos h5), Or.inl ⟨by omega, by rw [up_s, hlen], h3, ?_⟩, fun q hq => ⟨up_n hq, rfl, up_n hq⟩⟩
      rw [up_s]
      exact h4.snoc _
    · exact ⟨_, _, _, (X_push b h2 h1).trans (if_neg h5), Or.inr ⟨by omega, up_s, _, h1, h2⟩, fun q hq => ⟨rfl, up_n hq, rfl⟩⟩
  · by_cases h5 : c < rlen r
    · exact ⟨_, _, _, (X_push b h4 h3).trans (if_pos h5), Or.inr ⟨by omega, h2, c + 1, h5, up_s⟩, fun q hq => ⟨up_n hq, rfl, up_n hq⟩⟩
    · exact ⟨_, _, _, (X_push b h4 h3).trans (if_neg h5), Or.inr ⟨by omega, up_s, c, h3, h4⟩, fun q hq => ⟨rfl, up_n hq, rfl⟩⟩
def MOut (md : Nat → Int32) (mdd : Int32) (l : List Int32) : Prop := mdd = nI l.length ∧ Seg md l
theorem MOut_byte {md : Nat → Int32} {mdd : Int32} {l : List Int32} (b : Int32) (h : MOut md mdd l) (hl : l.length < 60000) : ∃ md' mdd', p_X6_byteTo b md mdd = some (md', mdd') ∧ MOut md' mdd' (l ++ [b8 b]) := by
  obtain ⟨rfl, h2⟩ := h
  refine ⟨up md l.length (b8 b), nI (l.length + 1), ?_, by simp, h2.snoc _⟩
  unfold p_X6_byteTo
  simp (disch := omega) only [ltI, eqI, addI, subI, mulI, divI, ixI, inbI, i2lI, l2iL, ltL, eqL, addL, mulL, subL, gdD, if_pos, if_neg, if_true, if_false, bdS1, bdS2, bdS3, bdS4, bdS5, bdS6, bdS7, bdS8, bdS9, bdS10, bdS11, bdS12, bdS13, moN, moS]
/-- the n lowest bytes of a number, the lowest first -/
def litB (w : Int64) (n : Nat) : List Int32 := (List.range n).map (fun k => b8 (l2i (lshr w (nI (8 * k)))))
theorem litB_len (w : Int64) (n : Nat) : (litB w n).length = n := by simp [litB]
theorem litB_succ (w : Int64) (n : Nat) : litB w (n + 1) = litB w n ++ [b8 (l2i (lshr w (nI (8 * n))))] := by simp [litB, List.range_succ]
theorem X_lit_L {r N : Nat} {w : Int64} {l : List Int32} (hN : N ≤ 8) : ∀ (m n k : Nat) (rc rv : Nat → Int32) (rb : Nat → Nat → Int32), N - k = m → k ≤ N → m < n → XOut rc rv rb r (l ++ litB w k) → ∃ rc' rv' rb', itr4 (p_X3_pushLittle_L3 r w (nI N)) n (nI k) rc rv rb = some (rc', rv', rb') ∧ XOut rc' rv' rb' r (l ++ litB w N) ∧ FrR r rc rv rb rc' rv' rb' := by
  intro m
  induction m with
  | zero =>
    intro n k rc rv rb h1 h2 h3 h
    have : k = N := by omega
    subst this
    cases n with
    | zero => omega
    | succ n =>
      refine ⟨rc, rv, rb, ?_, h, FrR.rf⟩
      show p_X3_pushLittle_L3 r w (nI k) _ (nI k) rc rv rb = _
      rw [p_X3_pushLittle_L3]
      simp (disch := omega) only [ltI, eqI, addI, subI, mulI, divI, ixI, inbI, i2lI, l2iL, ltL, eqL, addL, mulL, subL, gdD, if_pos, if_neg, if_true, if_false, bdS1, bdS2, bdS3, bdS4, bdS5, bdS6, bdS7, bdS8, bdS9, bdS10, bdS11, bdS12, bdS13, moN, moS]
  | succ m ih =>
    intro n k rc rv rb h1 h2 h3 h
    cases n with
    | zero => omega
    | succ n =>
      obtain ⟨rc1, rv1, rb1, e1, h4, f1⟩ := XOut_push (l2i (lushr w (nI (8 * k)))) h
      rw [b8_sh w (by omega), List.append_assoc, ← litB_succ] at h4
      obtain ⟨rc2, rv2, rb2, e2, h5, f2⟩ := ih n (k + 1) rc1 rv1 rb1 (by omega) (by omega) (by omega) h4
      refine ⟨rc2, rv2, rb2, ?_, h5, f1.tr f2⟩
      show p_X3_pushLittle_L3 r w (nI N) _ (nI k) rc rv rb = _
      rw [p_X3_pushLittle_L3]
      simp (disch := omega) only [ltI, eqI, addI, subI, mulI, divI, ixI, inbI, i2lI, l2iL, ltL, eqL, addL, mulL, subL, gdD, if_pos, if_neg, if_true, if_false, bdS1, bdS2, bdS3, bdS4, bdS5, bdS6, bdS7, bdS8, bdS9, bdS10, bdS11, bdS12, bdS13, moN, moS, e1]
      exact e2
theorem X_lit {r N : Nat} {w : Int64} {l : List Int32} {rc rv : Nat → Int32} {rb : Nat → Nat → Int32} (hN : N ≤ 8) (h : XOut rc rv rb r l) : ∃ rc' rv' rb', p_X3_pushLittle r w (nI N) rc rv rb = some (rc', rv', rb') ∧ XOut rc' rv' rb' r (l ++ litB w N) ∧ FrR r rc rv rb rc' rv' rb' := by
  unfold p_X3_pushLittle
  exact X_lit_L hN N fu 0 rc rv rb (by omega) (by omega) (by rw [fu_eq]; omega) (by simpa [litB] using h)
theorem M_lit_L {N : Nat} {w : Int64} {l : List Int32} (hN : N ≤ 8) (hl : l.length + N ≤ 60000) : ∀ (m n k : Nat) (md : Nat → Int32) (mdd : Int32), N - k = m → k ≤ N → m < n → MOut md mdd (l ++ litB w k) → ∃ md' mdd', itr3 (p_X6_bytesTo_L3 w (nI N)) n (nI k) md mdd = some (md', mdd') ∧ MOut md' mdd' (l ++ litB w N) := by
  intro m
  induction m with
  | zero =>
    intro n k md mdd h1 h2 h3 h
    have : k = N := by omega
    subst this
    cases n with
    | zero => omega
    | succ n =>
      refine ⟨md, mdd, ?_, h⟩
      show p_X6_bytesTo_L3 w (nI k) _ (nI k) md mdd = _
      rw [p_X6_bytesTo_L3]
      simp (disch := omega) only [ltI, eqI, addI, subI, mulI, divI, ixI, inbI, i2lI, l2iL, ltL, eqL, addL, mulL, subL, gdD, if_pos, if_neg, if_true, if_false, bdS1, bdS2, bdS3, bdS4, bdS5, bdS6, bdS7, bdS8, bdS9, bdS10, bdS11, bdS12, bdS13, moN, moS]
  | succ m ih =>
    intro n k md mdd h1 h2 h3 h
    cases n with
    | zero => omega
    | succ n =>
      obtain ⟨md1, mdd1, e1, h4⟩ := MOut_byte (l2i (lshr w (nI (8 * k)))) h (by rw [List.length_append, litB_len]; omega)
      rw [List.append_assoc, ← litB_succ] at h4
      obtain ⟨md2, mdd2, e2, h5⟩ := ih n (k + 1) md1 mdd1 (by omega) (by omega) (by omega) h4
      refine ⟨md2, mdd2, ?_, h5⟩
      show p_X6_bytesTo_L3 w (nI N) _ (nI k) md mdd = _
      rw [p_X6_bytesTo_L3]
      simp (disch := omega) only [ltI, eqI, addI, subI, mulI, divI, ixI, inbI, i2lI, l2iL, ltL, eqL, addL, mulL, subL, gdD, if_pos, if_neg, if_true, if_false, bdS1, bdS2, bdS3, bdS4, bdS5, bdS6, bdS7, bdS8, bdS9, bdS10, bdS11, bdS12, bdS13, moN, moS, e1]
      exact e2
theorem M_lit {N : Nat} {w : Int64} {l : List Int32} {md : Nat → Int32} {mdd : Int32} (hN : N ≤ 8) (hl : l.length + N ≤ 60000) (h : MOut md mdd l) : ∃ md' mdd', p_X6_bytesTo w (nI N) md mdd = some (md', mdd') ∧ MOut md' mdd' (l ++ litB w N) := by
  unfold p_X6_bytesTo
  exact M_lit_L hN hl N fu 0 md mdd (by omega) (by omega) (by rw [fu_eq]; omega) (by simpa [litB] using h)
end
section
/-! VAR, ZIG -/
theorem lb_and (x y : Int64) (i : Nat) : lb (x &&& y) i = (lb x i && lb y i) := by
  unfold lb
  rw [Int64.toBitVec_and, BitVec.getLsbD_and]
theorem lb_or (x y : Int64) (i : Nat) : lb (x ||| y) i = (lb x i || lb y i) := by
  unfold lb
  rw [Int64.toBitVec_or, BitVec.getLsbD_or]
theorem lb_big (x : Int64) {i : Nat} (h : 64 ≤ i) : lb x i = false := BitVec.getLsbD_of_ge _ _ h
theorem lb_zero (i : Nat) : lb (lN 0) i = false := by
  have : (lN 0).toBitVec = 0#64 := by decide
  unfold lb
  rw [this]
  simp
theorem lb_m128 : ∀ i, i < 64 → lb (-128 : Int64) i = decide (7 ≤ i) := by decide +kernel
theorem and127 (v : Int64) : ∃ m, m < 128 ∧ v &&& lN 127 = lN m := by
  refine ⟨v.toBitVec.toNat % 128, Nat.mod_lt _ (by omega), ?_⟩
  apply Int64.toBitVec_inj.mp
  apply BitVec.eq_of_toNat_eq
  have e1 : (lN 127).toBitVec = 127#64 := by decide
  have e2 : (lN (v.toBitVec.toNat % 128)).toBitVec = BitVec.ofNat 64 (v.toBitVec.toNat % 128) := rfl
  rw [Int64.toBitVec_and, e1, e2, BitVec.toNat_and, BitVec.toNat_ofNat, BitVec.toNat_ofNat]
  have h3 : 127 % 2 ^ 64 = 2 ^ 7 - 1 := by decide
  rw [h3, Nat.and_two_pow_sub_one_eq_mod, Nat.mod_eq_of_lt (a := v.toBitVec.toNat % 128) (by omega)]
theorem b8_128 (v : Int64) : b8 (l2i (v &&& lN 127) + nI 128) = b8 (l2i (v &&& lN 127) ||| nI 128) := by
  obtain ⟨m, hm, e⟩ := and127 v
  rw [e, l2iL, addI, Int32.or_comm]
  have h := fa_or_sum (a := m) (k := 7) 1 hm
  rw [show 2 ^ 7 * 1 = 128 from rfl] at h
  rw [h, Nat.add_comm]
theorem m128_iff (v : Int64) : v &&& (-128 : Int64) = lN 0 ↔ lushr v (nI 7) = lN 0 := by
  constructor
  · intro h
    apply lb_ext
    intro i hi
    rw [lb_ushr v (by omega), lb_zero]
    by_cases h2 : 7 + i < 64
    · have e : lb (v &&& (-128 : Int64)) (7 + i) = false := by rw [h, lb_zero]
      rw [lb_and, lb_m128 _ h2, decide_eq_true (by omega), Bool.and_true] at e
      exact e
    · exact lb_big v (by omega)
  · intro h
    apply lb_ext
    intro i hi
    rw [lb_and, lb_zero, lb_m128 i hi]
    by_cases h2 : 7 ≤ i
    · have e : lb (lushr v (nI 7)) (i - 7) = false := by rw [h, lb_zero]
      rw [lb_ushr v (by omega), show 7 + (i - 7) = i by omega] at e
      rw [e]
      rfl
    · rw [decide_eq_false h2, Bool.and_false]
def varBn : Nat → Int64 → List Int32
  | 0, v => [b8 (l2i v)]
  | n + 1, v => if lushr v (nI 7) = lN 0 then [b8 (l2i v)] else b8 (l2i (v &&& lN 127) ||| nI 128) :: varBn n (lushr v (nI 7))
def varB (v : Int64) : List Int32 := varBn 9 v
def zz (v : Int64) : Int64 := lshl v (nI 1) ^^^ lshr v (nI 63)
theorem varBn_len : ∀ (n : Nat) (v : Int64), (varBn n v).length ≤ n + 1 := by
  intro n
  induction n with
  | zero => intro v; simp [varBn]
  | succ n ih =>
    intro v
    unfold varBn
    split
    · simp
    · have := ih (lushr v (nI 7))
      simp
      omega
theorem varB_len (v : Int64) : (varB v).length ≤ 10 := varBn_len 9 v
theorem X_var_L {r : Nat} : ∀ (m n : Nat) (v : Int64) (l : List Int32) (rc rv : Nat → Int32) (rb : Nat → Nat → Int32), m ≤ 9 → m < n → XOut rc rv rb r l → ∃ rc' rv' rb', itr5 (p_X3_pushVar_L5 r) n v (nI (9 - m)) rc rv rb = some (rc', rv', rb') ∧ XOut rc' rv' rb' r (l ++ varBn m v) ∧ FrR r rc rv rb rc' rv' rb' := by
  intro m
  induction m with
  | zero =>
    intro n v l rc rv rb h1 h2 h
    cases n with
    | zero => omega
    | succ n =>
      obtain ⟨rc1, rv1, rb1, e1, h4, f1⟩ := XOut_push (l2i v) h
      refine ⟨rc1, rv1, rb1, ?_, h4, f1⟩
      show p_X3_pushVar_L5 r _ v (nI 9) rc rv rb = _
      rw [p_X3_pushVar_L5]
      simp (disch := omega) only [ltI, eqI, addI, subI, mulI, divI, ixI, inbI, i2lI, l2iL, ltL, eqL, addL, mulL, subL, gdD, if_pos, if_neg, if_true, if_false, bdS1, bdS2, bdS3, bdS4, bdS5, bdS6, bdS7, bdS8, bdS9, bdS10, bdS11, bdS12, bdS13, moN, moS, e1]
  | succ m ih =>
    intro n v l rc rv rb h1 h2 h
    cases n with
    | zero => omega
    | succ n =>
      by_cases hv : lushr v (nI 7) = lN 0
      · obtain ⟨rc1, rv1, rb1, e1, h4, f1⟩ := XOut_push (l2i v) h
        refine ⟨rc1, rv1, rb1, ?_, ?_, f1⟩
        · show p_X3_pushVar_L5 r _ v (nI (9 - (m + 1))) rc rv rb = _
          rw [p_X3_pushVar_L5]
          rw [if_pos (show nI (9 - (m + 1)) < nI 9 by simp (disch := omega) only [ltI, eqI, addI, subI, mulI, divI, ixI, inbI, i2lI, l2iL, ltL, eqL, addL, mulL, subL, gdD, if_pos, if_neg, if_true, if_false, bdS1, bdS2, bdS3, bdS4, bdS5, bdS6, bdS7, bdS8, bdS9, bdS10, bdS11, bdS12, bdS13, moN, moS]; omega), if_pos hv]
          simp (disch := omega) only [ltI, eqI, addI, subI, mulI, divI, ixI, inbI, i2lI, l2iL, ltL, eqL, addL, mulL, subL, gdD, if_pos, if_neg, if_true, if_false, bdS1, bdS2, bdS3, bdS4, bdS5, bdS6, bdS7, bdS8, bdS9, bdS10, bdS11, bdS12, bdS13, moN, moS, e1]
        · unfold varBn
          rw [if_pos hv]
          exact h4
      · obtain ⟨rc1, rv1, rb1, e1, h4, f1⟩ := XOut_push (l2i (v &&& lN 127) + nI 128) h
        obtain ⟨rc2, rv2, rb2, e2, h5, f2⟩ := ih n (lushr v (nI 7)) _ rc1 rv1 rb1 (by omega) (by omega) h4
        refine ⟨rc2, rv2, rb2, ?_, ?_, f1.tr f2⟩
        · show p_X3_pushVar_L5 r _ v (nI (9 - (m + 1))) rc rv rb = _
          rw [p_X3_pushVar_L5]
          rw [if_pos (show nI (9 - (m + 1)) < nI 9 by simp (disch := omega) only [ltI, eqI, addI, subI, mulI, divI, ixI, inbI, i2lI, l2iL, ltL, eqL, addL, mulL, subL, gdD, if_pos, if_neg, if_true, if_false, bdS1, bdS2, bdS3, bdS4, bdS5, bdS6, bdS7, bdS8, bdS9, bdS10, bdS11, bdS12, bdS13, moN, moS]; omega), if_neg hv, e1, bdS3, addI]
          rw [show 9 - (m + 1) + 1 = 9 - m by omega]
          exact e2
        · unfold varBn
          rw [if_neg hv]
          rw [List.append_assoc, b8_128] at h5
          exact h5
theorem X_var {r : Nat} {v : Int64} {l : List Int32} {rc rv : Nat → Int32} {rb : Nat → Nat → Int32} (h : XOut rc rv rb r l) : ∃ rc' rv' rb', p_X3_pushVar r v rc rv rb = some (rc', rv', rb') ∧ XOut rc' rv' rb' r (l ++ varB v) ∧ FrR r rc rv rb rc' rv' rb' := by
  unfold p_X3_pushVar
  exact X_var_L 9 fu v l rc rv rb (by omega) (by rw [fu_eq]; omega) h
theorem M_var_L : ∀ (m n : Nat) (v : Int64) (l : List Int32) (md : Nat → Int32) (mdd : Int32), (∀ i, 7 * (m + 1) ≤ i → lb v i = false) → m < n → l.length + (varBn m v).length ≤ 60000 → MOut md mdd l → ∃ md' mdd', itr3 p_X6_var_L2 n v md mdd = some (md', mdd') ∧ MOut md' mdd' (l ++ varBn m v) := by
  intro m
  induction m with
  | zero =>
    intro n v l md mdd hv h2 hl h
    cases n with
    | zero => omega
    | succ n =>
      obtain ⟨md1, mdd1, e1, h4⟩ := MOut_byte (l2i v) h (by simp [varBn] at hl; omega)
      refine ⟨md1, mdd1, ?_, h4⟩
      have hz : lushr v (nI 7) = lN 0 := by
        apply lb_ext
        intro i hi
        rw [lb_ushr v (by omega), lb_zero]
        exact hv _ (by omega)
      show p_X6_var_L2 _ v md mdd = _
      rw [p_X6_var_L2, if_pos ((m128_iff v).mpr hz), e1]
      rfl
  | succ m ih =>
    intro n v l md mdd hv h2 hl h
    cases n with
    | zero => omega
    | succ n =>
      show ∃ md' mdd', p_X6_var_L2 _ v md mdd = _ ∧ _
      rw [p_X6_var_L2]
      unfold varBn at hl ⊢
      by_cases hz : lushr v (nI 7) = lN 0
      · rw [if_pos hz] at hl
        simp only [List.length_cons, List.length_nil] at hl
        obtain ⟨md1, mdd1, e1, h4⟩ := MOut_byte (l2i v) h (by omega)
        rw [if_pos ((m128_iff v).mpr hz), e1, if_pos hz]
        exact ⟨md1, mdd1, rfl, h4⟩
      · rw [if_neg hz] at hl
        simp only [List.length_cons] at hl
        obtain ⟨md1, mdd1, e1, h4⟩ := MOut_byte (l2i (v &&& lN 127) ||| nI 128) h (by omega)
        obtain ⟨md2, mdd2, e2, h5⟩ := ih n (lushr v (nI 7)) _ md1 mdd1 (fun i hi => by rw [lb_ushr v (by omega)]; exact hv _ (by omega)) (by omega) (by simp; omega) h4
        rw [if_neg (fun q => hz ((m128_iff v).mp q)), e1, if_neg hz, bdS2]
        rw [List.append_assoc] at h5
        exact ⟨md2, mdd2, e2, h5⟩
theorem M_var {v : Int64} {l : List Int32} {md : Nat → Int32} {mdd : Int32} (hl : l.length + (varB v).length ≤ 60000) (h : MOut md mdd l) : ∃ md' mdd', p_X6_var v md mdd = some (md', mdd') ∧ MOut md' mdd' (l ++ varB v) := by
  unfold p_X6_var
  exact M_var_L 9 fu v l md mdd (fun i hi => lb_big v (by omega)) (by rw [fu_eq]; omega) hl h
theorem M_zig {v : Int64} {l : List Int32} {md : Nat → Int32} {mdd : Int32} (hl : l.length + (varB (zz v)).length ≤ 60000) (h : MOut md mdd l) : ∃ md' mdd', p_X6_zig v md mdd = some (md', mdd') ∧ MOut md' mdd' (l ++ varB (zz v)) := by
  obtain ⟨md1, mdd1, e1, h1⟩ := M_var (v := zz v) hl h
  refine ⟨md1, mdd1, ?_, h1⟩
  unfold p_X6_zig
  rw [show (lshl v (nI 1)) ^^^ (lshr v (nI 63)) = zz v from rfl, e1]
  rfl
end
section
/-! numbers packed by their width: bit by bit -/
abbrev PS : Type := Nat × Int32 × List Int32
def pst (x : Int32) (s : PS) : PS := if s.1 + 1 = 8 then (0, nI 0, s.2.2 ++ [b8 (s.2.1 ||| ishl x (nI s.1))]) else (s.1 + 1, s.2.1 ||| ishl x (nI s.1), s.2.2)
def bitOf (x : Int64) (k : Nat) : Int32 := l2i (lushr x (nI k) &&& lN 1)
def pbits (x : Int64) : Nat → PS → PS
  | 0, s => s
  | k + 1, s => pst (bitOf x k) (pbits x k s)
def pnums (g : Nat → Int64) (w : Nat) : Nat → PS → PS
  | 0, s => s
  | j + 1, s => pbits (g j) w (pnums g w j s)
theorem bitOf_0 {k : Nat} (h : k < 64) : bitOf (lN 0) k = nI 0 := by
  have e : lushr (lN 0) (nI k) &&& lN 1 = lN 0 := by
    apply lb_ext
    intro i hi
    rw [lb_and, lb_ushr _ h, lb_zero, lb_zero]
    rfl
  unfold bitOf
  rw [e, l2iL]
def ptot (s : PS) : Nat := 8 * s.2.2.length + s.1
theorem pst_tot (x : Int32) (s : PS) : ptot (pst x s) = ptot s + 1 := by
  unfold pst ptot
  split
  · next h => simp; omega
  · simp; omega
theorem pst_lt (x : Int32) (s : PS) (h : s.1 < 8) : (pst x s).1 < 8 := by
  unfold pst
  split
  · simp
  · simp; omega
theorem pbits_tot (x : Int64) (k : Nat) (s : PS) : ptot (pbits x k s) = ptot s + k := by
  induction k with
  | zero => rfl
  | succ k ih => rw [pbits, pst_tot, ih]; omega
theorem pbits_lt (x : Int64) (k : Nat) (s : PS) (h : s.1 < 8) : (pbits x k s).1 < 8 := by
  induction k with
  | zero => exact h
  | succ k ih => exact pst_lt _ _ ih
theorem pnums_tot (g : Nat → Int64) (w j : Nat) (s : PS) : ptot (pnums g w j s) = ptot s + j * w := by
  induction j with
  | zero => simp [pnums]
  | succ j ih => rw [pnums, pbits_tot, ih, Nat.succ_mul]; omega
theorem pnums_lt (g : Nat → Int64) (w j : Nat) (s : PS) (h : s.1 < 8) : (pnums g w j s).1 < 8 := by
  induction j with
  | zero => exact h
  | succ j ih => exact pbits_lt _ _ _ ih
theorem pnums_cong {g g' : Nat → Int64} {w : Nat} : ∀ (j : Nat) (s : PS), (∀ i, i < j → g i = g' i) → pnums g w j s = pnums g' w j s := by
  intro j
  induction j with
  | zero => intro s _; rfl
  | succ j ih => intro s h; rw [pnums, pnums, ih s (fun i hi => h i (by omega)), h j (by omega)]
/-- what cnt numbers make, when they fill whole bytes -/
def packB (g : Nat → Int64) (w cnt : Nat) : List Int32 := (pnums g w cnt (0, nI 0, [])).2.2
theorem packB_len (g : Nat → Int64) (w cnt : Nat) : (packB g w cnt).length = cnt * w / 8 := by
  have h := pnums_tot g w cnt (0, nI 0, [])
  have h2 := pnums_lt g w cnt (0, nI 0, []) (by simp)
  unfold ptot at h
  simp only [List.length_nil] at h
  unfold packB
  omega
theorem packB_end {g : Nat → Int64} {w cnt : Nat} (h8 : cnt * w % 8 = 0) : (pnums g w cnt (0, nI 0, [])).1 = 0 := by
  have h := pnums_tot g w cnt (0, nI 0, [])
  have h2 := pnums_lt g w cnt (0, nI 0, []) (by simp)
  unfold ptot at h
  simp only [List.length_nil] at h
  omega
theorem packB_cong {g g' : Nat → Int64} {w cnt : Nat} (h : ∀ i, i < cnt → g i = g' i) : packB g w cnt = packB g' w cnt := by
  unfold packB
  rw [pnums_cong cnt _ h]
theorem M_pack_in {lim w : Nat} {i : Nat} {mn : Nat → Int64} {x : Int64} {L : List Int32} {B : Nat} {s0 : PS} {kx : Int32 → Int32 → (Nat → Int32) → Int32 → Option ((Nat → Int32) × Int32)} (hw : w ≤ 64) (hi : i < 500) (hlim : lim < 2 ^ 31) (hx : if i < lim then mn i = x else x = lN 0) (hs : s0.1 < 8) (hB : ptot s0 + w ≤ 8 * B) (hL : L.length + B ≤ 60000) :
    ∀ (m n k : Nat) (md : Nat → Int32) (mdd : Int32), w - k = m → k ≤ w → m < n → MOut md mdd (L ++ (pbits x k s0).2.2) → ∃ md' mdd', itr5 (p_X6_pack_L20 (nI lim) (nI w) (nI i) mn kx) n (nI (pbits x k s0).1) (pbits x k s0).2.1 (nI k) md mdd = kx (nI (pbits x w s0).1) (pbits x w s0).2.1 md' mdd' ∧ MOut md' mdd' (L ++ (pbits x w s0).2.2) := by
  intro m
  induction m with
  | zero =>
    intro n k md mdd h1 h2 h3 h
    have : k = w := by omega
    subst this
    cases n with
    | zero => omega
    | succ n =>
      refine ⟨md, mdd, ?_, h⟩
      show p_X6_pack_L20 (nI lim) (nI k) (nI i) mn kx _ _ _ (nI k) md mdd = _
      rw [p_X6_pack_L20, if_neg (by rw [ltI (by omega) (by omega)]; omega)]
  | succ m ih =>
    intro n k md mdd h1 h2 h3 h
    cases n with
    | zero => omega
    | succ n =>
      show ∃ md' mdd', p_X6_pack_L20 (nI lim) (nI w) (nI i) mn kx _ _ _ (nI k) md mdd = _ ∧ _
      have hk : k < w := by omega
      have e0 : p_X6_pack_L20 (nI lim) (nI w) (nI i) mn kx (itr5 (p_X6_pack_L20 (nI lim) (nI w) (nI i) mn kx) n) (nI (pbits x k s0).1) (pbits x k s0).2.1 (nI k) md mdd = p_X6_pack_J50 (nI (pbits x k s0).1) (pbits x k s0).2.1 (nI k) (bitOf x k) md mdd (itr5 (p_X6_pack_L20 (nI lim) (nI w) (nI i) mn kx) n) := by
        rw [p_X6_pack_L20, if_pos (by rw [ltI (by omega) (by omega)]; omega)]
        by_cases hil : i < lim
        · rw [if_pos hil] at hx
          simp (disch := omega) only [ltI, eqI, addI, subI, mulI, divI, ixI, inbI, i2lI, l2iL, ltL, eqL, addL, mulL, subL, gdD, if_pos, if_neg, if_true, if_false, bdS1, bdS2, bdS3, bdS4, bdS5, bdS6, bdS7, bdS8, bdS9, bdS10, bdS11, bdS12, bdS13, moN, moS]
          rw [hx]
          rfl
        · rw [if_neg hil] at hx
          rw [if_neg (by rw [ltI (by omega) (by omega)]; omega), hx, bitOf_0 (by omega)]
      rw [e0, p_X6_pack_J50]
      have hlt := pbits_lt x k s0 hs
      have htot := pbits_tot x k s0
      by_cases h8 : (pbits x k s0).1 + 1 = 8
      · have hp : pbits x (k + 1) s0 = (0, nI 0, (pbits x k s0).2.2 ++ [b8 ((pbits x k s0).2.1 ||| ishl (bitOf x k) (nI (pbits x k s0).1))]) := by
          rw [pbits, pst, if_pos h8]
        obtain ⟨md1, mdd1, e1, g1⟩ := MOut_byte ((pbits x k s0).2.1 ||| ishl (bitOf x k) (nI (pbits x k s0).1)) h (by
          unfold ptot at htot hB
          rw [List.length_append]
          omega)
        have g2 : MOut md1 mdd1 (L ++ (pbits x (k + 1) s0).2.2) := by rw [hp]; simpa using g1
        obtain ⟨md2, mdd2, e2, g3⟩ := ih n (k + 1) md1 mdd1 (by omega) (by omega) (by omega) g2
        refine ⟨md2, mdd2, ?_, g3⟩
        rw [if_pos (by rw [addI, h8]), e1, bdS2, addI]
        rw [hp] at e2
        exact e2
      · have hp : pbits x (k + 1) s0 = ((pbits x k s0).1 + 1, (pbits x k s0).2.1 ||| ishl (bitOf x k) (nI (pbits x k s0).1), (pbits x k s0).2.2) := by
          rw [pbits, pst, if_neg h8]
        have g2 : MOut md mdd (L ++ (pbits x (k + 1) s0).2.2) := by rw [hp]; exact h
        obtain ⟨md2, mdd2, e2, g3⟩ := ih n (k + 1) md mdd (by omega) (by omega) (by omega) g2
        refine ⟨md2, mdd2, ?_, g3⟩
        rw [if_neg (by rw [addI, eqI (by omega) (by omega)]; exact h8), addI, addI]
        rw [hp] at e2
        exact e2
theorem M_pack_out {lim w i0 cnt : Nat} {mn g : Nat → Int64} {L : List Int32} {B : Nat} {kx : Int32 → Int32 → (Nat → Int32) → Int32 → Option ((Nat → Int32) × Int32)} (hw : w ≤ 64) (hi : i0 + cnt ≤ 500) (hlim : lim < 2 ^ 31) (hg : ∀ j, j < cnt → g j = if i0 + j < lim then mn (i0 + j) else lN 0) (hB : cnt * w ≤ 8 * B) (hL : L.length + B ≤ 60000) :
    ∀ (m n j : Nat) (md : Nat → Int32) (mdd : Int32), cnt - j = m → j ≤ cnt → m < n → MOut md mdd (L ++ (pnums g w j (0, nI 0, [])).2.2) → ∃ md' mdd', itr5 (p_X6_pack_L9 (nI i0) (nI cnt) (nI lim) (nI w) mn kx) n (nI (pnums g w j (0, nI 0, [])).1) (pnums g w j (0, nI 0, [])).2.1 (nI (i0 + j)) md mdd = kx (nI (pnums g w cnt (0, nI 0, [])).1) (pnums g w cnt (0, nI 0, [])).2.1 md' mdd' ∧ MOut md' mdd' (L ++ (pnums g w cnt (0, nI 0, [])).2.2) := by
  intro m
  induction m with
  | zero =>
    intro n j md mdd h1 h2 h3 h
    have : j = cnt := by omega
    subst this
    cases n with
    | zero => omega
    | succ n =>
      refine ⟨md, mdd, ?_, h⟩
      show p_X6_pack_L9 (nI i0) (nI j) (nI lim) (nI w) mn kx _ _ _ (nI (i0 + j)) md mdd = _
      rw [p_X6_pack_L9, if_neg (by rw [addI, ltI (by omega) (by omega)]; omega)]
  | succ m ih =>
    intro n j md mdd h1 h2 h3 h
    cases n with
    | zero => omega
    | succ n =>
      have hj : j < cnt := by omega
      have ht := pnums_tot g w j (0, nI 0, [])
      have hmul : (j + 1) * w ≤ cnt * w := Nat.mul_le_mul_right _ hj
      rw [Nat.succ_mul] at hmul
      obtain ⟨md1, mdd1, e1, g1⟩ := M_pack_in (lim := lim) (w := w) (i := i0 + j) (mn := mn) (x := g j) (L := L) (B := B) (s0 := pnums g w j (0, nI 0, [])) (kx := fun v5_5 v6_6 md_7 mdd_8 => itr5 (p_X6_pack_L9 (nI i0) (nI cnt) (nI lim) (nI w) mn kx) n v5_5 v6_6 (nI (i0 + j) + nI 1) md_7 mdd_8) hw (by omega) hlim
        (by rw [hg j hj]; split <;> rfl) (pnums_lt _ _ _ _ (by simp)) (by rw [ht]; simp only [ptot, List.length_nil]; omega) hL w fu 0 md mdd (by omega) (by omega) (by rw [fu_eq]; omega) h
      obtain ⟨md2, mdd2, e2, g2⟩ := ih n (j + 1) md1 mdd1 (by omega) (by omega) (by omega) g1
      refine ⟨md2, mdd2, ?_, g2⟩
      show p_X6_pack_L9 (nI i0) (nI cnt) (nI lim) (nI w) mn kx _ _ _ (nI (i0 + j)) md mdd = _
      rw [p_X6_pack_L9, if_pos (by rw [addI, ltI (by omega) (by omega)]; omega)]
      refine Eq.trans e1 ?_
      rw [addI]
      exact e2
theorem M_pack {lim w i0 cnt : Nat} {mn g : Nat → Int64} {L : List Int32} {md : Nat → Int32} {mdd : Int32} (hw : w ≤ 64) (hi : i0 + cnt ≤ 500) (hlim : lim < 2 ^ 31) (hg : ∀ j, j < cnt → g j = if i0 + j < lim then mn (i0 + j) else lN 0) (h8 : cnt * w % 8 = 0) (hL : L.length + cnt * w / 8 ≤ 60000) (h : MOut md mdd L) :
    ∃ md' mdd', p_X6_pack (nI i0) (nI cnt) (nI lim) (nI w) md mdd mn = some (md', mdd') ∧ MOut md' mdd' (L ++ packB g w cnt) := by
  obtain ⟨md1, mdd1, e1, g1⟩ := M_pack_out (lim := lim) (w := w) (i0 := i0) (cnt := cnt) (mn := mn) (g := g) (L := L) (B := cnt * w / 8) (kx := fun v5_9 v6_10 md_11 mdd_12 =>
      if (nI 0) < v5_9 then
        bd2 (p_X6_byteTo v6_10 md_11 mdd_12) <| fun md_13 mdd_14 =>
        some (md_13, mdd_14)
      else
        some (md_11, mdd_12)) hw hi hlim hg (by omega) hL cnt fu 0 md mdd (by omega) (by omega) (by rw [fu_eq]; omega) (by simpa [pnums] using h)
  refine ⟨md1, mdd1, ?_, g1⟩
  unfold p_X6_pack
  refine Eq.trans e1 ?_
  rw [packB_end h8]
  simp (disch := omega) only [ltI, eqI, addI, subI, mulI, divI, ixI, inbI, i2lI, l2iL, ltL, eqL, addL, mulL, subL, gdD, if_pos, if_neg, if_true, if_false, bdS1, bdS2, bdS3, bdS4, bdS5, bdS6, bdS7, bdS8, bdS9, bdS10, bdS11, bdS12, bdS13, moN, moS, Nat.lt_irrefl]
end
section
theorem X_pack_in {r w : Nat} {x : Int64} {L : List Int32} {s0 : PS} {kx : Int32 → Int32 → (Nat → Int32) → (Nat → Int32) → (Nat → Nat → Int32) → Option ((Nat → Int32) × (Nat → Int32) × (Nat → Nat → Int32))} (hw : w ≤ 64) (hs : s0.1 < 8) :
    ∀ (m n k : Nat) (rc rv : Nat → Int32) (rb : Nat → Nat → Int32), w - k = m → k ≤ w → m < n → XOut rc rv rb r (L ++ (pbits x k s0).2.2) → ∃ rc' rv' rb', itr6 (p_X3_pushPacked_L49 r (nI w) x kx) n (pbits x k s0).2.1 (nI (pbits x k s0).1) (nI k) rc rv rb = kx (pbits x w s0).2.1 (nI (pbits x w s0).1) rc' rv' rb' ∧ XOut rc' rv' rb' r (L ++ (pbits x w s0).2.2) ∧ FrR r rc rv rb rc' rv' rb' := by
  intro m
  induction m with
  | zero =>
    intro n k rc rv rb h1 h2 h3 h
    have : k = w := by omega
    subst this
    cases n with
    | zero => omega
    | succ n =>
      refine ⟨rc, rv, rb, ?_, h, FrR.rf⟩
      show p_X3_pushPacked_L49 r (nI k) x kx _ _ _ (nI k) rc rv rb = _
      rw [p_X3_pushPacked_L49, if_neg (by rw [ltI (by omega) (by omega)]; omega)]
  | succ m ih =>
    intro n k rc rv rb h1 h2 h3 h
    cases n with
    | zero => omega
    | succ n =>
      show ∃ rc' rv' rb', p_X3_pushPacked_L49 r (nI w) x kx _ _ _ (nI k) rc rv rb = _ ∧ _
      have hk : k < w := by omega
      rw [p_X3_pushPacked_L49, if_pos (by rw [ltI (by omega) (by omega)]; omega)]
      have hlt := pbits_lt x k s0 hs
      by_cases h8 : (pbits x k s0).1 + 1 = 8
      · have hp : pbits x (k + 1) s0 = (0, nI 0, (pbits x k s0).2.2 ++ [b8 ((pbits x k s0).2.1 ||| ishl (bitOf x k) (nI (pbits x k s0).1))]) := by
          rw [pbits, pst, if_pos h8]
        obtain ⟨rc1, rv1, rb1, e1, g1, f1⟩ := XOut_push ((pbits x k s0).2.1 ||| ishl (bitOf x k) (nI (pbits x k s0).1)) h
        have g2 : XOut rc1 rv1 rb1 r (L ++ (pbits x (k + 1) s0).2.2) := by rw [hp]; simpa using g1
        obtain ⟨rc2, rv2, rb2, e2, g3, f2⟩ := ih n (k + 1) rc1 rv1 rb1 (by omega) (by omega) (by omega) g2
        refine ⟨rc2, rv2, rb2, ?_, g3, f1.tr f2⟩
        rw [hp] at e2
        rw [if_pos (by rw [addI, h8]), addI]
        refine Eq.trans (congrArg (fun z => bd3 z _) e1) ?_
        exact e2
      · have hp : pbits x (k + 1) s0 = ((pbits x k s0).1 + 1, (pbits x k s0).2.1 ||| ishl (bitOf x k) (nI (pbits x k s0).1), (pbits x k s0).2.2) := by
          rw [pbits, pst, if_neg h8]
        have g2 : XOut rc rv rb r (L ++ (pbits x (k + 1) s0).2.2) := by rw [hp]; exact h
        obtain ⟨rc2, rv2, rb2, e2, g3, f2⟩ := ih n (k + 1) rc rv rb (by omega) (by omega) (by omega) g2
        refine ⟨rc2, rv2, rb2, ?_, g3, f2⟩
        rw [hp] at e2
        rw [if_neg (by rw [addI, eqI (by omega) (by omega)]; exact h8), addI, addI]
        exact e2
theorem X_pack_out {r q w i0 cnt lim : Nat} {la : Nat → Nat → Int64} {g : Nat → Int64} {L : List Int32} (hw : w ≤ 64) (hi : i0 + cnt ≤ 500) (hlim : lim ≤ 200) (hg : ∀ j, j < cnt → g j = if i0 + j < lim then la q (i0 + j) else lN 0) :
    ∀ (m n j : Nat) (rc rv : Nat → Int32) (rb : Nat → Nat → Int32), cnt - j = m → j ≤ cnt → m < n → XOut rc rv rb r (L ++ (pnums g w j (0, nI 0, [])).2.2) → ∃ rc' rv' rb', itr6 (p_X3_pushPacked_L9 r q (nI i0) (nI lim) (nI cnt) (nI w) la) n (pnums g w j (0, nI 0, [])).2.1 (nI (pnums g w j (0, nI 0, [])).1) (nI (i0 + j)) rc rv rb = some (rc', rv', rb') ∧ XOut rc' rv' rb' r (L ++ (pnums g w cnt (0, nI 0, [])).2.2) ∧ FrR r rc rv rb rc' rv' rb' := by
  intro m
  induction m with
  | zero =>
    intro n j rc rv rb h1 h2 h3 h
    have : j = cnt := by omega
    subst this
    cases n with
    | zero => omega
    | succ n =>
      refine ⟨rc, rv, rb, ?_, h, FrR.rf⟩
      show p_X3_pushPacked_L9 r q (nI i0) (nI lim) (nI j) (nI w) la _ _ _ (nI (i0 + j)) rc rv rb = _
      rw [p_X3_pushPacked_L9, if_neg (by rw [addI, ltI (by omega) (by omega)]; omega)]
  | succ m ih =>
    intro n j rc rv rb h1 h2 h3 h
    cases n with
    | zero => omega
    | succ n =>
      have hj : j < cnt := by omega
      obtain ⟨rc1, rv1, rb1, e1, g1, f1⟩ := X_pack_in (r := r) (w := w) (x := g j) (L := L) (s0 := pnums g w j (0, nI 0, [])) (kx := fun v6_5 v7_6 rc_7 rv_8 rb_9 => itr6 (p_X3_pushPacked_L9 r q (nI i0) (nI lim) (nI cnt) (nI w) la) n v6_5 v7_6 (nI (i0 + j) + nI 1) rc_7 rv_8 rb_9) hw
        (pnums_lt _ _ _ _ (by simp)) w fu 0 rc rv rb (by omega) (by omega) (by rw [fu_eq]; omega) h
      obtain ⟨rc2, rv2, rb2, e2, g2, f2⟩ := ih n (j + 1) rc1 rv1 rb1 (by omega) (by omega) (by omega) g1
      refine ⟨rc2, rv2, rb2, ?_, g2, f1.tr f2⟩
      show p_X3_pushPacked_L9 r q (nI i0) (nI lim) (nI cnt) (nI w) la _ _ _ (nI (i0 + j)) rc rv rb = _
      rw [p_X3_pushPacked_L9, if_pos (by rw [addI, ltI (by omega) (by omega)]; omega), if_neg (by rw [ltI (by omega) (by omega)]; omega)]
      have hgj := hg j hj
      have e3 : (itr6 (p_X3_pushPacked_L49 r (nI w) (g j) (fun v6_5 v7_6 rc_7 rv_8 rb_9 => itr6 (p_X3_pushPacked_L9 r q (nI i0) (nI lim) (nI cnt) (nI w) la) n v6_5 v7_6 (nI (i0 + j) + nI 1) rc_7 rv_8 rb_9)) fu (pnums g w j (0, nI 0, [])).2.1 (nI (pnums g w j (0, nI 0, [])).1) (nI 0) rc rv rb) = some (rc2, rv2, rb2) := by
        refine Eq.trans e1 ?_
        rw [addI]
        exact e2
      by_cases hil : i0 + j < lim
      · rw [if_pos hil] at hgj
        rw [if_pos (by rw [ltI (by omega) (by omega)]; omega), if_pos (by rw [ltI (by omega) (by omega)]; omega), inbI (by omega), gdD (by omega), ixI (by omega), ← hgj]
        exact e3
      · rw [if_neg hil] at hgj
        rw [if_neg (by rw [ltI (by omega) (by omega)]; omega), ← hgj]
        exact e3
theorem X_pack {r q w i0 cnt lim : Nat} {la : Nat → Nat → Int64} {g : Nat → Int64} {L : List Int32} {rc rv : Nat → Int32} {rb : Nat → Nat → Int32} (hw : w ≤ 64) (hi : i0 + cnt ≤ 500) (hlim : lim ≤ 200) (hg : ∀ j, j < cnt → g j = if i0 + j < lim then la q (i0 + j) else lN 0) (h : XOut rc rv rb r L) :
    ∃ rc' rv' rb', p_X3_pushPacked r q (nI i0) (nI lim) (nI cnt) (nI w) rc rv rb la = some (rc', rv', rb') ∧ XOut rc' rv' rb' r (L ++ packB g w cnt) ∧ FrR r rc rv rb rc' rv' rb' := by
  unfold p_X3_pushPacked
  exact X_pack_out (L := L) hw hi hlim hg cnt fu 0 rc rv rb (by omega) (by omega) (by rw [fu_eq]; omega) (by simpa [pnums] using h)
end
section
/-! RUNS as they are written -/
def alkE (g : Nat → Int64) (a n : Nat) : Nat → Nat → Nat
  | 0, j => j
  | f + 1, j => if j < n then (if g j = g a then alkE g a n f (j + 1) else j) else j
def alk (g : Nat → Int64) (a n : Nat) : Nat := alkE g a n n (a + 1) - a
theorem alkE_rng (g : Nat → Int64) (a n : Nat) : ∀ (f j : Nat), j ≤ n → j ≤ alkE g a n f j ∧ alkE g a n f j ≤ n := by
  intro f
  induction f with
  | zero => intro j h; exact ⟨Nat.le_refl _, h⟩
  | succ f ih =>
    intro j h
    unfold alkE
    split
    · split
      · have := ih (j + 1) (by omega)
        omega
      · omega
    · omega
theorem alk_rng (g : Nat → Int64) {a n : Nat} (h : a < n) : 1 ≤ alk g a n ∧ a + alk g a n ≤ n := by
  have := alkE_rng g a n n (a + 1) (by omega)
  unfold alk
  omega
theorem alkE_cong {g g' : Nat → Int64} {a n : Nat} (ha : a < n) (hg : ∀ i, i < n → g i = g' i) : ∀ (f j : Nat), alkE g a n f j = alkE g' a n f j := by
  intro f
  induction f with
  | zero => intro j; rfl
  | succ f ih =>
    intro j
    unfold alkE
    by_cases h : j < n
    · rw [if_pos h, if_pos h, hg j h, hg a ha, ih]
    · rw [if_neg h, if_neg h]
theorem alk_cong {g g' : Nat → Int64} {a n : Nat} (ha : a < n) (hg : ∀ i, i < n → g i = g' i) : alk g a n = alk g' a n := by
  unfold alk
  rw [alkE_cong ha hg]
theorem M_alike_L {a n0 : Nat} {mn : Nat → Int64} (ha : a < n0) (hn : n0 ≤ 500) : ∀ (f n j : Nat), n0 - j ≤ f → a ≤ j → j ≤ n0 → f < n → itr1 (p_X6_alikeFrom_L2 (nI a) (nI n0) mn) n (nI j) = some (nI (alkE mn a n0 f j - a)) := by
  intro f
  induction f with
  | zero =>
    intro n j h1 h2 h3 h4
    cases n with
    | zero => omega
    | succ n =>
      show p_X6_alikeFrom_L2 (nI a) (nI n0) mn _ (nI j) = _
      rw [p_X6_alikeFrom_L2]
      simp (disch := omega) only [ltI, eqI, addI, subI, mulI, divI, ixI, inbI, i2lI, l2iL, ltL, eqL, addL, mulL, subL, gdD, if_pos, if_neg, if_true, if_false, bdS1, bdS2, bdS3, bdS4, bdS5, bdS6, bdS7, bdS8, bdS9, bdS10, bdS11, bdS12, bdS13, moN, moS, alkE]
  | succ f ih =>
    intro n j h1 h2 h3 h4
    cases n with
    | zero => omega
    | succ n =>
      show p_X6_alikeFrom_L2 (nI a) (nI n0) mn _ (nI j) = _
      rw [p_X6_alikeFrom_L2, alkE]
      by_cases h : j < n0
      · by_cases hg : mn j = mn a
        · rw [if_pos h, if_pos hg, ← ih n (j + 1) (by omega) (by omega) (by omega) (by omega)]
          simp (disch := omega) only [ltI, eqI, addI, subI, mulI, divI, ixI, inbI, i2lI, l2iL, ltL, eqL, addL, mulL, subL, gdD, if_pos, if_neg, if_true, if_false, bdS1, bdS2, bdS3, bdS4, bdS5, bdS6, bdS7, bdS8, bdS9, bdS10, bdS11, bdS12, bdS13, moN, moS, hg]
        · rw [if_pos h, if_neg hg]
          simp (disch := omega) only [ltI, eqI, addI, subI, mulI, divI, ixI, inbI, i2lI, l2iL, ltL, eqL, addL, mulL, subL, gdD, if_pos, if_neg, if_true, if_false, bdS1, bdS2, bdS3, bdS4, bdS5, bdS6, bdS7, bdS8, bdS9, bdS10, bdS11, bdS12, bdS13, moN, moS, hg]
      · rw [if_neg h]
        simp (disch := omega) only [ltI, eqI, addI, subI, mulI, divI, ixI, inbI, i2lI, l2iL, ltL, eqL, addL, mulL, subL, gdD, if_pos, if_neg, if_true, if_false, bdS1, bdS2, bdS3, bdS4, bdS5, bdS6, bdS7, bdS8, bdS9, bdS10, bdS11, bdS12, bdS13, moN, moS]
theorem M_alike {a n0 : Nat} {mn : Nat → Int64} (ha : a < n0) (hn : n0 ≤ 500) : p_X6_alikeFrom (nI a) (nI n0) mn = some (nI (alk mn a n0)) := by
  unfold p_X6_alikeFrom
  rw [M_alike_L ha hn (n0 + 1) fu a (by omega) (by omega) (by omega) (by rw [fu_eq]; omega), alkE, if_pos ha, if_pos rfl]
  rfl
theorem X_alike_L {q a n0 : Nat} {la : Nat → Nat → Int64} (ha : a < n0) (hn : n0 ≤ 200) : ∀ (f n j : Nat), n0 - j ≤ f → a ≤ j → j ≤ n0 → f < n → itr1 (p_X3_equalFrom_L4 q (nI a) (nI n0) la) n (nI j) = some (nI (alkE (la q) a n0 f j - a)) := by
  intro f
  induction f with
  | zero =>
    intro n j h1 h2 h3 h4
    cases n with
    | zero => omega
    | succ n =>
      show p_X3_equalFrom_L4 q (nI a) (nI n0) la _ (nI j) = _
      rw [p_X3_equalFrom_L4]
      simp (disch := omega) only [ltI, eqI, addI, subI, mulI, divI, ixI, inbI, i2lI, l2iL, ltL, eqL, addL, mulL, subL, gdD, if_pos, if_neg, if_true, if_false, bdS1, bdS2, bdS3, bdS4, bdS5, bdS6, bdS7, bdS8, bdS9, bdS10, bdS11, bdS12, bdS13, moN, moS, alkE]
  | succ f ih =>
    intro n j h1 h2 h3 h4
    cases n with
    | zero => omega
    | succ n =>
      show p_X3_equalFrom_L4 q (nI a) (nI n0) la _ (nI j) = _
      rw [p_X3_equalFrom_L4, alkE]
      by_cases h : j < n0
      · by_cases hg : la q j = la q a
        · rw [if_pos h, if_pos hg, ← ih n (j + 1) (by omega) (by omega) (by omega) (by omega)]
          simp (disch := omega) only [ltI, eqI, addI, subI, mulI, divI, ixI, inbI, i2lI, l2iL, ltL, eqL, addL, mulL, subL, gdD, if_pos, if_neg, if_true, if_false, bdS1, bdS2, bdS3, bdS4, bdS5, bdS6, bdS7, bdS8, bdS9, bdS10, bdS11, bdS12, bdS13, moN, moS, hg]
        · rw [if_pos h, if_neg hg]
          simp (disch := omega) only [ltI, eqI, addI, subI, mulI, divI, ixI, inbI, i2lI, l2iL, ltL, eqL, addL, mulL, subL, gdD, if_pos, if_neg, if_true, if_false, bdS1, bdS2, bdS3, bdS4, bdS5, bdS6, bdS7, bdS8, bdS9, bdS10, bdS11, bdS12, bdS13, moN, moS, hg]
      · rw [if_neg h]
        simp (disch := omega) only [ltI, eqI, addI, subI, mulI, divI, ixI, inbI, i2lI, l2iL, ltL, eqL, addL, mulL, subL, gdD, if_pos, if_neg, if_true, if_false, bdS1, bdS2, bdS3, bdS4, bdS5, bdS6, bdS7, bdS8, bdS9, bdS10, bdS11, bdS12, bdS13, moN, moS]
theorem X_alike {q a n0 : Nat} {la : Nat → Nat → Int64} (ha : a < n0) (hn : n0 ≤ 200) : p_X3_equalFrom q (nI a) (nI n0) la = some (nI (alk (la q) a n0)) := by
  unfold p_X3_equalFrom
  rw [addI, X_alike_L ha hn n0 fu (a + 1) (by omega) (by omega) (by omega) (by rw [fu_eq]; omega)]
  rfl
def grpE (g : Nat → Int64) (a n : Nat) : Nat → Nat → Nat
  | 0, G => G
  | f + 1, G => if a + 8 * G < n then (if alk g (a + 8 * G) n < 8 then grpE g a n f (G + 1) else G) else G
def grp (g : Nat → Int64) (a n : Nat) : Nat := grpE g a n n 1
theorem grpE_rng (g : Nat → Int64) (a n : Nat) : ∀ (f G : Nat), G ≤ grpE g a n f G ∧ (a + 8 * (G - 1) < n → a + 8 * (grpE g a n f G - 1) < n) := by
  intro f
  induction f with
  | zero => intro G; exact ⟨Nat.le_refl _, fun h => h⟩
  | succ f ih =>
    intro G
    unfold grpE
    split
    · split
      · have h := ih (G + 1)
        refine ⟨by omega, fun h2 => h.2 (by rw [Nat.add_sub_cancel]; assumption)⟩
      · exact ⟨Nat.le_refl _, fun h => h⟩
    · exact ⟨Nat.le_refl _, fun h => h⟩
theorem grp_rng (g : Nat → Int64) {a n : Nat} (h : a < n) : 1 ≤ grp g a n ∧ a + 8 * (grp g a n - 1) < n := by
  have h2 := grpE_rng g a n n 1
  exact ⟨h2.1, h2.2 (by simpa using h)⟩
theorem grpE_cong {g g' : Nat → Int64} {a n : Nat} (hg : ∀ i, i < n → g i = g' i) : ∀ (f G : Nat), grpE g a n f G = grpE g' a n f G := by
  intro f
  induction f with
  | zero => intro G; rfl
  | succ f ih =>
    intro G
    unfold grpE
    by_cases h : a + 8 * G < n
    · rw [if_pos h, if_pos h, alk_cong h hg, ih]
    · rw [if_neg h, if_neg h]
def runsB (g : Nat → Int64) (w n : Nat) : Nat → Nat → List Int32
  | 0, _ => []
  | f + 1, a => if a < n then (if alk g a n < 8 then varB (lN 2 * lN (grp g a n) + lN 1) ++ packB (fun j => if a + j < n then g (a + j) else lN 0) w (8 * grp g a n) ++ runsB g w n f (a + 8 * grp g a n) else varB (lN 2 * lN (alk g a n)) ++ litB (g a) ((w + 7) / 8) ++ runsB g w n f (a + alk g a n)) else []
theorem runsB_cong {g g' : Nat → Int64} {w n : Nat} (hg : ∀ i, i < n → g i = g' i) : ∀ (f a : Nat), runsB g w n f a = runsB g' w n f a := by
  intro f
  induction f with
  | zero => intro a; rfl
  | succ f ih =>
    intro a
    unfold runsB
    by_cases h : a < n
    · have e1 : grp g a n = grp g' a n := grpE_cong hg n 1
      have e2 : ∀ G, packB (fun j => if a + j < n then g (a + j) else lN 0) w G = packB (fun j => if a + j < n then g' (a + j) else lN 0) w G := fun G => packB_cong (fun i _ => by
        by_cases h2 : a + i < n
        · rw [if_pos h2, if_pos h2, hg _ h2]
        · rw [if_neg h2, if_neg h2])
      rw [if_pos h, if_pos h, alk_cong h hg, e1, e2, ih, ih, hg a h]
    · rw [if_neg h, if_neg h]
theorem runsB_len {g : Nat → Int64} {w n : Nat} (hw : w ≤ 8) : ∀ (f a : Nat), (runsB g w n f a).length ≤ 12 * (n - a) + 80 := by
  intro f
  induction f with
  | zero => intro a; simp [runsB]
  | succ f ih =>
    intro a
    unfold runsB
    by_cases h : a < n
    · rw [if_pos h]
      by_cases h8 : alk g a n < 8
      · have hr := grp_rng g h
        have hv := varB_len (lN 2 * lN (grp g a n) + lN 1)
        have hi := ih (a + 8 * grp g a n)
        have hp := packB_len (fun j => if a + j < n then g (a + j) else lN 0) w (8 * grp g a n)
        have hm : 8 * grp g a n * w / 8 ≤ 8 * grp g a n := by
          have : 8 * grp g a n * w ≤ 8 * grp g a n * 8 := Nat.mul_le_mul_left _ hw
          omega
        rw [if_pos h8, List.length_append, List.length_append, hp]
        by_cases he : a + 8 * grp g a n < n
        · omega
        · have : runsB g w n f (a + 8 * grp g a n) = [] := by
            cases f with
            | zero => rfl
            | succ f => unfold runsB; rw [if_neg he]
          rw [this]
          simp only [List.length_nil]
          omega
      · have hr := alk_rng g h
        have hv := varB_len (lN 2 * lN (alk g a n))
        have hi := ih (a + alk g a n)
        rw [if_neg h8, List.length_append, List.length_append, litB_len]
        omega
    · rw [if_neg h]
      simp
theorem M_grp_L {a n0 : Nat} {mn : Nat → Int64} {kx : Int32 → Option ((Nat → Int32) × Int32)} (hn : n0 ≤ 200) : ∀ (f n G : Nat), n0 - (a + 8 * G) ≤ f → a + 8 * G ≤ n0 + 8 → f < n → itr1 (p_X6_runs_L61 (nI n0) (nI a) mn kx) n (nI G) = kx (nI (grpE mn a n0 f G)) := by
  intro f
  induction f with
  | zero =>
    intro n G h1 h2 h4
    cases n with
    | zero => omega
    | succ n =>
      show p_X6_runs_L61 (nI n0) (nI a) mn kx _ (nI G) = _
      rw [p_X6_runs_L61]
      simp (disch := omega) only [ltI, eqI, addI, subI, mulI, divI, ixI, inbI, i2lI, l2iL, ltL, eqL, addL, mulL, subL, gdD, if_pos, if_neg, if_true, if_false, bdS1, bdS2, bdS3, bdS4, bdS5, bdS6, bdS7, bdS8, bdS9, bdS10, bdS11, bdS12, bdS13, moN, moS, grpE]
  | succ f ih =>
    intro n G h1 h2 h4
    cases n with
    | zero => omega
    | succ n =>
      show p_X6_runs_L61 (nI n0) (nI a) mn kx _ (nI G) = _
      rw [p_X6_runs_L61, grpE]
      by_cases h : a + 8 * G < n0
      · have hr := alk_rng mn h
        rw [mulI, addI, if_pos (by rw [ltI (by omega) (by omega)]; exact h), M_alike h (by omega), bdS1, if_pos h]
        by_cases h8 : alk mn (a + 8 * G) n0 < 8
        · rw [if_pos (by rw [ltI (by omega) (by omega)]; exact h8), if_pos h8, addI]
          exact ih n (G + 1) (by omega) (by omega) (by omega)
        · rw [if_neg (by rw [ltI (by omega) (by omega)]; exact h8), if_neg h8]
      · rw [mulI, addI, if_neg (by rw [ltI (by omega) (by omega)]; exact h), if_neg h]
theorem M_runs_L {w n0 : Nat} {mn : Nat → Int64} (hw : w ≤ 8) (hn : n0 ≤ 200) : ∀ (f n a : Nat) (L : List Int32) (md : Nat → Int32) (mdd : Int32), n0 - a ≤ f → a ≤ n0 + 8 → f < n → L.length + (runsB mn w n0 f a).length ≤ 60000 → MOut md mdd L → ∃ md' mdd', itr3 (p_X6_runs_L2 (nI n0) (nI w) mn) n (nI a) md mdd = some (md', mdd') ∧ MOut md' mdd' (L ++ runsB mn w n0 f a) := by
  intro f
  induction f with
  | zero =>
    intro n a L md mdd h1 h2 h3 hL h
    cases n with
    | zero => omega
    | succ n =>
      refine ⟨md, mdd, ?_, by simpa [runsB] using h⟩
      show p_X6_runs_L2 (nI n0) (nI w) mn _ (nI a) md mdd = _
      rw [p_X6_runs_L2]
      simp (disch := omega) only [ltI, eqI, addI, subI, mulI, divI, ixI, inbI, i2lI, l2iL, ltL, eqL, addL, mulL, subL, gdD, if_pos, if_neg, if_true, if_false, bdS1, bdS2, bdS3, bdS4, bdS5, bdS6, bdS7, bdS8, bdS9, bdS10, bdS11, bdS12, bdS13, moN, moS]
  | succ f ih =>
    intro n a L md mdd h1 h2 h3 hL h
    cases n with
    | zero => omega
    | succ n =>
      show ∃ md' mdd', p_X6_runs_L2 (nI n0) (nI w) mn _ (nI a) md mdd = _ ∧ _
      rw [p_X6_runs_L2, runsB]
      rw [runsB] at hL
      by_cases ha : a < n0
      · have hr := alk_rng mn ha
        rw [if_pos ha] at hL
        rw [if_pos (by rw [ltI (by omega) (by omega)]; exact ha), M_alike ha (by omega), bdS1, if_pos ha]
        by_cases h8 : alk mn a n0 < 8
        · have hg := grp_rng mn ha
          rw [if_pos h8, List.length_append, List.length_append, packB_len] at hL
          rw [if_pos (by rw [ltI (by omega) (by omega)]; exact h8), if_pos h8, M_grp_L hn n0 fu 1 (by omega) (by omega) (by rw [fu_eq]; omega)]
          show ∃ md' mdd', p_X6_runs_J95 (nI n0) (nI w) (nI a) (nI (grp mn a n0)) md mdd mn _ = _ ∧ _
          rw [p_X6_runs_J95, i2lI (by omega)]
          obtain ⟨md1, mdd1, e1, g1⟩ := M_var (v := lN 2 * lN (grp mn a n0) + lN 1) (by omega) h
          have hv := varB_len (lN 2 * lN (grp mn a n0) + lN 1)
          rw [e1, bdS2, mulI]
          obtain ⟨md2, mdd2, e2, g2⟩ := M_pack (lim := n0) (w := w) (i0 := a) (cnt := 8 * grp mn a n0) (mn := mn) (g := fun j => if a + j < n0 then mn (a + j) else lN 0) (by omega) (by omega) (by omega) (fun j _ => rfl) (by rw [Nat.mul_assoc]; exact Nat.mul_mod_right _ _) (by rw [List.length_append]; omega) g1
          rw [e2, bdS2, addI]
          obtain ⟨md3, mdd3, e3, g3⟩ := ih n (a + 8 * grp mn a n0) _ md2 mdd2 (by omega) (by omega) (by omega) (by rw [List.length_append, List.length_append, packB_len]; omega) g2
          exact ⟨md3, mdd3, e3, by simpa [List.append_assoc] using g3⟩
        · rw [if_neg h8, List.length_append, List.length_append, litB_len] at hL
          rw [if_neg (by rw [ltI (by omega) (by omega)]; exact h8), if_neg h8, i2lI (by omega)]
          obtain ⟨md1, mdd1, e1, g1⟩ := M_var (v := lN 2 * lN (alk mn a n0)) (by omega) h
          have hv := varB_len (lN 2 * lN (alk mn a n0))
          rw [e1, bdS2, inbI (by omega), gdD (by omega), ixI (by omega), addI, divI (by omega) (by omega) (by omega)]
          obtain ⟨md2, mdd2, e2, g2⟩ := M_lit (N := (w + 7) / 8) (w := mn a) (by omega) (by rw [List.length_append]; omega) g1
          rw [e2, bdS2, addI]
          obtain ⟨md3, mdd3, e3, g3⟩ := ih n (a + alk mn a n0) _ md2 mdd2 (by omega) (by omega) (by omega) (by rw [List.length_append, List.length_append, litB_len]; omega) g2
          exact ⟨md3, mdd3, e3, by simpa [List.append_assoc] using g3⟩
      · rw [if_neg (by rw [ltI (by omega) (by omega)]; exact ha), if_neg ha]
        exact ⟨md, mdd, rfl, by simpa using h⟩
theorem M_runs {w n0 : Nat} {mn : Nat → Int64} {L : List Int32} {md : Nat → Int32} {mdd : Int32} (hw : w ≤ 8) (hn : n0 ≤ 200) (hL : L.length + (runsB mn w n0 n0 0).length ≤ 60000) (h : MOut md mdd L) : ∃ md' mdd', p_X6_runs (nI n0) (nI w) md mdd mn = some (md', mdd') ∧ MOut md' mdd' (L ++ runsB mn w n0 n0 0) := by
  unfold p_X6_runs
  exact M_runs_L hw hn n0 fu 0 L md mdd (by omega) (by omega) (by rw [fu_eq]; omega) hL h
end
section
theorem iminI {a b : Nat} (ha : a < 2 ^ 31) (hb : b < 2 ^ 31) : imin (nI a) (nI b) = nI (min a b) := by
  unfold imin
  by_cases h : b < a
  · rw [if_pos (by rw [ltI hb ha]; exact h), Nat.min_eq_right (by omega)]
  · rw [if_neg (by rw [ltI hb ha]; exact h), Nat.min_eq_left (by omega)]
theorem imaxI {a b : Nat} (ha : a < 2 ^ 31) (hb : b < 2 ^ 31) : imax (nI a) (nI b) = nI (max a b) := by
  unfold imax
  by_cases h : a < b
  · rw [if_pos (by rw [ltI ha hb]; exact h), Nat.max_eq_right (by omega)]
  · rw [if_neg (by rw [ltI ha hb]; exact h), Nat.max_eq_left (by omega)]
theorem X_wholeGroups {x : Nat} (h : x < 2 ^ 30) : p_X5_wholeGroups (nI x) = some (nI ((x + 7) / 8)) := by
  unfold p_X5_wholeGroups
  rw [addI, subI (by omega), divI (by omega) (by omega) (by omega)]
  rfl
theorem X_grp_L {q a n0 : Nat} {la : Nat → Nat → Int64} (hn : n0 ≤ 200) : ∀ (f n G : Nat), n0 - (a + 8 * G) ≤ f → a + 8 * G ≤ n0 + 8 → f < n → itr1 (p_X3_groupsEnd_L5 q (nI n0) la) n (nI (a + 8 * G)) = some (nI (min (a + 8 * grpE (la q) a n0 f G) n0)) := by
  intro f
  induction f with
  | zero =>
    intro n G h1 h2 h4
    cases n with
    | zero => omega
    | succ n =>
      show p_X3_groupsEnd_L5 q (nI n0) la _ (nI (a + 8 * G)) = _
      rw [p_X3_groupsEnd_L5, if_neg (by rw [ltI (by omega) (by omega)]; omega), iminI (by omega) (by omega)]
      rfl
  | succ f ih =>
    intro n G h1 h2 h4
    cases n with
    | zero => omega
    | succ n =>
      show p_X3_groupsEnd_L5 q (nI n0) la _ (nI (a + 8 * G)) = _
      rw [p_X3_groupsEnd_L5, grpE]
      by_cases h : a + 8 * G < n0
      · have hr := alk_rng (la q) h
        rw [if_pos (by rw [ltI (by omega) (by omega)]; exact h), X_alike h hn, bdS1, if_pos h]
        by_cases h8 : alk (la q) (a + 8 * G) n0 < 8
        · rw [if_pos (by rw [ltI (by omega) (by omega)]; exact h8), if_pos h8, addI, show a + 8 * G + 8 = a + 8 * (G + 1) by omega]
          exact ih n (G + 1) (by omega) (by omega) (by omega)
        · rw [if_neg (by rw [ltI (by omega) (by omega)]; exact h8), if_neg h8, iminI (by omega) (by omega)]
      · rw [if_neg (by rw [ltI (by omega) (by omega)]; exact h), if_neg h, iminI (by omega) (by omega)]
theorem X_runs_L {r q w n0 : Nat} {la : Nat → Nat → Int64} (hw : w ≤ 56) (hn : n0 ≤ 200) : ∀ (f n a run : Nat) (L : List Int32) (rc rv : Nat → Int32) (rb : Nat → Nat → Int32), n0 - a ≤ f → a ≤ n0 + 8 → run ≤ a → f < n → XOut rc rv rb r L → ∃ rc' rv' rb', itr5 (p_X3_pushRuns_L6 r q (nI n0) (nI w) la) n (nI a) (nI run) rc rv rb = some (rc', rv', rb') ∧ XOut rc' rv' rb' r (L ++ runsB (la q) w n0 f a) ∧ FrR r rc rv rb rc' rv' rb' := by
  intro f
  induction f with
  | zero =>
    intro n a run L rc rv rb h1 h2 hr0 h3 h
    cases n with
    | zero => omega
    | succ n =>
      refine ⟨rc, rv, rb, ?_, by simpa [runsB] using h, FrR.rf⟩
      show p_X3_pushRuns_L6 r q (nI n0) (nI w) la _ (nI a) (nI run) rc rv rb = _
      rw [p_X3_pushRuns_L6, if_neg (show ¬ (nI a < nI n0) by rw [ltI (by omega) (by omega)]; omega)]
      split <;> rfl
  | succ f ih =>
    intro n a run L rc rv rb h1 h2 hr0 h3 h
    cases n with
    | zero => omega
    | succ n =>
      show ∃ rc' rv' rb', p_X3_pushRuns_L6 r q (nI n0) (nI w) la _ (nI a) (nI run) rc rv rb = _ ∧ _
      rw [p_X3_pushRuns_L6, runsB]
      by_cases ha : a < n0
      · have hr := alk_rng (la q) ha
        rw [if_pos (show nI run < nI n0 by rw [ltI (by omega) (by omega)]; omega), if_pos (show nI a < nI n0 by rw [ltI (by omega) (by omega)]; exact ha), if_pos (show nI a < nI 200 by rw [ltI (by omega) (by omega)]; omega), X_alike ha hn, bdS1, if_pos ha]
        by_cases h8 : alk (la q) a n0 < 8
        · have hg := grp_rng (la q) ha
          have eG : p_X3_groupsEnd q (nI a) (nI n0) la = some (nI (min (a + 8 * grp (la q) a n0) n0)) := by
            unfold p_X3_groupsEnd
            rw [addI]
            exact X_grp_L hn n0 fu 1 (by omega) (by omega) (by rw [fu_eq]; omega)
          have e7 : (min (a + 8 * grp (la q) a n0) n0 - a + 7) / 8 = grp (la q) a n0 := by omega
          rw [if_pos (by rw [ltI (by omega) (by omega)]; exact h8), if_pos h8, eG, bdS1, subI (by omega), X_wholeGroups (by omega), bdS1, e7, i2lI (by omega)]
          obtain ⟨rc1, rv1, rb1, e1, g1, f1⟩ := X_var (v := lN 2 * lN (grp (la q) a n0) + lN 1) h
          rw [e1, bdS3, mulI, Nat.mul_comm (grp (la q) a n0) 8]
          obtain ⟨rc2, rv2, rb2, e2, g2, f2⟩ := X_pack (r := r) (q := q) (lim := min (a + 8 * grp (la q) a n0) n0) (w := w) (i0 := a) (cnt := 8 * grp (la q) a n0) (la := la) (g := fun j => if a + j < n0 then la q (a + j) else lN 0) (by omega) (by omega) (by omega) (fun j hj => by
            by_cases hjn : a + j < n0
            · rw [if_pos hjn, if_pos (by omega)]
            · rw [if_neg hjn, if_neg (by omega)]) g1
          rw [e2, bdS3, addI, addI]
          obtain ⟨rc3, rv3, rb3, e3, g3, f3⟩ := ih n (a + 8 * grp (la q) a n0) (run + 1) _ rc2 rv2 rb2 (by omega) (by omega) (by omega) (by omega) g2
          exact ⟨rc3, rv3, rb3, e3, by simpa [List.append_assoc] using g3, (f1.tr f2).tr f3⟩
        · rw [if_neg (by rw [ltI (by omega) (by omega)]; exact h8), if_neg h8, i2lI (by omega)]
          obtain ⟨rc1, rv1, rb1, e1, g1, f1⟩ := X_var (v := lN 2 * lN (alk (la q) a n0)) h
          rw [e1, bdS3, inbI (by omega), gdD (by omega), ixI (by omega), addI, divI (by omega) (by omega) (by omega)]
          obtain ⟨rc2, rv2, rb2, e2, g2, f2⟩ := X_lit (N := (w + 7) / 8) (w := la q a) (by omega) g1
          rw [e2, bdS3, addI, addI]
          obtain ⟨rc3, rv3, rb3, e3, g3, f3⟩ := ih n (a + alk (la q) a n0) (run + 1) _ rc2 rv2 rb2 (by omega) (by omega) (by omega) (by omega) g2
          exact ⟨rc3, rv3, rb3, e3, by simpa [List.append_assoc] using g3, (f1.tr f2).tr f3⟩
      · rw [if_neg (show ¬ (nI a < nI n0) by rw [ltI (by omega) (by omega)]; exact ha), if_neg ha]
        refine ⟨rc, rv, rb, ?_, by simpa using h, FrR.rf⟩
        split <;> rfl
theorem X_runs {r q w n0 : Nat} {la : Nat → Nat → Int64} {L : List Int32} {rc rv : Nat → Int32} {rb : Nat → Nat → Int32} (hw : w ≤ 56) (hn : n0 ≤ 200) (h : XOut rc rv rb r L) : ∃ rc' rv' rb', p_X3_pushRuns r q (nI n0) (nI w) rc rv rb la = some (rc', rv', rb') ∧ XOut rc' rv' rb' r (L ++ runsB (la q) w n0 n0 0) ∧ FrR r rc rv rb rc' rv' rb' := by
  unfold p_X3_pushRuns
  exact X_runs_L hw hn n0 fu 0 0 L rc rv rb (by omega) (by omega) (by omega) (by rw [fu_eq]; omega) h
end
section
/-! how many bits a number needs -/
def blD (v : Int64) : Nat → Nat
  | 0 => 0
  | k + 1 => if lb v k = true then k + 1 else blD v k
def bl (v : Int64) : Nat := blD v 64
theorem blD_le (v : Int64) (k : Nat) : blD v k ≤ k := by
  induction k with
  | zero => exact Nat.le_refl _
  | succ k ih => unfold blD; split <;> omega
theorem bl_le (v : Int64) : bl v ≤ 64 := blD_le v 64
theorem blD_hi (v : Int64) : ∀ (k i : Nat), blD v k ≤ i → i < k → lb v i = false := by
  intro k
  induction k with
  | zero => intro i _ h; omega
  | succ k ih =>
    intro i h1 h2
    unfold blD at h1
    split at h1
    · omega
    · next hk =>
      by_cases e : i = k
      · subst e; exact Bool.eq_false_iff.mpr hk
      · exact ih i h1 (by omega)
theorem bl_hi {v : Int64} {i : Nat} (h : bl v ≤ i) : lb v i = false := by
  by_cases h2 : i < 64
  · exact blD_hi v 64 i h h2
  · exact lb_big v (by omega)
theorem blD_top (v : Int64) : ∀ (k : Nat), blD v k ≠ 0 → lb v (blD v k - 1) = true := by
  intro k
  induction k with
  | zero => intro h; exact absurd rfl h
  | succ k ih =>
    intro h
    unfold blD at h ⊢
    split
    · next hk => simpa using hk
    · next hk => rw [if_neg hk] at h; exact ih h
theorem bl_top {v : Int64} (h : bl v ≠ 0) : lb v (bl v - 1) = true := blD_top v 64 h
theorem bl_uniq {v : Int64} {k : Nat} (h1 : ∀ i, k ≤ i → lb v i = false) (h2 : k ≠ 0 → lb v (k - 1) = true) : bl v = k := by
  have a : bl v ≤ k := by
    by_cases h : bl v = 0
    · omega
    · have := bl_top h
      apply Nat.le_of_not_lt
      intro hlt
      rw [h1 (bl v - 1) (by omega)] at this
      cases this
  have b : k ≤ bl v := by
    by_cases h : k = 0
    · omega
    · have := h2 h
      apply Nat.le_of_not_lt
      intro hlt
      rw [bl_hi (v := v) (i := k - 1) (by omega)] at this
      cases this
  omega
theorem bl_or (x y : Int64) : bl (x ||| y) = max (bl x) (bl y) := by
  apply bl_uniq
  · intro i h
    rw [lb_or, bl_hi (v := x) (by omega), bl_hi (v := y) (by omega)]
    rfl
  · intro h
    rw [lb_or]
    by_cases h2 : bl y ≤ bl x
    · rw [Nat.max_eq_left h2, bl_top (by omega)]
      rfl
    · rw [Nat.max_eq_right (by omega), bl_top (v := y) (by omega), Bool.or_true]
theorem bl_0 : bl (lN 0) = 0 := bl_uniq (fun i _ => lb_zero i) (fun h => absurd rfl h)
theorem sh0_iff {v : Int64} {k : Nat} (hk : k < 64) : lushr v (nI k) = lN 0 ↔ bl v ≤ k := by
  constructor
  · intro h
    by_cases h0 : bl v = 0
    · omega
    · apply Nat.le_of_not_lt
      intro hlt
      have h2 := bl_top h0
      have h3 : lb (lushr v (nI k)) (bl v - 1 - k) = false := by rw [h, lb_zero]
      rw [lb_ushr v hk, show k + (bl v - 1 - k) = bl v - 1 by omega, h2] at h3
      cases h3
  · intro h
    apply lb_ext
    intro i _
    rw [lb_ushr v hk, lb_zero, bl_hi (by omega)]
theorem X_bitsOf_L {v : Int64} : ∀ (m n k : Nat), bl v - k = m → k ≤ bl v → m < n → itr1 (p_X5_bitsOf_L2 v) n (nI k) = some (nI (bl v)) := by
  intro m
  have hle := bl_le v
  induction m with
  | zero =>
    intro n k h1 h2 h3
    have : k = bl v := by omega
    subst this
    cases n with
    | zero => omega
    | succ n =>
      show p_X5_bitsOf_L2 v _ (nI (bl v)) = _
      rw [p_X5_bitsOf_L2]
      by_cases h : bl v < 64
      · rw [if_pos (by rw [ltI (by omega) (by omega)]; exact h), if_pos ((sh0_iff h).mpr (Nat.le_refl _))]
      · rw [if_neg (by rw [ltI (by omega) (by omega)]; exact h)]
  | succ m ih =>
    intro n k h1 h2 h3
    cases n with
    | zero => omega
    | succ n =>
      show p_X5_bitsOf_L2 v _ (nI k) = _
      rw [p_X5_bitsOf_L2, if_pos (by rw [ltI (by omega) (by omega)]; omega), if_neg (fun q => absurd ((sh0_iff (by omega)).mp q) (by omega)), addI]
      exact ih n (k + 1) (by omega) (by omega) (by omega)
theorem X_bitsOf (v : Int64) : p_X5_bitsOf v = some (nI (bl v)) := by
  have := bl_le v
  exact X_bitsOf_L (bl v) fu 0 (by omega) (by omega) (by rw [fu_eq]; omega)
theorem M_widthOf_L {v : Int64} : ∀ (m n k : Nat) (x : Int64), bl v - k = m → k ≤ bl v → m < n → (∀ i, lb x i = lb v (k + i)) → itr2 p_X6_widthOf_L4 n (nI k) x = some (nI (bl v)) := by
  intro m
  have hle := bl_le v
  induction m with
  | zero =>
    intro n k x h1 h2 h3 hx
    have : k = bl v := by omega
    subst this
    cases n with
    | zero => omega
    | succ n =>
      have hz : x = lN 0 := lb_ext (fun i _ => by rw [hx, lb_zero, bl_hi (by omega)])
      show p_X6_widthOf_L4 _ (nI (bl v)) x = _
      rw [p_X6_widthOf_L4, if_pos hz]
  | succ m ih =>
    intro n k x h1 h2 h3 hx
    cases n with
    | zero => omega
    | succ n =>
      show p_X6_widthOf_L4 _ (nI k) x = _
      rw [p_X6_widthOf_L4, if_neg, addI]
      · refine ih n (k + 1) _ (by omega) (by omega) (by omega) (fun i => ?_)
        rw [lb_ushr _ (by omega), hx, show k + (1 + i) = k + 1 + i by omega]
      · intro e
        have h5 := hx (bl v - 1 - k)
        rw [e, lb_zero, show k + (bl v - 1 - k) = bl v - 1 by omega, bl_top (by omega)] at h5
        cases h5
theorem M_widthOf (v : Int64) : p_X6_widthOf v = some (nI (bl v)) := by
  have := bl_le v
  unfold p_X6_widthOf
  exact M_widthOf_L (bl v) fu 0 v (by omega) (by omega) (by rw [fu_eq]; omega) (fun i => by rw [Nat.zero_add])
/-- the width of a part: places s .. s + 31, ahead of e -/
def pwF (lo : Nat → Int64) (e : Nat) : Nat → Nat → Nat → Nat
  | 0, _, acc => acc
  | f + 1, i, acc => if i < e then pwF lo e f (i + 1) (max acc (bl (lo i))) else acc
def pw (lo : Nat → Int64) (s e : Nat) : Nat := pwF lo e 32 s 0
theorem pwF_le (lo : Nat → Int64) (e : Nat) : ∀ (f i acc : Nat), acc ≤ 64 → pwF lo e f i acc ≤ 64 := by
  intro f
  induction f with
  | zero => intro i acc h; exact h
  | succ f ih =>
    intro i acc h
    unfold pwF
    have := bl_le (lo i)
    split
    · exact ih _ _ (by omega)
    · exact h
theorem pw_le (lo : Nat → Int64) (s e : Nat) : pw lo s e ≤ 64 := pwF_le lo e 32 s 0 (by omega)
theorem pwF_cong {lo lo' : Nat → Int64} {e : Nat} : ∀ (f i acc : Nat), (∀ j, i ≤ j → j < e → lo j = lo' j) → pwF lo e f i acc = pwF lo' e f i acc := by
  intro f
  induction f with
  | zero => intro i acc _; rfl
  | succ f ih =>
    intro i acc h
    unfold pwF
    by_cases hi : i < e
    · rw [if_pos hi, if_pos hi, h i (Nat.le_refl _) hi, ih _ _ (fun j hj => h j (by omega))]
    · rw [if_neg hi, if_neg hi]
theorem M_pw_L {s e : Nat} {mn : Nat → Int64} (he : e ≤ 500) (hs : s ≤ 1000) : ∀ (f n i acc : Nat), i + f = s + 32 → acc ≤ 64 → f < n → itr2 (p_X6_partWidth_L5 (nI s) (nI e) mn) n (nI acc) (nI i) = some (nI (pwF mn e f i acc)) := by
  intro f
  induction f with
  | zero =>
    intro n i acc h1 h2 h3
    cases n with
    | zero => omega
    | succ n =>
      show p_X6_partWidth_L5 (nI s) (nI e) mn _ (nI acc) (nI i) = _
      rw [p_X6_partWidth_L5, if_neg (by rw [addI, ltI (by omega) (by omega)]; omega)]
      rfl
  | succ f ih =>
    intro n i acc h1 h2 h3
    cases n with
    | zero => omega
    | succ n =>
      have hb := bl_le (mn i)
      show p_X6_partWidth_L5 (nI s) (nI e) mn _ (nI acc) (nI i) = _
      rw [p_X6_partWidth_L5, pwF, if_pos (by rw [addI, ltI (by omega) (by omega)]; omega)]
      by_cases hi : i < e
      · rw [if_pos (by rw [ltI (by omega) (by omega)]; exact hi), if_pos hi, inbI (by omega), gdD (by omega), ixI (by omega), M_widthOf, bdS1, bdS1, gdD (by omega)]
        by_cases hm : acc < bl (mn i)
        · rw [if_pos (by rw [ltI (by omega) (by omega)]; exact hm), addI, Nat.max_eq_right (by omega)]
          exact ih n (i + 1) _ (by omega) (by omega) (by omega)
        · rw [if_neg (by rw [ltI (by omega) (by omega)]; exact hm), addI, Nat.max_eq_left (by omega)]
          exact ih n (i + 1) _ (by omega) (by omega) (by omega)
      · rw [if_neg (by rw [ltI (by omega) (by omega)]; exact hi), if_neg hi]
theorem M_pw {s e : Nat} {mn : Nat → Int64} (he : e ≤ 500) (hs : s ≤ 1000) : p_X6_partWidth (nI s) (nI e) mn = some (nI (pw mn s e)) := by
  unfold p_X6_partWidth
  exact M_pw_L he hs 32 fu s 0 (by omega) (by omega) (by rw [fu_eq]; omega)
theorem X_pw_L {q s e : Nat} {la : Nat → Nat → Int64} (he : e ≤ 200) (hs : s ≤ 1000) : ∀ (f n i : Nat) (acc : Int64), i + f = s + 32 → f < n → itr2 (p_X3_partWidth_L9 q (nI s) (nI e) la) n acc (nI i) = some (nI (pwF (la q) e f i (bl acc))) := by
  intro f
  induction f with
  | zero =>
    intro n i acc h1 h3
    cases n with
    | zero => omega
    | succ n =>
      show p_X3_partWidth_L9 q (nI s) (nI e) la _ acc (nI i) = _
      rw [p_X3_partWidth_L9, if_neg (by rw [addI, ltI (by omega) (by omega)]; omega), X_bitsOf]
      rfl
  | succ f ih =>
    intro n i acc h1 h3
    cases n with
    | zero => omega
    | succ n =>
      show p_X3_partWidth_L9 q (nI s) (nI e) la _ acc (nI i) = _
      rw [p_X3_partWidth_L9, pwF, if_pos (by rw [addI, ltI (by omega) (by omega)]; omega)]
      by_cases hi : i < e
      · rw [if_pos (show nI i < nI e by rw [ltI (by omega) (by omega)]; exact hi), if_pos hi, if_pos (by rw [ltI (by omega) (by omega)]; omega), inbI (by omega), gdD (by omega), ixI (by omega), addI, ← bl_or]
        exact ih n (i + 1) _ (by omega) (by omega)
      · rw [if_neg (show ¬ nI i < nI e by rw [ltI (by omega) (by omega)]; exact hi), if_neg hi, X_bitsOf]
        rfl
theorem X_pw {q s e : Nat} {la : Nat → Nat → Int64} (he : e ≤ 200) (hs : s ≤ 1000) : p_X3_partWidth q (nI s) (nI e) la = some (nI (pw (la q) s e)) := by
  unfold p_X3_partWidth
  rw [imaxI (by omega) (by omega), Nat.max_eq_left (by omega), X_pw_L he hs 32 fu s (lN 0) (by omega) (by rw [fu_eq]; omega), bl_0]
  rfl
end
section
/-! DIFFERENCES as they are written -/
def dstep (ints : Nat) (g : Nat → Int64) (t : Nat) : Int64 := if ints = 0 then g (t + 1) - g t else i2l (l2i (g (t + 1) - g t))
def leastF (st : Nat → Int64) (e : Nat) : Nat → Nat → Int64 → Int64
  | 0, _, acc => acc
  | f + 1, i, acc => if i < e then leastF st e f (i + 1) (lmin acc (st i)) else acc
def least (st : Nat → Int64) (a e : Nat) : Int64 := leastF st e 128 a (st a)
def low (ints : Nat) (st : Nat → Int64) (m : Int64) (t : Nat) : Int64 := if ints = 0 then st t - m else (st t - m) &&& lN 4294967295
def wdsN (lo : Nat → Int64) (a e : Nat) : Nat → List Int32
  | 0 => []
  | p + 1 => wdsN lo a e p ++ [b8 (nI (pw lo (a + 32 * p) e))]
def pksN (lo : Nat → Int64) (a e : Nat) : Nat → List Int32
  | 0 => []
  | p + 1 => pksN lo a e p ++ (if a + 32 * p < e then packB (fun j => if a + 32 * p + j < e then lo (a + 32 * p + j) else lN 0) (pw lo (a + 32 * p) e) 32 else [])
def blkB (ints : Nat) (st : Nat → Int64) (a e : Nat) : List Int32 := varB (zz (least st a e)) ++ (wdsN (low ints st (least st a e)) a e 4 ++ pksN (low ints st (least st a e)) a e 4)
def blksB (ints : Nat) (st : Nat → Int64) (N : Nat) : Nat → Nat → List Int32
  | 0, _ => []
  | f + 1, a => if a < N then blkB ints st a (min (a + 128) N) ++ blksB ints st N f (a + 128) else []
def diffB (g : Nat → Int64) (n ints : Nat) : List Int32 := varB (lN 128) ++ (varB (lN 4) ++ (varB (lN n) ++ (varB (zz (if n = 0 then lN 0 else g 0)) ++ blksB ints (dstep ints g) (n - 1) 2 0)))
theorem wdsN_len (lo : Nat → Int64) (a e p : Nat) : (wdsN lo a e p).length = p := by
  induction p with
  | zero => rfl
  | succ p ih => simp [wdsN, ih]
theorem pksN_len (lo : Nat → Int64) (a e : Nat) : ∀ p, (pksN lo a e p).length ≤ 256 * p ∧ (a < e → (pksN lo a e p).length ≤ 8 * (e - a) + 248) := by
  have hone : ∀ p, (if a + 32 * p < e then packB (fun j => if a + 32 * p + j < e then lo (a + 32 * p + j) else lN 0) (pw lo (a + 32 * p) e) 32 else []).length ≤ if a + 32 * p < e then 256 else 0 := by
    intro p
    split
    · rw [packB_len]
      have := pw_le lo (a + 32 * p) e
      omega
    · simp
  have h3 : ∀ p, (pksN lo a e p).length ≤ 256 * min p ((e - a + 31) / 32) := by
    intro p
    induction p with
    | zero => simp [pksN]
    | succ p ih =>
      rw [pksN, List.length_append]
      have := hone p
      split at this <;> rename_i hp
      · rw [if_pos hp]
        omega
      · rw [if_neg hp]
        simp only [List.length_nil]
        omega
  intro p
  have := h3 p
  exact ⟨by omega, fun _ => by omega⟩
theorem blkB_len {ints : Nat} {st : Nat → Int64} {a e : Nat} (h : a < e) : (blkB ints st a e).length ≤ 8 * (e - a) + 262 := by
  unfold blkB
  have h1 := varB_len (zz (least st a e))
  have h2 := (pksN_len (low ints st (least st a e)) a e 4).2 h
  rw [List.length_append, List.length_append, wdsN_len]
  omega
theorem dstep_cong {g g' : Nat → Int64} {n ints : Nat} (h : ∀ i, i < n → g i = g' i) : ∀ t, t + 1 < n → dstep ints g t = dstep ints g' t := by
  intro t ht
  unfold dstep
  rw [h t (by omega), h (t + 1) ht]
theorem leastF_cong {st st' : Nat → Int64} {e : Nat} : ∀ (f i : Nat) (acc : Int64), (∀ t, i ≤ t → t < e → st t = st' t) → leastF st e f i acc = leastF st' e f i acc := by
  intro f
  induction f with
  | zero => intro i acc _; rfl
  | succ f ih =>
    intro i acc h
    unfold leastF
    by_cases hi : i < e
    · rw [if_pos hi, if_pos hi, h i (Nat.le_refl _) hi, ih _ _ (fun t ht => h t (by omega))]
    · rw [if_neg hi, if_neg hi]
theorem pack_if_cong {lo lo' : Nat → Int64} {s e w c : Nat} (h : ∀ t, s ≤ t → t < e → lo t = lo' t) : packB (fun j => if s + j < e then lo (s + j) else lN 0) w c = packB (fun j => if s + j < e then lo' (s + j) else lN 0) w c := packB_cong (fun j _ => by
  by_cases hj : s + j < e
  · rw [if_pos hj, if_pos hj, h _ (by omega) hj]
  · rw [if_neg hj, if_neg hj])
theorem wdsN_cong {lo lo' : Nat → Int64} {a e : Nat} (h : ∀ t, a ≤ t → t < e → lo t = lo' t) (p : Nat) : wdsN lo a e p = wdsN lo' a e p := by
  induction p with
  | zero => rfl
  | succ p ih =>
    unfold wdsN pw
    rw [ih, pwF_cong 32 _ _ (fun j hj => h j (by omega))]
theorem pksN_cong {lo lo' : Nat → Int64} {a e : Nat} (h : ∀ t, a ≤ t → t < e → lo t = lo' t) (p : Nat) : pksN lo a e p = pksN lo' a e p := by
  induction p with
  | zero => rfl
  | succ p ih =>
    unfold pksN pw
    rw [ih, pwF_cong 32 _ _ (fun j hj => h j (by omega)), pack_if_cong (fun t ht => h t (by omega))]
theorem blkB_cong {ints : Nat} {st st' : Nat → Int64} {a e : Nat} (ha : a < e) (h : ∀ t, a ≤ t → t < e → st t = st' t) : blkB ints st a e = blkB ints st' a e := by
  have e1 : least st a e = least st' a e := by
    unfold least
    rw [h a (Nat.le_refl _) ha, leastF_cong 128 a _ h]
  have e2 : ∀ t, a ≤ t → t < e → low ints st (least st' a e) t = low ints st' (least st' a e) t := by
    intro t h1 h2
    unfold low
    rw [h t h1 h2]
  unfold blkB
  rw [e1, wdsN_cong e2, pksN_cong e2]
theorem blksB_cong {ints : Nat} {st st' : Nat → Int64} {N : Nat} (h : ∀ t, t < N → st t = st' t) : ∀ (f a : Nat), blksB ints st N f a = blksB ints st' N f a := by
  intro f
  induction f with
  | zero => intro a; rfl
  | succ f ih =>
    intro a
    unfold blksB
    by_cases ha : a < N
    · rw [if_pos ha, if_pos ha, blkB_cong (by omega) (fun t _ ht => h t (by omega)), ih]
    · rw [if_neg ha, if_neg ha]
theorem diffB_cong {g g' : Nat → Int64} {n ints : Nat} (h : ∀ i, i < n → g i = g' i) : diffB g n ints = diffB g' n ints := by
  unfold diffB
  rw [blksB_cong (N := n - 1) (fun t ht => dstep_cong h t (by omega))]
  by_cases h0 : n = 0
  · rw [if_pos h0, if_pos h0]
  · rw [if_neg h0, if_neg h0, h 0 (by omega)]
-- the reference
theorem M_steps_L {n0 ints : Nat} {mn : Nat → Int64} {kx : (Nat → Int64) → Option ((Nat → Int32) × Int32 × (Nat → Int64) × (Nat → Int64))} (hn : n0 ≤ 200) (hi : ints ≤ 1) : ∀ (m n i : Nat) (mst : Nat → Int64), n0 - i = m → 1 ≤ i ∧ i ≤ n0 + 1 → m < n → (∀ t, t + 1 < i → mst t = dstep ints mn t) → ∃ mst', itr2 (p_X6_differences_L40 (nI n0) (nI ints) mn kx) n (nI i) mst = kx mst' ∧ ∀ t, t + 1 < n0 → mst' t = dstep ints mn t := by
  intro m
  induction m with
  | zero =>
    intro n i mst h1 h2 h3 h
    cases n with
    | zero => omega
    | succ n =>
      refine ⟨mst, ?_, fun t ht => h t (by omega)⟩
      show p_X6_differences_L40 (nI n0) (nI ints) mn kx _ (nI i) mst = _
      rw [p_X6_differences_L40, if_neg (by rw [ltI (by omega) (by omega)]; omega)]
  | succ m ih =>
    intro n i mst h1 h2 h3 h
    cases n with
    | zero => omega
    | succ n =>
      show ∃ mst', p_X6_differences_L40 (nI n0) (nI ints) mn kx _ (nI i) mst = _ ∧ _
      have hnew : ∀ x, x = dstep ints mn (i - 1) → ∀ t, t + 1 < i + 1 → up mst (i - 1) x t = dstep ints mn t := by
        intro x hx t ht
        unfold up
        by_cases e : t = i - 1
        · rw [if_pos e, hx, e]
        · rw [if_neg e, h t (by omega)]
      rw [p_X6_differences_L40, if_pos (by rw [ltI (by omega) (by omega)]; omega)]
      by_cases h0 : ints = 0
      · subst h0
        obtain ⟨mst', e1, g1⟩ := ih n (i + 1) (up mst (i - 1) (mn i - mn (i - 1))) (by omega) (by omega) (by omega) (hnew _ (by unfold dstep; rw [if_pos rfl, show i - 1 + 1 = i by omega]))
        refine ⟨mst', ?_, g1⟩
        rw [if_pos rfl, subI (by omega), inbI (by omega), gdD (by omega), inbI (by omega), gdD (by omega), gdD (by omega), ixI (by omega), ixI (by omega), addI]
        exact e1
      · have h1' : ints = 1 := by omega
        subst h1'
        obtain ⟨mst', e1, g1⟩ := ih n (i + 1) (up mst (i - 1) (i2l (l2i (mn i) - l2i (mn (i - 1))))) (by omega) (by omega) (by omega) (hnew _ (by unfold dstep; rw [if_neg (by omega), show i - 1 + 1 = i by omega]; unfold l2i; rw [Int64.toInt32_sub]))
        refine ⟨mst', ?_, g1⟩
        rw [if_neg (by rw [eqI (by omega) (by omega)]; omega), subI (by omega), inbI (by omega), gdD (by omega), inbI (by omega), gdD (by omega), gdD (by omega), ixI (by omega), ixI (by omega), addI]
        exact e1
theorem M_least_L {e : Nat} {mst : Nat → Int64} {kx : Int64 → Option ((Nat → Int32) × Int32 × (Nat → Int64) × (Nat → Int64))} (he : e ≤ 400) : ∀ (f n i : Nat) (acc : Int64), e - i ≤ f → i ≤ e → f < n → itr2 (p_X6_differences_L143 (nI e) mst kx) n acc (nI i) = kx (leastF mst e f i acc) := by
  intro f
  induction f with
  | zero =>
    intro n i acc h1 h2 h3
    cases n with
    | zero => omega
    | succ n =>
      show p_X6_differences_L143 (nI e) mst kx _ acc (nI i) = _
      rw [p_X6_differences_L143, if_neg (by rw [ltI (by omega) (by omega)]; omega)]
      rfl
  | succ f ih =>
    intro n i acc h1 h2 h3
    cases n with
    | zero => omega
    | succ n =>
      show p_X6_differences_L143 (nI e) mst kx _ acc (nI i) = _
      rw [p_X6_differences_L143, leastF]
      by_cases hi : i < e
      · rw [if_pos (by rw [ltI (by omega) (by omega)]; exact hi), if_pos hi, inbI (by omega), gdD (by omega), gdD (by omega), ixI (by omega), addI]
        unfold lmin
        by_cases hl : mst i < acc
        · rw [if_pos hl, if_pos hl]
          exact ih n (i + 1) _ (by omega) (by omega) (by omega)
        · rw [if_neg hl, if_neg hl]
          exact ih n (i + 1) _ (by omega) (by omega) (by omega)
      · rw [if_neg (by rw [ltI (by omega) (by omega)]; exact hi), if_neg hi]
theorem M_lower_L {a e ints : Nat} {mst : Nat → Int64} {mm : Int64} {kx : (Nat → Int64) → Option ((Nat → Int32) × Int32 × (Nat → Int64) × (Nat → Int64))} (he : e ≤ 400) (hint : ints ≤ 1) : ∀ (m n i : Nat) (mn : Nat → Int64), e - i = m → a ≤ i → i ≤ e → m < n → (∀ t, a ≤ t → t < i → mn t = low ints mst mm t) → ∃ mn', itr2 (p_X6_differences_L192 (nI ints) (nI e) mm mst kx) n (nI i) mn = kx mn' ∧ ∀ t, a ≤ t → t < e → mn' t = low ints mst mm t := by
  intro m
  induction m with
  | zero =>
    intro n i mn h1 h2 h3 h4 h
    cases n with
    | zero => omega
    | succ n =>
      refine ⟨mn, ?_, fun t h5 h6 => h t h5 (by omega)⟩
      show p_X6_differences_L192 (nI ints) (nI e) mm mst kx _ (nI i) mn = _
      rw [p_X6_differences_L192, if_neg (by rw [ltI (by omega) (by omega)]; omega)]
  | succ m ih =>
    intro n i mn h1 h2 h3 h4 h
    cases n with
    | zero => omega
    | succ n =>
      obtain ⟨mn', e1, g1⟩ := ih n (i + 1) (up mn i (low ints mst mm i)) (by omega) (by omega) (by omega) (by omega) (fun t h5 h6 => by
        unfold up
        by_cases e : t = i
        · rw [if_pos e, e]
        · rw [if_neg e, h t h5 (by omega)])
      refine ⟨mn', ?_, g1⟩
      show p_X6_differences_L192 (nI ints) (nI e) mm mst kx _ (nI i) mn = _
      rw [p_X6_differences_L192, if_pos (by rw [ltI (by omega) (by omega)]; omega)]
      by_cases h0 : ints = 0
      · subst h0
        rw [if_pos rfl, inbI (by omega), gdD (by omega), gdD (by omega), ixI (by omega), addI]
        exact e1
      · rw [if_neg (by rw [eqI (by omega) (by omega)]; omega), inbI (by omega), gdD (by omega), gdD (by omega), ixI (by omega), addI]
        unfold low at e1
        rw [if_neg h0] at e1
        exact e1
theorem M_wds_L {a e : Nat} {mn : Nat → Int64} {kx : (Nat → Int32) → Int32 → Option ((Nat → Int32) × Int32 × (Nat → Int64) × (Nat → Int64))} {L : List Int32} (he : e ≤ 400) (ha : a ≤ 400) (hL : L.length + 4 ≤ 60000) : ∀ (m n p : Nat) (md : Nat → Int32) (mdd : Int32), 4 - p = m → p ≤ 4 → m < n → MOut md mdd (L ++ wdsN mn a e p) → ∃ md' mdd', itr3 (p_X6_differences_L246 (nI a) (nI e) mn kx) n (nI p) md mdd = kx md' mdd' ∧ MOut md' mdd' (L ++ wdsN mn a e 4) := by
  intro m
  induction m with
  | zero =>
    intro n p md mdd h1 h2 h3 h
    have : p = 4 := by omega
    subst this
    cases n with
    | zero => omega
    | succ n =>
      refine ⟨md, mdd, ?_, h⟩
      show p_X6_differences_L246 (nI a) (nI e) mn kx _ (nI 4) md mdd = _
      rw [p_X6_differences_L246, if_neg (by rw [ltI (by omega) (by omega)]; omega)]
  | succ m ih =>
    intro n p md mdd h1 h2 h3 h
    cases n with
    | zero => omega
    | succ n =>
      have hw := wdsN_len mn a e p
      obtain ⟨md1, mdd1, e1, g1⟩ := MOut_byte (nI (pw mn (a + 32 * p) e)) h (by rw [List.length_append]; omega)
      rw [List.append_assoc] at g1
      obtain ⟨md2, mdd2, e2, g2⟩ := ih n (p + 1) md1 mdd1 (by omega) (by omega) (by omega) g1
      refine ⟨md2, mdd2, ?_, g2⟩
      show p_X6_differences_L246 (nI a) (nI e) mn kx _ (nI p) md mdd = _
      rw [p_X6_differences_L246, if_pos (by rw [ltI (by omega) (by omega)]; omega), mulI, addI, M_pw (by omega) (by omega), bdS1, e1, bdS2, addI]
      exact e2
theorem M_pks_L {a e : Nat} {mn : Nat → Int64} {kx : (Nat → Int32) → Int32 → Option ((Nat → Int32) × Int32 × (Nat → Int64) × (Nat → Int64))} {L : List Int32} (he : e ≤ 200) (ha : a ≤ 200) (hL : L.length + (pksN mn a e 4).length ≤ 60000) : ∀ (m n p : Nat) (md : Nat → Int32) (mdd : Int32), 4 - p = m → p ≤ 4 → m < n → MOut md mdd (L ++ pksN mn a e p) → ∃ md' mdd', itr3 (p_X6_differences_L278 (nI a) (nI e) mn kx) n (nI p) md mdd = kx md' mdd' ∧ MOut md' mdd' (L ++ pksN mn a e 4) := by
  have mono : ∀ p, p ≤ 4 → (pksN mn a e p).length ≤ (pksN mn a e 4).length := by
    have h : ∀ d p, (pksN mn a e p).length ≤ (pksN mn a e (p + d)).length := by
      intro d
      induction d with
      | zero => intro p; exact Nat.le_refl _
      | succ d ih => intro p; rw [← Nat.add_assoc, pksN, List.length_append]; have := ih p; omega
    intro p hp
    have := h (4 - p) p
    rwa [show p + (4 - p) = 4 by omega] at this
  intro m
  induction m with
  | zero =>
    intro n p md mdd h1 h2 h3 h
    have : p = 4 := by omega
    subst this
    cases n with
    | zero => omega
    | succ n =>
      refine ⟨md, mdd, ?_, h⟩
      show p_X6_differences_L278 (nI a) (nI e) mn kx _ (nI 4) md mdd = _
      rw [p_X6_differences_L278, if_neg (by rw [ltI (by omega) (by omega)]; omega)]
  | succ m ih =>
    intro n p md mdd h1 h2 h3 h
    cases n with
    | zero => omega
    | succ n =>
      show ∃ md' mdd', p_X6_differences_L278 (nI a) (nI e) mn kx _ (nI p) md mdd = _ ∧ _
      rw [p_X6_differences_L278, if_pos (by rw [ltI (by omega) (by omega)]; omega), mulI, addI]
      have hmo := mono (p + 1) (by omega)
      rw [pksN] at hmo
      by_cases hp : a + 32 * p < e
      · rw [if_pos hp] at hmo
        obtain ⟨md1, mdd1, e1, g1⟩ := M_pack (lim := e) (w := pw mn (a + 32 * p) e) (i0 := a + 32 * p) (cnt := 32) (mn := mn) (g := fun j => if a + 32 * p + j < e then mn (a + 32 * p + j) else lN 0) (pw_le _ _ _) (by omega) (by omega) (fun j _ => rfl) (by omega) (by
          rw [List.length_append] at hmo ⊢
          rw [packB_len] at hmo
          omega) h
        rw [List.append_assoc] at g1
        obtain ⟨md2, mdd2, e2, g2⟩ := ih n (p + 1) md1 mdd1 (by omega) (by omega) (by omega) (by rw [pksN, if_pos hp]; exact g1)
        refine ⟨md2, mdd2, ?_, g2⟩
        rw [if_pos (by rw [ltI (by omega) (by omega)]; exact hp), M_pw (by omega) (by omega), bdS1, e1, bdS2, addI]
        exact e2
      · obtain ⟨md2, mdd2, e2, g2⟩ := ih n (p + 1) md mdd (by omega) (by omega) (by omega) (by rw [pksN, if_neg hp, List.append_nil]; exact h)
        refine ⟨md2, mdd2, ?_, g2⟩
        rw [if_neg (by rw [ltI (by omega) (by omega)]; exact hp), addI]
        exact e2
end
section
theorem blkB_len2 {ints : Nat} {st : Nat → Int64} {a e : Nat} : (blkB ints st a e).length ≤ 1038 := by
  unfold blkB
  have h1 := varB_len (zz (least st a e))
  have h2 := (pksN_len (low ints st (least st a e)) a e 4).1
  rw [List.length_append, List.length_append, wdsN_len]
  omega
theorem M_blk {ints a e : Nat} {mst mn : Nat → Int64} {L : List Int32} {md : Nat → Int32} {mdd : Int32} {kx : (Nat → Int32) → Int32 → (Nat → Int64) → Option ((Nat → Int32) × Int32 × (Nat → Int64) × (Nat → Int64))} (hint : ints ≤ 1) (ha : a < e) (he : e ≤ 200) (h128 : e ≤ a + 128) (hL : L.length + (blkB ints mst a e).length ≤ 60000) (h : MOut md mdd L) :
    ∃ md' mdd' mn', itr2 (p_X6_differences_L143 (nI e) mst (fun v5_23 =>
          bd2 (p_X6_zig v5_23 md mdd) <| fun md_24 mdd_25 =>
          itr2 (p_X6_differences_L192 (nI ints) (nI e) v5_23 mst (fun mn_31 =>
              itr3 (p_X6_differences_L246 (nI a) (nI e) mn_31 (fun md_37 mdd_38 =>
                  itr3 (p_X6_differences_L278 (nI a) (nI e) mn_31 (fun md_44 mdd_45 =>
                      kx md_44 mdd_45 mn_31)) fu (nI 0) md_37 mdd_38)) fu (nI 0) md_24 mdd_25)) fu (nI a) mn)) fu (mst a) (nI a) = kx md' mdd' mn' ∧ MOut md' mdd' (L ++ blkB ints mst a e) := by
  rw [M_least_L (by omega) 128 fu a (mst a) (by omega) (by omega) (by rw [fu_eq]; omega)]
  show ∃ md' mdd' mn', (bd2 (p_X6_zig (least mst a e) md mdd) _) = _ ∧ _
  have hv := varB_len (zz (least mst a e))
  unfold blkB at hL ⊢
  rw [List.length_append, List.length_append, wdsN_len] at hL
  obtain ⟨md1, mdd1, e1, g1⟩ := M_zig (v := least mst a e) (l := L) (md := md) (mdd := mdd) (by omega) h
  rw [e1, bdS2]
  obtain ⟨mn', e2, hlow⟩ := M_lower_L (a := a) (e := e) (ints := ints) (mst := mst) (mm := least mst a e) (kx := fun mn_31 =>
              itr3 (p_X6_differences_L246 (nI a) (nI e) mn_31 (fun md_37 mdd_38 =>
                  itr3 (p_X6_differences_L278 (nI a) (nI e) mn_31 (fun md_44 mdd_45 =>
                      kx md_44 mdd_45 mn_31)) fu (nI 0) md_37 mdd_38)) fu (nI 0) md1 mdd1) (by omega) hint (e - a) fu a mn (by omega) (by omega) (by omega) (by rw [fu_eq]; omega) (fun t h5 h6 => by omega)
  have ew := wdsN_cong (a := a) (e := e) (fun t h1 h2 => (hlow t h1 h2).symm) 4
  have ep := pksN_cong (a := a) (e := e) (fun t h1 h2 => (hlow t h1 h2).symm) 4
  rw [ep] at hL
  rw [ew, ep]
  obtain ⟨md3, mdd3, e3, g3⟩ := M_wds_L (a := a) (e := e) (mn := mn') (kx := fun md_37 mdd_38 =>
                  itr3 (p_X6_differences_L278 (nI a) (nI e) mn' (fun md_44 mdd_45 =>
                      kx md_44 mdd_45 mn')) fu (nI 0) md_37 mdd_38) (L := L ++ varB (zz (least mst a e))) (by omega) (by omega) (by rw [List.length_append]; omega) 4 fu 0 md1 mdd1 (by omega) (by omega) (by rw [fu_eq]; omega) (by simpa [wdsN] using g1)
  obtain ⟨md4, mdd4, e4, g4⟩ := M_pks_L (a := a) (e := e) (mn := mn') (kx := fun md_44 mdd_45 => kx md_44 mdd_45 mn') (L := L ++ varB (zz (least mst a e)) ++ wdsN mn' a e 4) (by omega) (by omega) (by rw [List.length_append, List.length_append, wdsN_len]; omega) 4 fu 0 md3 mdd3 (by omega) (by omega) (by rw [fu_eq]; omega) (by simpa [pksN] using g3)
  refine ⟨md4, mdd4, mn', ?_, by simpa [List.append_assoc] using g4⟩
  exact e2.trans (e3.trans e4)
theorem M_blks_L {n0 ints : Nat} {mst : Nat → Int64} (hint : ints ≤ 1) (hn1 : 1 ≤ n0) (hn : n0 ≤ 200) : ∀ (f n a : Nat) (L : List Int32) (md : Nat → Int32) (mdd : Int32) (mn : Nat → Int64), (n0 - 1) ≤ a + 128 * f → a ≤ 400 → f < n → L.length + (blksB ints mst (n0 - 1) f a).length ≤ 60000 → MOut md mdd L → ∃ md' mdd' mn', itr4 (p_X6_differences_L101 (nI n0) (nI ints) mst) n (nI a) md mdd mn = some (md', mdd', mn', mst) ∧ MOut md' mdd' (L ++ blksB ints mst (n0 - 1) f a) := by
  intro f
  induction f with
  | zero =>
    intro n a L md mdd mn h1 h2 h3 hL h
    cases n with
    | zero => omega
    | succ n =>
      refine ⟨md, mdd, mn, ?_, by simpa [blksB] using h⟩
      show p_X6_differences_L101 (nI n0) (nI ints) mst _ (nI a) md mdd mn = _
      rw [p_X6_differences_L101, if_neg (by rw [subI (by omega), ltI (by omega) (by omega)]; omega)]
  | succ f ih =>
    intro n a L md mdd mn h1 h2 h3 hL h
    cases n with
    | zero => omega
    | succ n =>
      show ∃ md' mdd' mn', p_X6_differences_L101 (nI n0) (nI ints) mst _ (nI a) md mdd mn = _ ∧ _
      rw [p_X6_differences_L101, blksB]
      rw [blksB] at hL
      by_cases ha : a < n0 - 1
      · rw [if_pos ha, List.length_append] at hL
        have fin : ∀ (md1 : Nat → Int32) (mdd1 : Int32) (mn1 : Nat → Int64), MOut md1 mdd1 (L ++ blkB ints mst a (min (a + 128) (n0 - 1))) → ∃ md' mdd' mn', itr4 (p_X6_differences_L101 (nI n0) (nI ints) mst) n (nI a + nI 128) md1 mdd1 mn1 = some (md', mdd', mn', mst) ∧ MOut md' mdd' (L ++ (blkB ints mst a (min (a + 128) (n0 - 1)) ++ blksB ints mst (n0 - 1) f (a + 128))) := by
          intro md1 mdd1 mn1 g1
          obtain ⟨md2, mdd2, mn2, e2, g2⟩ := ih n (a + 128) _ md1 mdd1 mn1 (by omega) (by omega) (by omega) (by rw [List.length_append]; omega) g1
          exact ⟨md2, mdd2, mn2, by rw [addI]; exact e2, by simpa [List.append_assoc] using g2⟩
        rw [if_pos (by rw [subI (by omega), ltI (by omega) (by omega)]; exact ha), if_pos ha, subI (by omega), addI, inbI (by omega), gdD (by omega), ixI (by omega)]
        by_cases he : a + 128 < n0 - 1
        · rw [Nat.min_eq_left (by omega)] at hL fin ⊢
          obtain ⟨md1, mdd1, mn1, e1, g1⟩ := M_blk (ints := ints) (a := a) (e := a + 128) (mst := mst) (mn := mn) (kx := fun m1 m2 m3 => itr4 (p_X6_differences_L101 (nI n0) (nI ints) mst) n (nI (a + 128)) m1 m2 m3) hint (by omega) (by omega) (by omega) (by omega) h
          obtain ⟨md2, mdd2, mn2, e2, g2⟩ := fin md1 mdd1 mn1 g1
          rw [addI] at e2
          refine ⟨md2, mdd2, mn2, ?_, g2⟩
          rw [if_pos (by rw [ltI (by omega) (by omega)]; exact he)]
          exact e1.trans e2
        · rw [Nat.min_eq_right (by omega)] at hL fin ⊢
          obtain ⟨md1, mdd1, mn1, e1, g1⟩ := M_blk (ints := ints) (a := a) (e := n0 - 1) (mst := mst) (mn := mn) (kx := fun m1 m2 m3 => itr4 (p_X6_differences_L101 (nI n0) (nI ints) mst) n (nI (a + 128)) m1 m2 m3) hint (by omega) (by omega) (by omega) (by omega) h
          obtain ⟨md2, mdd2, mn2, e2, g2⟩ := fin md1 mdd1 mn1 g1
          rw [addI] at e2
          refine ⟨md2, mdd2, mn2, ?_, g2⟩
          rw [if_neg (by rw [ltI (by omega) (by omega)]; exact he), gdD (by omega)]
          exact e1.trans e2
      · rw [if_neg (by rw [subI (by omega), ltI (by omega) (by omega)]; exact ha), if_neg ha]
        exact ⟨md, mdd, mn, rfl, by simpa using h⟩
theorem M_diff {n0 ints : Nat} {mn mst : Nat → Int64} {L : List Int32} {md : Nat → Int32} {mdd : Int32} (hint : ints ≤ 1) (hn : n0 ≤ 200) (hL : L.length + (diffB mn n0 ints).length ≤ 60000) (h : MOut md mdd L) : ∃ md' mdd' mn' mst', p_X6_differences (nI n0) (nI ints) md mdd mn mst = some (md', mdd', mn', mst') ∧ MOut md' mdd' (L ++ diffB mn n0 ints) := by
  unfold diffB at hL ⊢
  simp only [List.length_append] at hL
  obtain ⟨md1, mdd1, e1, g1⟩ := M_var (v := lN 128) (by omega) h
  obtain ⟨md2, mdd2, e2, g2⟩ := M_var (v := lN 4) (by rw [List.length_append]; omega) g1
  obtain ⟨md3, mdd3, e3, g3⟩ := M_var (v := lN n0) (by simp only [List.length_append]; omega) g2
  unfold p_X6_differences
  rw [e1, bdS2, e2, bdS2, i2lI (by omega), e3, bdS2]
  by_cases h0 : n0 = 0
  · subst h0
    rw [if_pos rfl] at hL ⊢
    rw [if_pos rfl]
    obtain ⟨md4, mdd4, e4, g4⟩ := M_zig (v := lN 0) (by simp only [List.length_append]; omega) g3
    rw [e4, bdS2]
    obtain ⟨mst', e5, -⟩ := M_steps_L (n0 := 0) (ints := ints) (mn := mn) (kx := fun mst_19 => itr4 (p_X6_differences_L101 (nI 0) (nI ints) mst_19) fu (nI 0) md4 mdd4 mn) (by omega) hint 0 fu 1 mst (by omega) (by omega) (by rw [fu_eq]; omega) (fun t ht => by omega)
    refine ⟨md4, mdd4, mn, mst', ?_, ?_⟩
    · refine e5.trans ?_
      show p_X6_differences_L101 (nI 0) (nI ints) mst' _ (nI 0) md4 mdd4 mn = _
      rw [p_X6_differences_L101, if_neg (by decide)]
    · have eb : blksB ints (dstep ints mn) (0 - 1) 2 0 = [] := by rw [blksB, if_neg (by omega)]
      rw [eb]
      simpa [List.append_assoc] using g4
  · rw [if_neg h0] at hL ⊢
    rw [if_neg (by rw [eqI (by omega) (by omega)]; exact h0), inbI (by omega), gdD (by omega), ixI (by omega)]
    obtain ⟨md4, mdd4, e4, g4⟩ := M_zig (v := mn 0) (by simp only [List.length_append]; omega) g3
    rw [e4, bdS2]
    obtain ⟨mst', e5, hst⟩ := M_steps_L (n0 := n0) (ints := ints) (mn := mn) (kx := fun mst_19 => itr4 (p_X6_differences_L101 (nI n0) (nI ints) mst_19) fu (nI 0) md4 mdd4 mn) (by omega) hint (n0 - 1) fu 1 mst (by omega) (by omega) (by rw [fu_eq]; omega) (fun t ht => by omega)
    have ec : blksB ints (dstep ints mn) (n0 - 1) 2 0 = blksB ints mst' (n0 - 1) 2 0 := blksB_cong (fun t ht => (hst t (by omega)).symm) 2 0
    rw [ec] at hL ⊢
    obtain ⟨md6, mdd6, mn6, e6, g6⟩ := M_blks_L (n0 := n0) (ints := ints) (mst := mst') hint (by omega) hn 2 fu 0 _ md4 mdd4 mn (by omega) (by omega) (by rw [fu_eq]; omega) (by simp only [List.length_append]; omega) g4
    exact ⟨md6, mdd6, mn6, mst', e5.trans e6, by simpa [List.append_assoc] using g6⟩
end
section
theorem pwF_sh {f : Nat → Int64} {e : Nat} : ∀ (fuel i acc : Nat), pwF f (e + 1) fuel (i + 1) acc = pwF (fun t => f (t + 1)) e fuel i acc := by
  intro fuel
  induction fuel with
  | zero => intro i acc; rfl
  | succ fuel ih =>
    intro i acc
    unfold pwF
    by_cases h : i < e
    · rw [if_pos h, if_pos (by omega), ih]
    · rw [if_neg h, if_neg (by omega)]
theorem X_steps_L {q n0 ints : Nat} {g : Nat → Int64} {kx : (Nat → Nat → Int64) → Option ((Nat → Int32) × (Nat → Int32) × (Nat → Nat → Int32) × (Nat → Nat → Int64))} (hn : n0 ≤ 200) (hint : ints ≤ 1) : ∀ (i n : Nat) (la : Nat → Nat → Int64), i < n0 → i < n → (∀ j, j ≤ i → la q j = g j) → (∀ j, i < j → j < n0 → la q j = dstep ints g (j - 1)) → ∃ la', itr2 (p_X3_pushDifferences_L53 q (nI ints) kx) n (nI i) la = kx la' ∧ ∀ t, t + 1 < n0 → la' q (t + 1) = dstep ints g t := by
  intro i
  induction i with
  | zero =>
    intro n la h1 h2 h3 h4
    cases n with
    | zero => omega
    | succ n =>
      refine ⟨la, ?_, fun t ht => by have := h4 (t + 1) (by omega) ht; simpa using this⟩
      show p_X3_pushDifferences_L53 q (nI ints) kx _ (nI 0) la = _
      rw [p_X3_pushDifferences_L53, if_neg (by decide)]
  | succ i ih =>
    intro n la h1 h2 h3 h4
    cases n with
    | zero => omega
    | succ n =>
      have hd : la q (i + 1) - la q i = g (i + 1) - g i := by rw [h3 _ (Nat.le_refl _), h3 i (by omega)]
      obtain ⟨la', e1, g1⟩ := ih n (up la q (up (la q) (i + 1) (dstep ints g i))) (by omega) (by omega)
        (fun j hj => by rw [up_s, up_n (by omega)]; exact h3 j (by omega))
        (fun j hj hjn => by
          rw [up_s]
          unfold up
          by_cases e : j = i + 1
          · rw [if_pos e, e]; rfl
          · rw [if_neg e]; exact h4 j (by omega) hjn)
      refine ⟨la', ?_, g1⟩
      show p_X3_pushDifferences_L53 q (nI ints) kx _ (nI (i + 1)) la = _
      rw [p_X3_pushDifferences_L53, if_pos (by rw [ltI (by omega) (by omega)]; omega), subI (by omega), Nat.add_sub_cancel, inbI (by omega), gdD (by omega), inbI (by omega), gdD (by omega), gdD (by omega), ixI (by omega), ixI (by omega), hd, pk_m1]
      unfold dstep at e1
      by_cases h0 : ints = 0
      · subst h0
        rw [if_pos rfl]
        rw [if_pos rfl] at e1
        exact e1
      · rw [if_neg (by rw [eqI (by omega) (by omega)]; omega), gdD (by omega)]
        rw [if_neg h0] at e1
        exact e1
theorem X_least_L {q e : Nat} {la : Nat → Nat → Int64} {kx : Int64 → Option (Int64 × (Nat → Nat → Int64))} (he : e + 1 ≤ 200) : ∀ (f n i : Nat) (acc : Int64), e - i ≤ f → i ≤ e → f < n → itr2 (p_X3_lowerToLeast_L26 q (nI (e + 1)) la kx) n acc (nI (i + 1)) = kx (leastF (fun t => la q (t + 1)) e f i acc) := by
  intro f
  induction f with
  | zero =>
    intro n i acc h1 h2 h3
    cases n with
    | zero => omega
    | succ n =>
      show p_X3_lowerToLeast_L26 q (nI (e + 1)) la kx _ acc (nI (i + 1)) = _
      rw [p_X3_lowerToLeast_L26, if_neg (show ¬ nI (i + 1) < nI (e + 1) by rw [ltI (by omega) (by omega)]; omega)]
      rfl
  | succ f ih =>
    intro n i acc h1 h2 h3
    cases n with
    | zero => omega
    | succ n =>
      show p_X3_lowerToLeast_L26 q (nI (e + 1)) la kx _ acc (nI (i + 1)) = _
      rw [p_X3_lowerToLeast_L26, leastF]
      by_cases hi : i < e
      · rw [if_pos (show nI (i + 1) < nI (e + 1) by rw [ltI (by omega) (by omega)]; omega), if_pos hi, if_pos (by rw [ltI (by omega) (by omega)]; omega), inbI (by omega), gdD (by omega), ixI (by omega), addI]
        exact ih n (i + 1) _ (by omega) (by omega) (by omega)
      · rw [if_neg (show ¬ nI (i + 1) < nI (e + 1) by rw [ltI (by omega) (by omega)]; omega), if_neg hi]
theorem X_lower_L {q a e ints : Nat} {st : Nat → Int64} {mm : Int64} (he : e + 1 ≤ 200) (hint : ints ≤ 1) : ∀ (m n i : Nat) (la : Nat → Nat → Int64), e - i = m → a ≤ i → i ≤ e → m < n → (∀ t, a ≤ t → t < i → la q (t + 1) = low ints st mm t) → (∀ t, i ≤ t → la q (t + 1) = st t) → ∃ la', itr2 (p_X3_lowerToLeast_L63 q (nI (e + 1)) (nI ints) mm) n (nI (i + 1)) la = some (mm, la') ∧ (∀ t, a ≤ t → t < e → la' q (t + 1) = low ints st mm t) ∧ (∀ t, e ≤ t → la' q (t + 1) = st t) := by
  intro m
  induction m with
  | zero =>
    intro n i la h1 h2 h3 h4 h5 h6
    cases n with
    | zero => omega
    | succ n =>
      refine ⟨la, ?_, fun t h7 h8 => h5 t h7 (by omega), fun t h7 => h6 t (by omega)⟩
      show p_X3_lowerToLeast_L63 q (nI (e + 1)) (nI ints) mm _ (nI (i + 1)) la = _
      rw [p_X3_lowerToLeast_L63, if_neg (show ¬ nI (i + 1) < nI (e + 1) by rw [ltI (by omega) (by omega)]; omega)]
  | succ m ih =>
    intro n i la h1 h2 h3 h4 h5 h6
    cases n with
    | zero => omega
    | succ n =>
      obtain ⟨la', e1, g1, g2⟩ := ih n (i + 1) (up la q (up (la q) (i + 1) (low ints st mm i))) (by omega) (by omega) (by omega) (by omega) (fun t h7 h8 => by
        rw [up_s]
        unfold up
        by_cases e : t = i
        · rw [if_pos (by omega), e]
        · rw [if_neg (by omega), h5 t h7 (by omega)]) (fun t h7 => by
        rw [up_s, up_n (by omega)]
        exact h6 t (by omega))
      refine ⟨la', ?_, g1, g2⟩
      show p_X3_lowerToLeast_L63 q (nI (e + 1)) (nI ints) mm _ (nI (i + 1)) la = _
      rw [p_X3_lowerToLeast_L63, if_pos (show nI (i + 1) < nI (e + 1) by rw [ltI (by omega) (by omega)]; omega), if_pos (by rw [ltI (by omega) (by omega)]; omega), inbI (by omega), gdD (by omega), ixI (by omega), h6 i (Nat.le_refl _), gdD (by omega), addI]
      unfold low at e1
      by_cases h0 : ints = 0
      · subst h0
        rw [if_pos rfl]
        rw [if_pos rfl] at e1
        exact e1
      · rw [if_neg (by rw [eqI (by omega) (by omega)]; omega), gdD (by omega)]
        rw [if_neg h0] at e1
        exact e1
theorem X_lowerToLeast {q a e ints : Nat} {st : Nat → Int64} {la : Nat → Nat → Int64} (ha : a < e) (he : e + 1 ≤ 200) (h128 : e ≤ a + 128) (hint : ints ≤ 1) (hst : ∀ t, a ≤ t → la q (t + 1) = st t) : ∃ la', p_X3_lowerToLeast q (nI (a + 1)) (nI (e + 1)) (nI ints) la = some (least st a e, la') ∧ (∀ t, a ≤ t → t < e → la' q (t + 1) = low ints st (least st a e) t) ∧ (∀ t, e ≤ t → la' q (t + 1) = st t) := by
  have e0 : leastF (fun t => la q (t + 1)) e 128 a (la q (a + 1)) = least st a e := by
    unfold least
    rw [hst a (Nat.le_refl _)]
    exact leastF_cong 128 a _ (fun t h1 _ => hst t h1)
  obtain ⟨la', e1, g1, g2⟩ := X_lower_L (q := q) (a := a) (e := e) (ints := ints) (st := st) (mm := least st a e) he hint (e - a) fu a la (by omega) (by omega) (by omega) (by rw [fu_eq]; omega) (fun t h5 h6 => by omega) hst
  refine ⟨la', ?_, g1, g2⟩
  unfold p_X3_lowerToLeast
  rw [if_neg (by rw [ltI (by omega) (by omega)]; omega), if_pos (by rw [ltI (by omega) (by omega)]; omega), inbI (by omega), gdD (by omega), ixI (by omega), imaxI (by omega) (by omega), Nat.max_eq_left (by omega), X_least_L he 128 fu a _ (by omega) (by omega) (by rw [fu_eq]; omega), e0]
  exact e1
theorem X_wds_L {r q a e : Nat} {la : Nat → Nat → Int64} {lo : Nat → Int64} {kx : (Nat → Int32) → (Nat → Int32) → (Nat → Nat → Int32) → Option ((Nat → Int32) × (Nat → Int32) × (Nat → Nat → Int32) × (Nat → Nat → Int64))} {L : List Int32} (he : e + 1 ≤ 200) (ha : a ≤ 200) (hlo : ∀ t, a ≤ t → t < e → la q (t + 1) = lo t) : ∀ (m n p : Nat) (rc rv : Nat → Int32) (rb : Nat → Nat → Int32), 4 - p = m → p ≤ 4 → m < n → XOut rc rv rb r (L ++ wdsN lo a e p) → ∃ rc' rv' rb', itr4 (p_X3_pushBlock_L22 r q (nI (a + 1)) (nI (e + 1)) la kx) n (nI p) rc rv rb = kx rc' rv' rb' ∧ XOut rc' rv' rb' r (L ++ wdsN lo a e 4) ∧ FrR r rc rv rb rc' rv' rb' := by
  intro m
  induction m with
  | zero =>
    intro n p rc rv rb h1 h2 h3 h
    have : p = 4 := by omega
    subst this
    cases n with
    | zero => omega
    | succ n =>
      refine ⟨rc, rv, rb, ?_, h, FrR.rf⟩
      show p_X3_pushBlock_L22 r q (nI (a + 1)) (nI (e + 1)) la kx _ (nI 4) rc rv rb = _
      rw [p_X3_pushBlock_L22, if_neg (by decide)]
  | succ m ih =>
    intro n p rc rv rb h1 h2 h3 h
    cases n with
    | zero => omega
    | succ n =>
      have ew : pw (la q) (a + 1 + 32 * p) (e + 1) = pw lo (a + 32 * p) e := by
        unfold pw
        rw [show a + 1 + 32 * p = a + 32 * p + 1 by omega, pwF_sh]
        exact pwF_cong 32 _ _ (fun j h5 h6 => hlo j (by omega) h6)
      obtain ⟨rc1, rv1, rb1, e1, g1, f1⟩ := XOut_push (nI (pw lo (a + 32 * p) e)) h
      rw [List.append_assoc] at g1
      obtain ⟨rc2, rv2, rb2, e2, g2, f2⟩ := ih n (p + 1) rc1 rv1 rb1 (by omega) (by omega) (by omega) g1
      refine ⟨rc2, rv2, rb2, ?_, g2, f1.tr f2⟩
      show p_X3_pushBlock_L22 r q (nI (a + 1)) (nI (e + 1)) la kx _ (nI p) rc rv rb = _
      rw [p_X3_pushBlock_L22, if_pos (by rw [ltI (by omega) (by omega)]; omega), mulI, addI, Nat.mul_comm p 32, X_pw he (by omega), bdS1, ew, e1, bdS3, addI]
      exact e2
theorem X_pks_L {r q a e : Nat} {la : Nat → Nat → Int64} {lo : Nat → Int64} {L : List Int32} (he : e + 1 ≤ 200) (ha : a ≤ 200) (hlo : ∀ t, a ≤ t → t < e → la q (t + 1) = lo t) : ∀ (m n p : Nat) (rc rv : Nat → Int32) (rb : Nat → Nat → Int32), 4 - p = m → p ≤ 4 → m < n → XOut rc rv rb r (L ++ pksN lo a e p) → ∃ rc' rv' rb', itr4 (p_X3_pushBlock_L53 r q (nI (a + 1)) (nI (e + 1)) la) n (nI p) rc rv rb = some (rc', rv', rb', la) ∧ XOut rc' rv' rb' r (L ++ pksN lo a e 4) ∧ FrR r rc rv rb rc' rv' rb' := by
  intro m
  induction m with
  | zero =>
    intro n p rc rv rb h1 h2 h3 h
    have : p = 4 := by omega
    subst this
    cases n with
    | zero => omega
    | succ n =>
      refine ⟨rc, rv, rb, ?_, h, FrR.rf⟩
      show p_X3_pushBlock_L53 r q (nI (a + 1)) (nI (e + 1)) la _ (nI 4) rc rv rb = _
      rw [p_X3_pushBlock_L53, if_neg (by decide)]
  | succ m ih =>
    intro n p rc rv rb h1 h2 h3 h
    cases n with
    | zero => omega
    | succ n =>
      show ∃ rc' rv' rb', p_X3_pushBlock_L53 r q (nI (a + 1)) (nI (e + 1)) la _ (nI p) rc rv rb = _ ∧ _
      rw [p_X3_pushBlock_L53, if_pos (by rw [ltI (by omega) (by omega)]; omega), mulI, addI, Nat.mul_comm p 32]
      have ew : pw (la q) (a + 1 + 32 * p) (e + 1) = pw lo (a + 32 * p) e := by
        unfold pw
        rw [show a + 1 + 32 * p = a + 32 * p + 1 by omega, pwF_sh]
        exact pwF_cong 32 _ _ (fun j h5 h6 => hlo j (by omega) h6)
      by_cases hp : a + 32 * p < e
      · obtain ⟨rc1, rv1, rb1, e1, g1, f1⟩ := X_pack (r := r) (q := q) (lim := e + 1) (w := pw lo (a + 32 * p) e) (i0 := a + 1 + 32 * p) (cnt := 32) (la := la) (g := fun j => if a + 32 * p + j < e then lo (a + 32 * p + j) else lN 0) (pw_le _ _ _) (by omega) (by omega) (fun j _ => by
          by_cases hj : a + 32 * p + j < e
          · rw [if_pos hj, if_pos (by omega), show a + 1 + 32 * p + j = a + 32 * p + j + 1 by omega, hlo _ (by omega) hj]
          · rw [if_neg hj, if_neg (by omega)]) h
        rw [List.append_assoc] at g1
        obtain ⟨rc2, rv2, rb2, e2, g2, f2⟩ := ih n (p + 1) rc1 rv1 rb1 (by omega) (by omega) (by omega) (by rw [pksN, if_pos hp]; exact g1)
        refine ⟨rc2, rv2, rb2, ?_, g2, f1.tr f2⟩
        rw [if_pos (by rw [ltI (by omega) (by omega)]; omega), X_pw he (by omega), bdS1, ew, e1, bdS3, addI]
        exact e2
      · obtain ⟨rc2, rv2, rb2, e2, g2, f2⟩ := ih n (p + 1) rc rv rb (by omega) (by omega) (by omega) (by rw [pksN, if_neg hp, List.append_nil]; exact h)
        refine ⟨rc2, rv2, rb2, ?_, g2, f2⟩
        rw [if_neg (by rw [ltI (by omega) (by omega)]; omega), addI]
        exact e2
theorem X_zigged (v : Int64) : p_X5_zigged v = some (zz v) := rfl
theorem X_blk {r q a e ints : Nat} {st : Nat → Int64} {la : Nat → Nat → Int64} {L : List Int32} {rc rv : Nat → Int32} {rb : Nat → Nat → Int32} (ha : a < e) (he : e + 1 ≤ 200) (h128 : e ≤ a + 128) (hint : ints ≤ 1) (hst : ∀ t, a ≤ t → la q (t + 1) = st t) (h : XOut rc rv rb r L) : ∃ rc' rv' rb' la', p_X3_pushBlock r q (nI (a + 1)) (nI (e + 1)) (nI ints) rc rv rb la = some (rc', rv', rb', la') ∧ XOut rc' rv' rb' r (L ++ blkB ints st a e) ∧ FrR r rc rv rb rc' rv' rb' ∧ (∀ t, e ≤ t → la' q (t + 1) = st t) := by
  obtain ⟨la', e0, g0, g0'⟩ := X_lowerToLeast ha he h128 hint hst
  obtain ⟨rc1, rv1, rb1, e1, g1, f1⟩ := X_var (v := zz (least st a e)) h
  obtain ⟨rc3, rv3, rb3, e3, g3, f3⟩ := X_wds_L (r := r) (q := q) (a := a) (e := e) (la := la') (lo := low ints st (least st a e)) (kx := fun rc_16 rv_17 rb_18 => itr4 (p_X3_pushBlock_L53 r q (nI (a + 1)) (nI (e + 1)) la') fu (nI 0) rc_16 rv_17 rb_18) he (by omega) g0 4 fu 0 rc1 rv1 rb1 (by omega) (by omega) (by rw [fu_eq]; omega) (by simpa [wdsN] using g1)
  obtain ⟨rc4, rv4, rb4, e4, g4, f4⟩ := X_pks_L (r := r) (q := q) (a := a) (e := e) (la := la') (lo := low ints st (least st a e)) he (by omega) g0 4 fu 0 rc3 rv3 rb3 (by omega) (by omega) (by rw [fu_eq]; omega) (by simpa [pksN] using g3)
  refine ⟨rc4, rv4, rb4, la', ?_, by unfold blkB; simpa [List.append_assoc] using g4, (f1.tr f3).tr f4, g0'⟩
  unfold p_X3_pushBlock
  rw [e0, bdS2, X_zigged, bdS1, e1, bdS3]
  exact e3.trans e4
theorem X_blks_L {r q n0 ints : Nat} {st : Nat → Int64} (hint : ints ≤ 1) (hn1 : 1 ≤ n0) (hn : n0 ≤ 200) : ∀ (f n a : Nat) (L : List Int32) (rc rv : Nat → Int32) (rb : Nat → Nat → Int32) (la : Nat → Nat → Int64), (n0 - 1) ≤ a + 128 * f → a ≤ 400 → f < n → (∀ t, a ≤ t → la q (t + 1) = st t) → XOut rc rv rb r L → ∃ rc' rv' rb' la', itr5 (p_X3_pushDifferences_L97 r q (nI n0) (nI ints)) n (nI (a + 1)) rc rv rb la = some (rc', rv', rb', la') ∧ XOut rc' rv' rb' r (L ++ blksB ints st (n0 - 1) f a) ∧ FrR r rc rv rb rc' rv' rb' := by
  intro f
  induction f with
  | zero =>
    intro n a L rc rv rb la h1 h2 h3 h4 h
    cases n with
    | zero => omega
    | succ n =>
      refine ⟨rc, rv, rb, la, ?_, by simpa [blksB] using h, FrR.rf⟩
      show p_X3_pushDifferences_L97 r q (nI n0) (nI ints) _ (nI (a + 1)) rc rv rb la = _
      rw [p_X3_pushDifferences_L97, if_neg (by rw [ltI (by omega) (by omega)]; omega)]
  | succ f ih =>
    intro n a L rc rv rb la h1 h2 h3 h4 h
    cases n with
    | zero => omega
    | succ n =>
      show ∃ rc' rv' rb' la', p_X3_pushDifferences_L97 r q (nI n0) (nI ints) _ (nI (a + 1)) rc rv rb la = _ ∧ _
      rw [p_X3_pushDifferences_L97, blksB]
      by_cases ha : a < n0 - 1
      · obtain ⟨rc1, rv1, rb1, la1, e1, g1, f1, k1⟩ := X_blk (r := r) (q := q) (a := a) (e := min (a + 128) (n0 - 1)) (ints := ints) (st := st) (la := la) (by omega) (by omega) (by omega) hint h4 h
        obtain ⟨rc2, rv2, rb2, la2, e2, g2, f2⟩ := ih n (a + 128) _ rc1 rv1 rb1 la1 (by omega) (by omega) (by omega) (fun t ht => k1 t (by omega)) g1
        rw [if_pos (by rw [ltI (by omega) (by omega)]; omega), addI, iminI (by omega) (by omega), iminI (by omega) (by omega), if_pos ha, show min (min (a + 1 + 128) n0) 200 = min (a + 128) (n0 - 1) + 1 by omega, e1, bdS4]
        exact ⟨rc2, rv2, rb2, la2, by rw [show a + 1 + 128 = a + 128 + 1 by omega]; exact e2, by simpa [List.append_assoc] using g2, f1.tr f2⟩
      · rw [if_neg (by rw [ltI (by omega) (by omega)]; omega), if_neg ha]
        exact ⟨rc, rv, rb, la, rfl, by simpa using h, FrR.rf⟩
theorem X_diff {r q n0 ints : Nat} {la : Nat → Nat → Int64} {L : List Int32} {rc rv : Nat → Int32} {rb : Nat → Nat → Int32} (hint : ints ≤ 1) (hn : n0 ≤ 200) (h : XOut rc rv rb r L) : ∃ rc' rv' rb' la', p_X3_pushDifferences r q (nI n0) (nI ints) rc rv rb la = some (rc', rv', rb', la') ∧ XOut rc' rv' rb' r (L ++ diffB (la q) n0 ints) ∧ FrR r rc rv rb rc' rv' rb' := by
  unfold diffB
  obtain ⟨rc1, rv1, rb1, e1, g1, f1⟩ := X_var (v := lN 128) h
  obtain ⟨rc2, rv2, rb2, e2, g2, f2⟩ := X_var (v := lN 4) g1
  obtain ⟨rc3, rv3, rb3, e3, g3, f3⟩ := X_var (v := lN n0) g2
  unfold p_X3_pushDifferences
  rw [e1, bdS3, e2, bdS3, i2lI (by omega), e3, bdS3]
  by_cases h0 : n0 = 0
  · subst h0
    obtain ⟨rc4, rv4, rb4, e4, g4, f4⟩ := X_var (v := zz (lN 0)) g3
    refine ⟨rc4, rv4, rb4, la, ?_, ?_, ((f1.tr f2).tr f3).tr f4⟩
    · rw [if_neg (by decide), p_X3_pushDifferences_J36, p_X3_pushDifferences_J37, X_zigged, bdS1, e4, bdS3]
      have ef : ∃ m, fu = m + 2 := ⟨1048574, rfl⟩
      obtain ⟨m, ef⟩ := ef
      rw [ef]
      show p_X3_pushDifferences_L53 q (nI ints) _ _ (imin (nI 0) (nI 200) - nI 1) la = _
      rw [p_X3_pushDifferences_L53, if_neg (by decide)]
      show p_X3_pushDifferences_L97 r q (nI 0) (nI ints) _ (nI 1) rc4 rv4 rb4 la = _
      rw [p_X3_pushDifferences_L97, if_neg (by decide)]
    · have eb : blksB ints (dstep ints (la q)) (0 - 1) 2 0 = [] := by rw [blksB, if_neg (by omega)]
      rw [eb, if_pos rfl]
      simpa [List.append_assoc] using g4
  · obtain ⟨rc4, rv4, rb4, e4, g4, f4⟩ := X_var (v := zz (la q 0)) g3
    obtain ⟨la', e5, g5⟩ := X_steps_L (q := q) (n0 := n0) (ints := ints) (g := la q) (kx := fun la_24 => itr5 (p_X3_pushDifferences_L97 r q (nI n0) (nI ints)) fu (nI 1) rc4 rv4 rb4 la_24) hn hint (n0 - 1) fu la (by omega) (by rw [fu_eq]; omega) (fun j _ => rfl) (fun j h5 h6 => by omega)
    obtain ⟨rc6, rv6, rb6, la6, e6, g6, f6⟩ := X_blks_L (r := r) (q := q) (n0 := n0) (ints := ints) (st := fun t => la' q (t + 1)) hint (by omega) hn 2 fu 0 _ rc4 rv4 rb4 la' (by omega) (by omega) (by rw [fu_eq]; omega) (fun t _ => rfl) g4
    have ec : blksB ints (fun t => la' q (t + 1)) (n0 - 1) 2 0 = blksB ints (dstep ints (la q)) (n0 - 1) 2 0 := blksB_cong (fun t ht => g5 t (by omega)) 2 0
    rw [ec] at g6
    refine ⟨rc6, rv6, rb6, la6, ?_, ?_, (((f1.tr f2).tr f3).tr f4).tr f6⟩
    · rw [if_pos (by rw [ltI (by omega) (by omega)]; omega), if_pos (by decide), inbI (by omega), gdD (by omega), ixI (by omega), p_X3_pushDifferences_J37, X_zigged, bdS1, e4, bdS3, iminI (by omega) (by omega), Nat.min_eq_left (by omega), subI (by omega)]
      exact e5.trans e6
    · rw [if_neg h0]
      simpa [List.append_assoc] using g6
end
section
/-! heads, lengths ahead of rows, texts -/
def headB (what n cnt code : Nat) : List Int32 := [b8 (nI 21)] ++ varB (zz (lN what)) ++ [b8 (nI 21)] ++ varB (zz (lN n)) ++ [b8 (nI 21)] ++ varB (zz (lN n)) ++ [b8 (nI (if what = 0 then 44 else 76))] ++ [b8 (nI 21)] ++ varB (zz (lN cnt)) ++ [b8 (nI 21)] ++ varB (zz (lN code)) ++ [b8 (nI 0)] ++ [b8 (nI 0)]
theorem M_head {what n cnt code : Nat} {L : List Int32} {md : Nat → Int32} {mdd : Int32} (h1 : what < 2 ^ 31) (h2 : n < 2 ^ 31) (h3 : cnt < 2 ^ 31) (h4 : code < 2 ^ 31) (hL : L.length + (headB what n cnt code).length ≤ 60000) (h : MOut md mdd L) : ∃ md' mdd', p_X6_head (nI what) (nI n) (nI cnt) (nI code) md mdd = some (md', mdd') ∧ MOut md' mdd' (L ++ headB what n cnt code) := by
  unfold headB at hL ⊢
  simp only [List.length_append, List.length_cons, List.length_nil] at hL
  obtain ⟨d1, c1, e1, g1⟩ := MOut_byte (nI 21) h (by omega)
  obtain ⟨d2, c2, e2, g2⟩ := M_zig (v := lN what) (by simp only [List.length_append, List.length_cons, List.length_nil]; omega) g1
  obtain ⟨d3, c3, e3, g3⟩ := MOut_byte (nI 21) g2 (by simp only [List.length_append, List.length_cons, List.length_nil]; omega)
  obtain ⟨d4, c4, e4, g4⟩ := M_zig (v := lN n) (by simp only [List.length_append, List.length_cons, List.length_nil]; omega) g3
  obtain ⟨d5, c5, e5, g5⟩ := MOut_byte (nI 21) g4 (by simp only [List.length_append, List.length_cons, List.length_nil]; omega)
  obtain ⟨d6, c6, e6, g6⟩ := M_zig (v := lN n) (by simp only [List.length_append, List.length_cons, List.length_nil]; omega) g5
  obtain ⟨d7, c7, e7, g7⟩ := MOut_byte (nI (if what = 0 then 44 else 76)) g6 (by simp only [List.length_append, List.length_cons, List.length_nil]; omega)
  obtain ⟨d8, c8, e8, g8⟩ := MOut_byte (nI 21) g7 (by simp only [List.length_append, List.length_cons, List.length_nil]; omega)
  obtain ⟨d9, c9, e9, g9⟩ := M_zig (v := lN cnt) (by simp only [List.length_append, List.length_cons, List.length_nil]; omega) g8
  obtain ⟨d10, c10, e10, g10⟩ := MOut_byte (nI 21) g9 (by simp only [List.length_append, List.length_cons, List.length_nil]; omega)
  obtain ⟨d11, c11, e11, g11⟩ := M_zig (v := lN code) (by simp only [List.length_append, List.length_cons, List.length_nil]; omega) g10
  obtain ⟨d12, c12, e12, g12⟩ := MOut_byte (nI 0) g11 (by simp only [List.length_append, List.length_cons, List.length_nil]; omega)
  obtain ⟨d13, c13, e13, g13⟩ := MOut_byte (nI 0) g12 (by simp only [List.length_append, List.length_cons, List.length_nil]; omega)
  refine ⟨d13, c13, ?_, by simpa [List.append_assoc] using g13⟩
  unfold p_X6_head
  rw [i2lI h1, i2lI h2, e1, bdS2, e2, bdS2, e3, bdS2, e4, bdS2, e5, bdS2, e6, bdS2]
  by_cases h0 : what = 0
  · rw [if_pos (by rw [eqI h1 (by omega)]; exact h0), p_X6_head_J48, i2lI h3, i2lI h4]
    rw [if_pos h0] at e7
    rw [e7, bdS2, e8, bdS2, e9, bdS2, e10, bdS2, e11, bdS2, e12, bdS2, e13, bdS2]
  · rw [if_neg (by rw [eqI h1 (by omega)]; exact h0), p_X6_head_J48, i2lI h3, i2lI h4]
    rw [if_neg h0] at e7
    rw [e7, bdS2, e8, bdS2, e9, bdS2, e10, bdS2, e11, bdS2, e12, bdS2, e13, bdS2]
theorem X_head {what n cnt code : Nat} {L : List Int32} {rc rv : Nat → Int32} {rb : Nat → Nat → Int32} (h1 : what < 2 ^ 31) (h2 : n < 2 ^ 31) (h3 : cnt < 2 ^ 31) (h4 : code < 2 ^ 31) (hn : rc 3 = nI n) (h : XOut rc rv rb 2 L) : ∃ rc' rv' rb', p_X2_pushHead (nI what) (nI cnt) (nI code) rc rv rb = some (rc', rv', rb') ∧ XOut rc' rv' rb' 2 (L ++ headB what n cnt code) ∧ FrR 2 rc rv rb rc' rv' rb' := by
  unfold headB
  obtain ⟨a1, b1, c1, e1, g1, f1⟩ := XOut_push (nI 21) h
  obtain ⟨a2, b2, c2, e2, g2, f2⟩ := X_var (v := zz (lN what)) g1
  obtain ⟨a3, b3, c3, e3, g3, f3⟩ := XOut_push (nI 21) g2
  obtain ⟨a4, b4, c4, e4, g4, f4⟩ := X_var (v := zz (lN n)) g3
  obtain ⟨a5, b5, c5, e5, g5, f5⟩ := XOut_push (nI 21) g4
  obtain ⟨a6, b6, c6, e6, g6, f6⟩ := X_var (v := zz (lN n)) g5
  obtain ⟨a7, b7, c7, e7, g7, f7⟩ := XOut_push (nI (if what = 0 then 44 else 76)) g6
  obtain ⟨a8, b8, c8, e8, g8, f8⟩ := XOut_push (nI 21) g7
  obtain ⟨a9, b9, c9, e9, g9, f9⟩ := X_var (v := zz (lN cnt)) g8
  obtain ⟨a10, b10, c10, e10, g10, f10⟩ := XOut_push (nI 21) g9
  obtain ⟨a11, b11, c11, e11, g11, f11⟩ := X_var (v := zz (lN code)) g10
  obtain ⟨a12, b12, c12, e12, g12, f12⟩ := XOut_push (nI 0) g11
  obtain ⟨a13, b13, c13, e13, g13, f13⟩ := XOut_push (nI 0) g12
  have fA := (f1.tr f2).tr f3
  have fB := (fA.tr f4).tr f5
  have n3 : a3 3 = nI n := (fA 3 (by omega)).1.trans hn
  have n5 : a5 3 = nI n := (fB 3 (by omega)).1.trans hn
  refine ⟨a13, b13, c13, ?_, by simpa [List.append_assoc] using g13, ((((((((fB.tr f6).tr f7).tr f8).tr f9).tr f10).tr f11).tr f12).tr f13)⟩
  unfold p_X2_pushHead
  rw [i2lI h1, X_zigged, e1, bdS3, bdS1, e2, bdS3, e3, bdS3, n3, i2lI h2, X_zigged, bdS1, e4, bdS3, e5, bdS3, n5, i2lI h2, X_zigged, bdS1, e6, bdS3]
  by_cases h0 : what = 0
  · rw [if_pos (by rw [eqI h1 (by omega)]; exact h0), p_X2_pushHead_J90, i2lI h3, i2lI h4, X_zigged, X_zigged]
    rw [if_pos h0] at e7
    rw [e7, bdS3, e8, bdS3, bdS1, e9, bdS3, e10, bdS3, bdS1, e11, bdS3, e12, bdS3, e13, bdS3]
  · rw [if_neg (by rw [eqI h1 (by omega)]; exact h0), p_X2_pushHead_J90, i2lI h3, i2lI h4, X_zigged, X_zigged]
    rw [if_neg h0] at e7
    rw [e7, bdS3, e8, bdS3, bdS1, e9, bdS3, e10, bdS3, bdS1, e11, bdS3, e12, bdS3, e13, bdS3]
def b8L (l : List Int32) : Prop := ∀ x ∈ l, b8 x = x
theorem b8L.app {l m : List Int32} (h1 : b8L l) (h2 : b8L m) : b8L (l ++ m) := fun x hx => (List.mem_append.mp hx).elim (h1 x) (h2 x)
theorem b8L.one (x : Int32) : b8L [b8 x] := fun y hy => by rw [List.mem_singleton.mp hy, b8_b8']
theorem b8L_lit (w : Int64) (n : Nat) : b8L (litB w n) := by
  intro x hx
  obtain ⟨k, -, rfl⟩ := List.mem_map.mp hx
  exact b8_b8' _
theorem b8L_varn : ∀ (n : Nat) (v : Int64), b8L (varBn n v) := by
  intro n
  induction n with
  | zero => intro v; exact b8L.one _
  | succ n ih =>
    intro v
    unfold varBn
    split
    · exact b8L.one _
    · intro x hx
      rcases List.mem_cons.mp hx with h | h
      · rw [h, b8_b8']
      · exact ih _ x h
theorem b8L_var (v : Int64) : b8L (varB v) := b8L_varn 9 v
theorem b8L_pst (x : Int32) (s : PS) (h : b8L s.2.2) : b8L (pst x s).2.2 := by
  unfold pst
  split
  · exact h.app (b8L.one _)
  · exact h
theorem b8L_pbits (x : Int64) (k : Nat) (s : PS) (h : b8L s.2.2) : b8L (pbits x k s).2.2 := by
  induction k with
  | zero => exact h
  | succ k ih => exact b8L_pst _ _ ih
theorem b8L_pnums (g : Nat → Int64) (w j : Nat) (s : PS) (h : b8L s.2.2) : b8L (pnums g w j s).2.2 := by
  induction j with
  | zero => exact h
  | succ j ih => exact b8L_pbits _ _ _ ih
theorem b8L_nil : b8L [] := fun x hx => by cases hx
theorem b8L_pack (g : Nat → Int64) (w c : Nat) : b8L (packB g w c) := b8L_pnums g w c _ b8L_nil
theorem b8L_runs (g : Nat → Int64) (w n : Nat) : ∀ (f a : Nat), b8L (runsB g w n f a) := by
  intro f
  induction f with
  | zero => intro a; exact b8L_nil
  | succ f ih =>
    intro a
    unfold runsB
    split
    · split
      · exact ((b8L_var _).app (b8L_pack _ _ _)).app (ih _)
      · exact ((b8L_var _).app (b8L_lit _ _)).app (ih _)
    · exact b8L_nil
theorem b8L_wds (lo : Nat → Int64) (a e p : Nat) : b8L (wdsN lo a e p) := by
  induction p with
  | zero => exact b8L_nil
  | succ p ih => exact ih.app (b8L.one _)
theorem b8L_pks (lo : Nat → Int64) (a e p : Nat) : b8L (pksN lo a e p) := by
  induction p with
  | zero => exact b8L_nil
  | succ p ih =>
    unfold pksN
    refine ih.app ?_
    split
    · exact b8L_pack _ _ _
    · exact b8L_nil
theorem b8L_blks (ints : Nat) (st : Nat → Int64) (N : Nat) : ∀ (f a : Nat), b8L (blksB ints st N f a) := by
  intro f
  induction f with
  | zero => intro a; exact b8L_nil
  | succ f ih =>
    intro a
    unfold blksB
    split
    · unfold blkB
      exact ((b8L_var _).app ((b8L_wds _ _ _ _).app (b8L_pks _ _ _ _))).app (ih _)
    · exact b8L_nil
theorem b8L_diff (g : Nat → Int64) (n ints : Nat) : b8L (diffB g n ints) := by
  unfold diffB
  exact (b8L_var _).app ((b8L_var _).app ((b8L_var _).app ((b8L_var _).app (b8L_blks _ _ _ _ _))))
theorem b8L_head (a b c d : Nat) : b8L (headB a b c d) := by
  unfold headB
  exact ((((((((((((b8L.one _).app (b8L_var _)).app (b8L.one _)).app (b8L_var _)).app (b8L.one _)).app (b8L_var _)).app (b8L.one _)).app (b8L.one _)).app (b8L_var _)).app (b8L.one _)).app (b8L_var _)).app (b8L.one _)).app (b8L.one _)
-- the reference moves what it drafted to make room
theorem M_mv_L {F n0 : Nat} {md : Nat → Int32} {kx : (Nat → Int32) → Option ((Nat → Int32) × Int32 × (Nat → Int32))} {B : List Int32} (hB : B.length = n0) (hb : b8L B) (hn : n0 ≤ 20000) (hF : F + n0 ≤ 60000) (hmd : ∀ (k : Nat) (h : k < B.length), md (F + k) = B[k]) : ∀ (m n i : Nat) (mbb : Nat → Int32), n0 - i = m → i ≤ n0 → m < n → (∀ (k : Nat) (h : k < B.length), k < i → mbb k = B[k]) → ∃ mbb', itr2 (p_X6_headed_L11 (nI F) (nI n0) md kx) n (nI i) mbb = kx mbb' ∧ ∀ (k : Nat) (h : k < B.length), mbb' k = B[k] := by
  intro m
  induction m with
  | zero =>
    intro n i mbb h1 h2 h3 h
    cases n with
    | zero => omega
    | succ n =>
      refine ⟨mbb, ?_, fun k hk => h k hk (by omega)⟩
      show p_X6_headed_L11 (nI F) (nI n0) md kx _ (nI i) mbb = _
      rw [p_X6_headed_L11, if_neg (by rw [ltI (by omega) (by omega)]; omega)]
  | succ m ih =>
    intro n i mbb h1 h2 h3 h
    cases n with
    | zero => omega
    | succ n =>
      obtain ⟨mbb', e1, g1⟩ := ih n (i + 1) (up mbb i (b8 (md (F + i)))) (by omega) (by omega) (by omega) (fun k hk hki => by
        unfold up
        by_cases e : k = i
        · subst e
          rw [if_pos rfl, hmd k hk, hb _ (List.getElem_mem hk)]
        · rw [if_neg e, h k hk (by omega)])
      refine ⟨mbb', ?_, g1⟩
      show p_X6_headed_L11 (nI F) (nI n0) md kx _ (nI i) mbb = _
      rw [p_X6_headed_L11, if_pos (by rw [ltI (by omega) (by omega)]; omega), addI, inbI (by omega), gdD (by omega), inbI (by omega), gdD (by omega), ixI (by omega), ixI (by omega), addI]
      exact e1
theorem M_mv2_L {F n0 : Nat} {md : Nat → Int32} {kx : (Nat → Int32) → Option ((Nat → Int32) × Int32 × (Nat → Int32))} {B : List Int32} (hB : B.length = n0) (hb : b8L B) (hn : n0 ≤ 20000) (hF : F + n0 ≤ 60000) (hmd : ∀ (k : Nat) (h : k < B.length), md (F + k) = B[k]) : ∀ (m n i : Nat) (mbb : Nat → Int32), n0 - i = m → i ≤ n0 → m < n → (∀ (k : Nat) (h : k < B.length), k < i → mbb k = B[k]) → ∃ mbb', itr2 (p_X6_sized_L9 (nI F) (nI n0) md kx) n (nI i) mbb = kx mbb' ∧ ∀ (k : Nat) (h : k < B.length), mbb' k = B[k] := by
  intro m n i mbb
  exact M_mv_L (F := F) (n0 := n0) (md := md) (kx := kx) hB hb hn hF hmd m n i mbb
theorem M_back_L {n0 : Nat} {mbb : Nat → Int32} {L B : List Int32} (hB : B.length = n0) (hb : b8L B) (hn : n0 ≤ 20000) (hL : L.length + n0 ≤ 60000) (hm : ∀ (k : Nat) (h : k < B.length), mbb k = B[k]) : ∀ (m n i : Nat) (md : Nat → Int32) (mdd : Int32), n0 - i = m → i ≤ n0 → m < n → MOut md mdd (L ++ B.take i) → ∃ md' mdd', itr3 (p_X6_headed_L58 (nI n0) mbb) n (nI i) md mdd = some (md', mdd', mbb) ∧ MOut md' mdd' (L ++ B) := by
  intro m
  induction m with
  | zero =>
    intro n i md mdd h1 h2 h3 h
    have : i = n0 := by omega
    subst this
    cases n with
    | zero => omega
    | succ n =>
      rw [← hB, List.take_length] at h
      refine ⟨md, mdd, ?_, h⟩
      show p_X6_headed_L58 (nI i) mbb _ (nI i) md mdd = _
      rw [p_X6_headed_L58, if_neg (by rw [ltI (by omega) (by omega)]; omega)]
  | succ m ih =>
    intro n i md mdd h1 h2 h3 h
    cases n with
    | zero => omega
    | succ n =>
      have hi : i < B.length := by omega
      obtain ⟨md1, mdd1, e1, g1⟩ := MOut_byte (mbb i) h (by rw [List.length_append, List.length_take]; omega)
      rw [hm i hi, hb _ (List.getElem_mem hi), List.append_assoc, take_snoc hi] at g1
      obtain ⟨md2, mdd2, e2, g2⟩ := ih n (i + 1) md1 mdd1 (by omega) (by omega) (by omega) g1
      refine ⟨md2, mdd2, ?_, g2⟩
      show p_X6_headed_L58 (nI n0) mbb _ (nI i) md mdd = _
      rw [p_X6_headed_L58, if_pos (by rw [ltI (by omega) (by omega)]; omega), inbI (by omega), gdD (by omega), ixI (by omega), e1, bdS2, addI]
      exact e2
theorem MOut.cut {md : Nat → Int32} {mdd : Int32} {L B : List Int32} (h : MOut md mdd (L ++ B)) : MOut md (nI L.length) L ∧ (∀ (k : Nat) (h : k < B.length), md (L.length + k) = B[k]) ∧ mdd = nI (L.length + B.length) := by
  obtain ⟨h1, h2⟩ := h
  refine ⟨⟨rfl, fun k hk => ?_⟩, fun k hk => ?_, by rw [h1, List.length_append]⟩
  · rw [h2 k (by rw [List.length_append]; omega), List.getElem_append_left hk]
  · rw [h2 (L.length + k) (by rw [List.length_append]; omega), List.getElem_append_right (by omega)]
    simp
theorem M_headed {what cnt code : Nat} {L B : List Int32} {md mbb : Nat → Int32} {mdd : Int32} (h1 : what < 2 ^ 31) (h3 : cnt < 2 ^ 31) (h4 : code < 2 ^ 31) (hb : b8L B) (hn : B.length ≤ 20000) (hL : L.length + (headB what B.length cnt code).length + B.length ≤ 60000) (h : MOut md mdd (L ++ B)) : ∃ md' mdd' mbb', p_X6_headed (nI L.length) (nI what) (nI cnt) (nI code) md mdd mbb = some (md', mdd', mbb') ∧ MOut md' mdd' (L ++ (headB what B.length cnt code ++ B)) := by
  obtain ⟨c1, c2, c3⟩ := h.cut
  obtain ⟨md1, mdd1, e1, g1⟩ := M_head (n := B.length) h1 (by omega) h3 h4 (by omega) c1
  obtain ⟨mbb', e2, g2⟩ := M_mv_L (F := L.length) (n0 := B.length) (md := md) (kx := fun mbb_3 =>
      bd2 (p_X6_head (nI what) (nI B.length) (nI cnt) (nI code) md (nI L.length)) <| fun md_4 mdd_5 =>
      itr3 (p_X6_headed_L58 (nI B.length) mbb_3 ) fu (nI 0) md_4 mdd_5) rfl hb hn (by omega) c2 B.length fu 0 mbb (by omega) (by omega) (by rw [fu_eq]; omega) (fun k _ hk => by omega)
  obtain ⟨md3, mdd3, e3, g3⟩ := M_back_L (n0 := B.length) (mbb := mbb') (L := L ++ headB what B.length cnt code) rfl hb hn (by rw [List.length_append]; omega) g2 B.length fu 0 md1 mdd1 (by omega) (by omega) (by rw [fu_eq]; omega) (by simpa using g1)
  refine ⟨md3, mdd3, mbb', ?_, by simpa [List.append_assoc] using g3⟩
  unfold p_X6_headed
  rw [c3, subI (by omega), Nat.add_sub_cancel_left]
  refine e2.trans ?_
  rw [e1, bdS2]
  exact e3
theorem M_sized {L B : List Int32} {md mbb : Nat → Int32} {mdd : Int32} (hb : b8L B) (hn : B.length ≤ 20000) (hL : L.length + 4 + B.length ≤ 60000) (h : MOut md mdd (L ++ B)) : ∃ md' mdd' mbb', p_X6_sized (nI L.length) md mdd mbb = some (md', mdd', mbb') ∧ MOut md' mdd' (L ++ (litB (lN B.length) 4 ++ B)) := by
  obtain ⟨c1, c2, c3⟩ := h.cut
  obtain ⟨md1, mdd1, e1, g1⟩ := M_lit (N := 4) (w := lN B.length) (by omega) (by omega) c1
  obtain ⟨mbb', e2, g2⟩ := M_mv2_L (F := L.length) (n0 := B.length) (md := md) (kx := fun mbb_3 =>
      bd2 (p_X6_bytesTo (lN B.length) (nI 4) md (nI L.length)) <| fun md_4 mdd_5 =>
      itr3 (p_X6_sized_L48 (nI B.length) mbb_3 ) fu (nI 0) md_4 mdd_5) rfl hb hn (by omega) c2 B.length fu 0 mbb (by omega) (by omega) (by rw [fu_eq]; omega) (fun k _ hk => by omega)
  obtain ⟨md3, mdd3, e3, g3⟩ := M_back_L (n0 := B.length) (mbb := mbb') (L := L ++ litB (lN B.length) 4) rfl hb hn (by rw [List.length_append, litB_len]; omega) g2 B.length fu 0 md1 mdd1 (by omega) (by omega) (by rw [fu_eq]; omega) (by simpa using g1)
  refine ⟨md3, mdd3, mbb', ?_, by simpa [List.append_assoc] using g3⟩
  unfold p_X6_sized
  rw [c3, subI (by omega), Nat.add_sub_cancel_left, i2lI (by omega)]
  refine e2.trans ?_
  rw [e1, bdS2]
  exact e3
end
section
theorem XOut_over {rc rv : Nat → Int32} {rb : Nat → Nat → Int32} {r : Nat} {l l' : List Int32} (h : XOut rc rv rb r l) (h1 : rlen r < l.length) (h2 : rlen r < l'.length) : XOut rc rv rb r l' := by
  rcases h with ⟨a, -⟩ | ⟨-, b⟩
  · omega
  · exact Or.inr ⟨h2, b⟩
theorem XOut_cnt {rc rv : Nat → Int32} {rb : Nat → Nat → Int32} {r : Nat} {l : List Int32} (h : XOut rc rv rb r l) : ∃ c, c ≤ rlen r ∧ rc r = nI c ∧ (l.length ≤ rlen r → c = l.length) := by
  rcases h with ⟨a, b, -⟩ | ⟨a, -, c, d, e⟩
  · exact ⟨_, a, b, fun _ => rfl⟩
  · exact ⟨c, d, e, fun h => by omega⟩
theorem X_get_any {rc : Nat → Int32} {rb : Nat → Nat → Int32} {r c i : Nat} (h1 : rc r = nI c) (h2 : c ≤ rlen r) (hi : i < c) : ∃ v, p_X3_get r (nI i) rc rb = some v := by
  have := rlen_le r
  refine ⟨rb r i &&& nI 255, ?_⟩
  unfold p_X3_get
  rw [h1]
  simp (disch := omega) only [ltI, eqI, addI, subI, mulI, divI, ixI, inbI, i2lI, l2iL, ltL, eqL, addL, mulL, subL, gdD, if_pos, if_neg, if_true, if_false, bdS1, bdS2, bdS3, bdS4, bdS5, bdS6, bdS7, bdS8, bdS9, bdS10, bdS11, bdS12, bdS13, moN, moS]
theorem X_get_seg {rc : Nat → Int32} {rb : Nat → Nat → Int32} {r i : Nat} {l : List Int32} (h1 : rc r = nI l.length) (h2 : l.length ≤ rlen r) (hs : Seg (rb r) l) (hi : i < l.length) : p_X3_get r (nI i) rc rb = some (l[i] &&& nI 255) := by
  have := rlen_le r
  unfold p_X3_get
  rw [h1]
  simp (disch := omega) only [ltI, eqI, addI, subI, mulI, divI, ixI, inbI, i2lI, l2iL, ltL, eqL, addL, mulL, subL, gdD, if_pos, if_neg, if_true, if_false, bdS1, bdS2, bdS3, bdS4, bdS5, bdS6, bdS7, bdS8, bdS9, bdS10, bdS11, bdS12, bdS13, moN, moS, hs i hi]
theorem X_append_L {d s : Nat} {B L : List Int32} (hds : s ≠ d) (hb : b8L B) (hBl : B.length ≤ rlen s) : ∀ (m n i : Nat) (rc rv : Nat → Int32) (rb : Nat → Nat → Int32), B.length - i = m → i ≤ B.length → m < n → rc s = nI B.length → Seg (rb s) B → XOut rc rv rb d (L ++ B.take i) → ∃ rc' rv' rb', itr4 (p_X3_append_L25 d s) n (nI i) rc rv rb = some (rc', rv', rb') ∧ XOut rc' rv' rb' d (L ++ B) ∧ FrR d rc rv rb rc' rv' rb' := by
  have hrl := rlen_le s
  intro m
  induction m with
  | zero =>
    intro n i rc rv rb h1 h2 h3 h4 h5 h
    have : i = B.length := by omega
    subst this
    cases n with
    | zero => omega
    | succ n =>
      rw [List.take_length] at h
      refine ⟨rc, rv, rb, ?_, h, FrR.rf⟩
      show p_X3_append_L25 d s _ (nI B.length) rc rv rb = _
      rw [p_X3_append_L25, h4, if_neg (by rw [ltI (by omega) (by omega)]; omega)]
  | succ m ih =>
    intro n i rc rv rb h1 h2 h3 h4 h5 h
    cases n with
    | zero => omega
    | succ n =>
      have hi : i < B.length := by omega
      obtain ⟨rc1, rv1, rb1, e1, g1, f1⟩ := XOut_push (B[i] &&& nI 255) h
      rw [b8_and, hb _ (List.getElem_mem hi), List.append_assoc, take_snoc hi] at g1
      obtain ⟨k1, k2, k3⟩ := f1 s hds
      obtain ⟨rc2, rv2, rb2, e2, g2, f2⟩ := ih n (i + 1) rc1 rv1 rb1 (by omega) (by omega) (by omega) (k1.trans h4) (by rw [k3]; exact h5) g1
      refine ⟨rc2, rv2, rb2, ?_, g2, f1.tr f2⟩
      show p_X3_append_L25 d s _ (nI i) rc rv rb = _
      rw [p_X3_append_L25, if_pos (by rw [h4, ltI (by omega) (by omega)]; omega), X_get_seg h4 hBl h5 hi, bdS1, e1, bdS3, addI]
      exact e2
theorem X_append_any_L {d s c : Nat} (hds : s ≠ d) (hc : c ≤ rlen s) : ∀ (m n i : Nat) (L : List Int32) (rc rv : Nat → Int32) (rb : Nat → Nat → Int32), c - i = m → i ≤ c → m < n → rc s = nI c → XOut rc rv rb d L → rlen d < L.length → ∃ rc' rv' rb' L', itr4 (p_X3_append_L25 d s) n (nI i) rc rv rb = some (rc', rv', rb') ∧ XOut rc' rv' rb' d L' ∧ rlen d < L'.length ∧ FrR d rc rv rb rc' rv' rb' := by
  have hrl := rlen_le s
  intro m
  induction m with
  | zero =>
    intro n i L rc rv rb h1 h2 h3 h4 h hL
    have : i = c := by omega
    subst this
    cases n with
    | zero => omega
    | succ n =>
      refine ⟨rc, rv, rb, L, ?_, h, hL, FrR.rf⟩
      show p_X3_append_L25 d s _ (nI i) rc rv rb = _
      rw [p_X3_append_L25, h4, if_neg (by rw [ltI (by omega) (by omega)]; omega)]
  | succ m ih =>
    intro n i L rc rv rb h1 h2 h3 h4 h hL
    cases n with
    | zero => omega
    | succ n =>
      obtain ⟨v, ev⟩ := X_get_any (rb := rb) h4 hc (show i < c by omega)
      obtain ⟨rc1, rv1, rb1, e1, g1, f1⟩ := XOut_push v h
      obtain ⟨k1, k2, k3⟩ := f1 s hds
      obtain ⟨rc2, rv2, rb2, L2, e2, g2, g3, f2⟩ := ih n (i + 1) _ rc1 rv1 rb1 (by omega) (by omega) (by omega) (k1.trans h4) g1 (by rw [List.length_append]; omega)
      refine ⟨rc2, rv2, rb2, L2, ?_, g2, g3, f1.tr f2⟩
      show p_X3_append_L25 d s _ (nI i) rc rv rb = _
      rw [p_X3_append_L25, if_pos (by rw [h4, ltI (by omega) (by omega)]; omega), ev, bdS1, e1, bdS3, addI]
      exact e2
theorem X_append {d s : Nat} {B L : List Int32} {rc rv : Nat → Int32} {rb : Nat → Nat → Int32} (hds : s ≠ d) (hsd : rlen d = rlen s) (hb : b8L B) (hs : XOut rc rv rb s B) (h : XOut rc rv rb d L) : ∃ rc' rv' rb', p_X3_append d s rc rv rb = some (rc', rv', rb') ∧ XOut rc' rv' rb' d (L ++ B) ∧ FrR d rc rv rb rc' rv' rb' := by
  have hrl := rlen_le s
  unfold p_X3_append
  rcases hs with ⟨s1, s2, s3, s4⟩ | ⟨s1, s2, c, s3, s4⟩
  · have hd : ∀ x, rv d = x → (up rv d x = rv) := fun x hx => by rw [← hx, up_id]
    rcases h with ⟨a1, a2, a3, a4⟩ | ⟨a1, a2, a3⟩
    · rw [if_pos a3, if_pos s3, hd _ a3]
      exact X_append_L hds hb s1 B.length fu 0 rc rv rb (by omega) (by omega) (by rw [fu_eq]; omega) s2 s4 (by rw [List.take_zero, List.append_nil]; exact Or.inl ⟨a1, a2, a3, a4⟩)
    · rw [if_neg (by rw [a2]; decide), hd _ a2]
      exact X_append_L hds hb s1 B.length fu 0 rc rv rb (by omega) (by omega) (by rw [fu_eq]; omega) s2 s4 (by rw [List.take_zero, List.append_nil]; exact Or.inr ⟨a1, a2, a3⟩)
  · have hone : XOut rc (up rv d (nI 1)) rb d B := by
      obtain ⟨c0, h1, h2, -⟩ := XOut_cnt h
      exact Or.inr ⟨by omega, up_s, c0, h1, h2⟩
    obtain ⟨rc1, rv1, rb1, L1, e1, g1, g2, f1⟩ := X_append_any_L hds s3 c fu 0 B rc (up rv d (nI 1)) rb (by omega) (by omega) (by rw [fu_eq]; omega) s4 hone (by omega)
    have hf : FrR d rc rv rb rc1 rv1 rb1 := fun q hq => ⟨(f1 q hq).1, (f1 q hq).2.1.trans (up_n hq), (f1 q hq).2.2⟩
    have hfin := XOut_over g1 g2 (show rlen d < (L ++ B).length by rw [List.length_append]; omega)
    by_cases hz : rv d = nI 0
    · rw [if_pos hz, if_neg (by rw [s2]; decide)]
      exact ⟨rc1, rv1, rb1, e1, hfin, hf⟩
    · rw [if_neg hz]
      exact ⟨rc1, rv1, rb1, e1, hfin, hf⟩
theorem X_clear {r : Nat} {rc rv : Nat → Int32} {rb : Nat → Nat → Int32} : ∃ rc' rv', p_X3_clear r rc rv = some (rc', rv') ∧ XOut rc' rv' rb r [] ∧ FrR r rc rv rb rc' rv' rb :=
  ⟨_, _, rfl, Or.inl ⟨Nat.zero_le _, up_s, up_s, fun k hk => by simp at hk⟩, fun q hq => ⟨up_n hq, up_n hq, rfl⟩⟩
theorem X_set_any {rc : Nat → Int32} {rb : Nat → Nat → Int32} {r c j : Nat} (v : Int32) (h1 : rc r = nI c) (h2 : c ≤ rlen r) (hj : j < 2 ^ 31) : ∃ rb', p_X3_set r (nI j) v rc rb = some rb' ∧ (∀ q, q ≠ r → rb' q = rb q) ∧ (j < c → rb' = up rb r (up (rb r) j (b8 v))) := by
  have := rlen_le r
  unfold p_X3_set
  rw [h1]
  by_cases hc : j < c
  · refine ⟨up rb r (up (rb r) j (b8 v)), ?_, fun q hq => up_n hq, fun _ => rfl⟩
    simp (disch := omega) only [ltI, eqI, addI, subI, mulI, divI, ixI, inbI, i2lI, l2iL, ltL, eqL, addL, mulL, subL, gdD, if_pos, if_neg, if_true, if_false, bdS1, bdS2, bdS3, bdS4, bdS5, bdS6, bdS7, bdS8, bdS9, bdS10, bdS11, bdS12, bdS13, moN, moS]
  · refine ⟨rb, ?_, fun q hq => rfl, fun h => absurd h hc⟩
    simp (disch := omega) only [ltI, eqI, addI, subI, mulI, divI, ixI, inbI, i2lI, l2iL, ltL, eqL, addL, mulL, subL, gdD, if_pos, if_neg, if_true, if_false, bdS1, bdS2, bdS3, bdS4, bdS5, bdS6, bdS7, bdS8, bdS9, bdS10, bdS11, bdS12, bdS13, moN, moS]
theorem iushr_lit {n i : Nat} (hn : n < 2 ^ 31) (hi : i < 4) : b8 (iushr (nI n) (nI (8 * i))) = b8 (l2i (lshr (lN n) (nI (8 * i)))) := by
  rw [← b8_sh (lN n) (by omega)]
  have e1 : iushr (nI n) (nI (8 * i)) = nI (n / 2 ^ (8 * i)) := by
    have hk : i = 0 ∨ i = 1 ∨ i = 2 ∨ i = 3 := by omega
    rcases hk with rfl | rfl | rfl | rfl <;> exact pk_ushrN (by omega) _ _ (by decide)
  have e2 : lushr (lN n) (nI (8 * i)) = lN (n / 2 ^ (8 * i)) := wb_shr (by omega) (by omega)
  rw [e1, e2, l2iL]
theorem X_tell_any_L {r c P : Nat} {rc : Nat → Int32} {x : Int32} (h1 : rc r = nI c) (h2 : c ≤ rlen r) (hP : P ≤ 20000) : ∀ (m n i : Nat) (rb : Nat → Nat → Int32), 4 - i = m → i ≤ 4 → m < n → ∃ rb', itr2 (p_X3_tellLength_L11 r (nI P) x rc) n (nI i) rb = some rb' ∧ ∀ q, q ≠ r → rb' q = rb q := by
  intro m
  induction m with
  | zero =>
    intro n i rb a1 a2 a3
    have : i = 4 := by omega
    subst this
    cases n with
    | zero => omega
    | succ n =>
      refine ⟨rb, ?_, fun q hq => rfl⟩
      show p_X3_tellLength_L11 r (nI P) x rc _ (nI 4) rb = _
      rw [p_X3_tellLength_L11, if_neg (by decide)]
  | succ m ih =>
    intro n i rb a1 a2 a3
    cases n with
    | zero => omega
    | succ n =>
      obtain ⟨rb1, e1, f1, -⟩ := X_set_any (rb := rb) (j := P + i) (iushr x (nI (8 * i))) h1 h2 (by omega)
      obtain ⟨rb2, e2, f2⟩ := ih n (i + 1) rb1 (by omega) (by omega) (by omega)
      refine ⟨rb2, ?_, fun q hq => (f2 q hq).trans (f1 q hq)⟩
      show p_X3_tellLength_L11 r (nI P) x rc _ (nI i) rb = _
      rw [p_X3_tellLength_L11, if_pos (by rw [ltI (by omega) (by omega)]; omega), addI, mulI, e1, bdS1, addI]
      exact e2
theorem X_tell_L {r c P N : Nat} {rc : Nat → Int32} {f : Nat → Int32} (h1 : rc r = nI c) (h2 : c ≤ rlen r) (hP : P + 4 ≤ c) (hN : N < 2 ^ 31) : ∀ (m n i : Nat) (rb : Nat → Nat → Int32), 4 - i = m → i ≤ 4 → m < n → rb r = wr f P ((litB (lN N) 4).take i) → ∃ rb', itr2 (p_X3_tellLength_L11 r (nI P) (nI N) rc) n (nI i) rb = some rb' ∧ (∀ q, q ≠ r → rb' q = rb q) ∧ rb' r = wr f P (litB (lN N) 4) := by
  have hrl := rlen_le r
  intro m
  induction m with
  | zero =>
    intro n i rb a1 a2 a3 a4
    have : i = 4 := by omega
    subst this
    cases n with
    | zero => omega
    | succ n =>
      refine ⟨rb, ?_, fun q hq => rfl, by rw [a4, List.take_of_length_le (by rw [litB_len]; omega)]⟩
      show p_X3_tellLength_L11 r (nI P) (nI N) rc _ (nI 4) rb = _
      rw [p_X3_tellLength_L11, if_neg (by decide)]
  | succ m ih =>
    intro n i rb a1 a2 a3 a4
    cases n with
    | zero => omega
    | succ n =>
      obtain ⟨rb1, e1, f1, g1⟩ := X_set_any (rb := rb) (j := P + i) (iushr (nI N) (nI (8 * i))) h1 h2 (by omega)
      have hil : i < (litB (lN N) 4).length := by rw [litB_len]; omega
      have g2 : rb1 r = wr f P ((litB (lN N) 4).take (i + 1)) := by
        rw [g1 (by omega), up_s, a4, ← take_snoc hil]
        have e : P + i = P + ((litB (lN N) 4).take i).length := by rw [List.length_take, litB_len]; omega
        rw [e, wr_snoc]
        congr 2
        rw [iushr_lit hN (by omega)]
        simp [litB]
      obtain ⟨rb2, e2, f2, g3⟩ := ih n (i + 1) rb1 (by omega) (by omega) (by omega) g2
      refine ⟨rb2, ?_, fun q hq => (f2 q hq).trans (f1 q hq), g3⟩
      show p_X3_tellLength_L11 r (nI P) (nI N) rc _ (nI i) rb = _
      rw [p_X3_tellLength_L11, if_pos (by rw [ltI (by omega) (by omega)]; omega), addI, mulI, e1, bdS1, addI]
      exact e2
theorem Seg.mid {f : Nat → Int32} {P Z R Y : List Int32} (h : Seg f (P ++ (Z ++ R))) (hl : Z.length = Y.length) : Seg (wr f P.length Y) (P ++ (Y ++ R)) := by
  intro k hk
  simp only [List.length_append] at hk
  have hk' : k < (P ++ (Z ++ R)).length := by simp only [List.length_append]; omega
  by_cases h1 : k < P.length
  · rw [wr_out (Or.inl h1), h k hk', List.getElem_append_left h1, List.getElem_append_left h1]
  · by_cases h2 : k - P.length < Y.length
    · rw [wr_in (by omega) h2, List.getElem_append_right (by omega), List.getElem_append_left h2]
    · rw [wr_out (Or.inr (by omega)), h k hk', List.getElem_append_right (by omega), List.getElem_append_right (by omega), List.getElem_append_right (by omega), List.getElem_append_right (by omega)]
      simp only [hl]
theorem X_ownRuns {n0 : Nat} {la : Nat → Nat → Int64} {L : List Int32} {rc rv : Nat → Int32} {rb : Nat → Nat → Int32} (hn : n0 ≤ 200) (h : XOut rc rv rb 3 L) : ∃ rc' rv' rb', p_X2_pushOwnRuns (nI n0) rc rv rb la = some (rc', rv', rb') ∧ XOut rc' rv' rb' 3 (L ++ (litB (lN (runsB (la 0) 1 n0 n0 0).length) 4 ++ runsB (la 0) 1 n0 n0 0)) ∧ FrR 3 rc rv rb rc' rv' rb' := by
  obtain ⟨c0, p1, p2, p3⟩ := XOut_cnt h
  obtain ⟨a1, b1, d1, e1, g1, f1⟩ := X_lit (N := 4) (w := lN 0) (by omega) h
  obtain ⟨a2, b2, d2, e2, g2, f2⟩ := X_runs (q := 0) (w := 1) (la := la) (by omega) hn g1
  obtain ⟨c2, q1, q2, q3⟩ := XOut_cnt g2
  have h3 : rlen 3 = 12000 := rfl
  have hz := litB_len (lN 0) 4
  have hy := litB_len (lN (runsB (la 0) 1 n0 n0 0).length) 4
  unfold p_X2_pushOwnRuns
  rw [e1, bdS3, e2, bdS3]
  unfold p_X3_tellLength
  rw [p2, q2]
  by_cases hov : (L ++ litB (lN 0) 4 ++ runsB (la 0) 1 n0 n0 0).length ≤ rlen 3
  · have hc2 := q3 hov
    simp only [List.length_append] at hov hc2
    have hc0 := p3 (by omega)
    subst hc0
    obtain ⟨rb3, e3, f3, g3⟩ := X_tell_L (r := 3) (c := c2) (P := L.length) (N := (runsB (la 0) 1 n0 n0 0).length) (rc := a2) (f := d2 3) q2 q1 (by omega) (by omega) 4 fu 0 d2 (by omega) (by omega) (by rw [fu_eq]; omega) (by rw [List.take_zero, wr_nil])
    have ec : nI c2 - nI L.length - nI 4 = nI (runsB (la 0) 1 n0 n0 0).length := by
      rw [subI (by omega), subI (by omega)]
      congr 1
      omega
    refine ⟨a2, b2, rb3, ?_, ?_, ?_⟩
    · rw [ec, e3]
      rfl
    · rcases g2 with ⟨m1, m2, m3, m4⟩ | ⟨m1, -⟩
      · refine Or.inl ⟨by simp only [List.length_append]; omega, by rw [q2]; congr 1; simp only [List.length_append]; omega, m3, ?_⟩
        rw [g3]
        rw [List.append_assoc] at m4
        exact m4.mid (by omega)
      · simp only [List.length_append] at m1
        omega
    · exact fun q hq => ⟨(f1.tr f2 q hq).1, (f1.tr f2 q hq).2.1, (f3 q hq).trans (f1.tr f2 q hq).2.2⟩
  · obtain ⟨rb3, e3, f3⟩ := X_tell_any_L (r := 3) (c := c2) (P := c0) (rc := a2) (x := nI c2 - nI c0 - nI 4) q2 q1 (by omega) 4 fu 0 d2 (by omega) (by omega) (by rw [fu_eq]; omega)
    refine ⟨a2, b2, rb3, ?_, ?_, ?_⟩
    · rw [e3]
      rfl
    · rcases g2 with ⟨m1, -⟩ | ⟨m1, m2⟩
      · exact absurd m1 hov
      · refine Or.inr ⟨?_, m2⟩
        simp only [List.length_append] at m1 ⊢
        omega
    · exact fun q hq => ⟨(f1.tr f2 q hq).1, (f1.tr f2 q hq).2.1, (f3 q hq).trans (f1.tr f2 q hq).2.2⟩
end
section
/-! a page's body, as the class makes it -/
theorem th0 : nI (th none) = nI 0 := rfl
theorem th1 (q : Int64 × List Int32) : ¬ nI (th (some q)) = nI 0 := by
  show ¬ nI 1 = nI 0
  decide
abbrev TV : Type := Int64 × List Int32
def tq (pv : List AV) : List TV := pv.filterMap id
def fn (l : List Int64) : Nat → Int64 := fun j => l[j]?.getD (lN 0)
def ownB (l : List Int64) : List Int32 := litB (lN (runsB (fn l) 1 l.length l.length 0).length) 4 ++ runsB (fn l) 1 l.length l.length 0
def plB (K : Nat) (q : TV) : List Int32 := litB q.1 (if K = 1 then 8 else 4) ++ q.2
def bodyB (K code : Nat) (Q : List TV) (pls : List Int64) (w : Nat) : List Int32 :=
  if code = 0 then (if K = 3 then packB (fn (Q.map Prod.fst)) 1 ((Q.length + 7) / 8 * 8) else Q.flatMap (plB K))
  else if code = 3 then ownB (Q.map Prod.fst)
  else if code = 5 then diffB (fn (Q.map Prod.fst)) Q.length (if K = 0 then 1 else 0)
  else if code = 6 then diffB (fn (Q.map Prod.fst)) Q.length 1 ++ Q.flatMap Prod.snd
  else [b8 (nI w)] ++ runsB (fn pls) w Q.length Q.length 0
def pbodyB (K O code : Nat) (pv : List AV) (pls : List Int64) (w : Nat) : List Int32 := (if O = 1 then ownB (pv.map (fun a => lN (th a))) else []) ++ bodyB K code (tq pv) pls w
def pageB (K O code : Nat) (pv : List AV) (pls : List Int64) (w : Nat) : List Int32 := headB 0 (pbodyB K O code pv pls w).length pv.length code ++ pbodyB K O code pv pls w
theorem fn_at {l : List Int64} {j : Nat} (h : j < l.length) : fn l j = l[j] := by
  unfold fn
  rw [List.getElem?_eq_getElem h]
  rfl
abbrev CS : Type := List (Nat × TV)
def tvx : Nat → List AV → CS
  | _, [] => []
  | i, none :: t => tvx (i + 1) t
  | i, some q :: t => (i, q) :: tvx (i + 1) t
theorem tvx_app : ∀ (l m : List AV) (i : Nat), tvx i (l ++ m) = tvx i l ++ tvx (i + l.length) m := by
  intro l
  induction l with
  | nil => intro m i; simp [tvx]
  | cons a l ih =>
    intro m i
    cases a with
    | none => rw [List.cons_append, tvx, tvx, ih, List.length_cons, show i + 1 + l.length = i + (l.length + 1) by omega]
    | some q => rw [List.cons_append, tvx, tvx, ih, List.length_cons, show i + 1 + l.length = i + (l.length + 1) by omega, List.cons_append]
theorem tvx_map : ∀ (l : List AV) (i : Nat), (tvx i l).map Prod.snd = tq l := by
  intro l
  induction l with
  | nil => intro i; rfl
  | cons a l ih =>
    intro i
    cases a with
    | none => rw [tvx, ih]; simp [tq]
    | some q => rw [tvx, List.map_cons, ih]; simp [tq]
theorem tvx_len (l : List AV) (i : Nat) : (tvx i l).length = (tq l).length := by rw [← tvx_map l i, List.length_map]
theorem tq_le (l : List AV) : (tq l).length ≤ l.length := List.length_filterMap_le _ _
theorem tvx_at : ∀ (l : List AV) (i t : Nat) (h : t < (tvx i l).length), ∃ (k : Nat) (hk : k < l.length), l[k] = some (tvx i l)[t].2 ∧ (tvx i l)[t].1 = i + k := by
  intro l
  induction l with
  | nil => intro i t h; simp [tvx] at h
  | cons a l ih =>
    intro i t h
    cases a with
    | none =>
      obtain ⟨k, hk, h1, h2⟩ := ih (i + 1) t h
      exact ⟨k + 1, by simp; omega, h1, by show (tvx (i + 1) l)[t].1 = _; omega⟩
    | some q =>
      cases t with
      | zero => exact ⟨0, by simp, rfl, rfl⟩
      | succ t =>
        have h' : t < (tvx (i + 1) l).length := by simpa [tvx] using h
        obtain ⟨k, hk, h1, h2⟩ := ih (i + 1) t h'
        exact ⟨k + 1, by simp; omega, h1, by show (tvx (i + 1) l)[t].1 = _; omega⟩
def CHW (wch : Nat → Int32) (cs : CS) : Prop := ∀ (t : Nat) (h : t < cs.length), wch t = nI cs[t].1 ∧ cs[t].1 < 200
theorem CHW.snoc {wch : Nat → Int32} {cs : CS} (h : CHW wch cs) {i : Nat} (q : TV) (hi : i < 200) : CHW (up wch cs.length (nI i)) (cs ++ [(i, q)]) := by
  intro t ht
  unfold up
  by_cases e : t = cs.length
  · subst e
    rw [if_pos rfl]
    simp [hi]
  · rw [if_neg e]
    simp only [List.length_append, List.length_cons, List.length_nil] at ht
    rw [List.getElem_append_left (by omega)]
    exact h t (by omega)
theorem X_choose_L {c f0 : Nat} {xt : Nat → Nat → Int32} {xn : Nat → Nat → Int64} {xl : Nat → Nat → Int32} {pv : List AV} (hl : f0 + pv.length ≤ 200) (hv : ∀ (j : Nat) (h : j < pv.length), XV xt xn xl c (f0 + j) pv[j]) : ∀ (m n j : Nat) (wch : Nat → Int32), pv.length - j = m → j ≤ pv.length → m < n → CHW wch (tvx f0 (pv.take j)) → ∃ wch', itr3 (p_X2_chooseThere_L8 c (nI (f0 + pv.length)) xt) n (nI (f0 + j)) wch (nI (tvx f0 (pv.take j)).length) = some (wch', nI (tvx f0 pv).length) ∧ CHW wch' (tvx f0 pv) := by
  intro m
  induction m with
  | zero =>
    intro n j wch h1 h2 h3 h
    have : j = pv.length := by omega
    subst this
    cases n with
    | zero => omega
    | succ n =>
      rw [List.take_length] at h
      refine ⟨wch, ?_, h⟩
      show p_X2_chooseThere_L8 c (nI (f0 + pv.length)) xt _ (nI (f0 + pv.length)) wch _ = _
      rw [p_X2_chooseThere_L8, if_neg (by rw [ltI (by omega) (by omega)]; omega), List.take_length]
  | succ m ih =>
    intro n j wch h1 h2 h3 h
    cases n with
    | zero => omega
    | succ n =>
      have hj : j < pv.length := by omega
      obtain ⟨v1, v2, v3⟩ := hv j hj
      have hlen := tvx_len (pv.take j) f0
      have hle := tq_le (pv.take j)
      rw [List.length_take] at hle
      show ∃ wch', p_X2_chooseThere_L8 c (nI (f0 + pv.length)) xt _ (nI (f0 + j)) wch _ = _ ∧ _
      rw [p_X2_chooseThere_L8, if_pos (by rw [ltI (by omega) (by omega)]; omega), X_isThere v1 (th_le _) (by omega), bdS1]
      have hsn : tvx f0 (pv.take (j + 1)) = tvx f0 (pv.take j) ++ tvx (f0 + j) [pv[j]] := by
        rw [← take_snoc hj, tvx_app, List.length_take, Nat.min_eq_left (by omega)]
      cases ha : pv[j] with
      | none =>
        rw [ha] at hsn
        simp only [tvx, List.append_nil] at hsn
        rw [if_pos th0, addI]
        obtain ⟨wch', e1, g1⟩ := ih n (j + 1) wch (by omega) (by omega) (by omega) (by rw [hsn]; exact h)
        rw [hsn] at e1
        exact ⟨wch', e1, g1⟩
      | some q =>
        rw [ha] at hsn
        simp only [tvx] at hsn
        obtain ⟨wch', e1, g1⟩ := ih n (j + 1) _ (by omega) (by omega) (by omega) (by rw [hsn]; exact h.snoc q (show f0 + j < 200 by omega))
        refine ⟨wch', ?_, g1⟩
        rw [if_neg (th1 q), if_neg (by rw [ltI (by omega) (by omega)]; omega), if_pos (by rw [ltI (by omega) (by omega)]; omega), inbI (by omega), gdD (by omega), ixI (by omega), addI, addI]
        rw [hsn, List.length_append] at e1
        exact e1
theorem X_choose {c f0 : Nat} {xt : Nat → Nat → Int32} {xn : Nat → Nat → Int64} {xl : Nat → Nat → Int32} {pv : List AV} {wch : Nat → Int32} {wcc : Int32} (hl : f0 + pv.length ≤ 200) (hv : ∀ (j : Nat) (h : j < pv.length), XV xt xn xl c (f0 + j) pv[j]) : ∃ wch', p_X2_chooseThere c (nI f0) (nI (f0 + pv.length)) xt wch wcc = some (wch', nI (tvx f0 pv).length) ∧ CHW wch' (tvx f0 pv) := by
  unfold p_X2_chooseThere
  exact X_choose_L hl hv pv.length fu 0 wch (by omega) (by omega) (by rw [fu_eq]; omega) (fun t ht => by simp [tvx] at ht)
/-- the rows of what was chosen -/
def CHV (xn : Nat → Nat → Int64) (xl : Nat → Nat → Int32) (c : Nat) (cs : CS) : Prop := ∀ (t : Nat) (h : t < cs.length), xn c cs[t].1 = cs[t].2.1 ∧ ∀ (k : Nat) (hk : k < cs[t].2.2.length), xl c (cs[t].1 * 40 + k) = cs[t].2.2[k]
theorem CHV_tvx {c f0 : Nat} {xt : Nat → Nat → Int32} {xn : Nat → Nat → Int64} {xl : Nat → Nat → Int32} {pv : List AV} (hv : ∀ (j : Nat) (h : j < pv.length), XV xt xn xl c (f0 + j) pv[j]) : CHV xn xl c (tvx f0 pv) := by
  intro t ht
  obtain ⟨k, hk, h1, h2⟩ := tvx_at pv f0 t ht
  obtain ⟨v1, v2, v3⟩ := hv k hk
  rw [h1] at v2 v3
  rw [h2]
  exact ⟨v2, v3⟩
theorem X_gather_L {c : Nat} {xn : Nat → Nat → Int64} {wch : Nat → Int32} {cs : CS} (hc : cs.length ≤ 200) (hw : CHW wch cs) : ∀ (m n t : Nat) (la : Nat → Nat → Int64), cs.length - t = m → t ≤ cs.length → m < n → (∀ (j : Nat) (h : j < cs.length), j < t → la 0 j = xn c cs[j].1) → ∃ la', itr2 (p_X2_gatherNumbers_L2 c xn wch (nI cs.length)) n (nI t) la = some la' ∧ ∀ (j : Nat) (h : j < cs.length), la' 0 j = xn c cs[j].1 := by
  intro m
  induction m with
  | zero =>
    intro n t la h1 h2 h3 h
    cases n with
    | zero => omega
    | succ n =>
      refine ⟨la, ?_, fun j hj => h j hj (by omega)⟩
      show p_X2_gatherNumbers_L2 c xn wch (nI cs.length) _ (nI t) la = _
      rw [p_X2_gatherNumbers_L2, if_neg (by rw [ltI (by omega) (by omega)]; omega)]
  | succ m ih =>
    intro n t la h1 h2 h3 h
    cases n with
    | zero => omega
    | succ n =>
      have ht : t < cs.length := by omega
      obtain ⟨w1, w2⟩ := hw t ht
      obtain ⟨la', e1, g1⟩ := ih n (t + 1) (up la 0 (up (la 0) t (xn c cs[t].1))) (by omega) (by omega) (by omega) (fun j hj hjt => by
        rw [up_s]
        unfold up
        by_cases e : j = t
        · subst e; rw [if_pos rfl]
        · rw [if_neg e, h j hj (by omega)])
      refine ⟨la', ?_, g1⟩
      show p_X2_gatherNumbers_L2 c xn wch (nI cs.length) _ (nI t) la = _
      rw [p_X2_gatherNumbers_L2, if_pos (by rw [ltI (by omega) (by omega)]; omega), if_pos (by rw [ltI (by omega) (by omega)]; omega), if_pos (by rw [ltI (by omega) (by omega)]; omega), inbI (by omega), gdD (by omega), ixI (by omega), w1, X_numberAt w2, bdS1, gdD (by omega), addI]
      exact e1
theorem X_gather {c : Nat} {xn : Nat → Nat → Int64} {xl : Nat → Nat → Int32} {wch : Nat → Int32} {cs : CS} {la : Nat → Nat → Int64} (hc : cs.length ≤ 200) (hw : CHW wch cs) (hv : CHV xn xl c cs) : ∃ la', p_X2_gatherNumbers c xn la wch (nI cs.length) = some la' ∧ ∀ j, j < cs.length → la' 0 j = fn ((cs.map Prod.snd).map Prod.fst) j := by
  obtain ⟨la', e1, g1⟩ := X_gather_L hc hw cs.length fu 0 la (by omega) (by omega) (by rw [fu_eq]; omega) (fun j _ h => by omega)
  refine ⟨la', e1, fun j hj => ?_⟩
  rw [g1 j hj, fn_at (by simpa using hj), (hv j hj).1]
  simp
theorem X_levels_L {c f0 : Nat} {xt : Nat → Nat → Int32} {xn : Nat → Nat → Int64} {xl : Nat → Nat → Int32} {pv : List AV} (hl : f0 + pv.length ≤ 200) (hv : ∀ (j : Nat) (h : j < pv.length), XV xt xn xl c (f0 + j) pv[j]) : ∀ (m n j : Nat) (la : Nat → Nat → Int64), pv.length - j = m → j ≤ pv.length → m < n → (∀ (i : Nat) (h : i < pv.length), i < j → la 0 i = lN (th pv[i])) → ∃ la', itr2 (p_X2_gatherLevels_L3 c (nI f0) (nI (f0 + pv.length)) xt) n (nI (f0 + j)) la = some la' ∧ ∀ (i : Nat) (h : i < pv.length), la' 0 i = lN (th pv[i]) := by
  intro m
  induction m with
  | zero =>
    intro n j la h1 h2 h3 h
    cases n with
    | zero => omega
    | succ n =>
      refine ⟨la, ?_, fun i hi => h i hi (by omega)⟩
      show p_X2_gatherLevels_L3 c (nI f0) (nI (f0 + pv.length)) xt _ (nI (f0 + j)) la = _
      rw [p_X2_gatherLevels_L3, if_neg (by rw [ltI (by omega) (by omega)]; omega), if_neg (by rw [ltI (by omega) (by omega)]; omega)]
  | succ m ih =>
    intro n j la h1 h2 h3 h
    cases n with
    | zero => omega
    | succ n =>
      have hj : j < pv.length := by omega
      obtain ⟨v1, v2, v3⟩ := hv j hj
      obtain ⟨la', e1, g1⟩ := ih n (j + 1) (up la 0 (up (la 0) j (lN (th pv[j])))) (by omega) (by omega) (by omega) (fun i hi hij => by
        rw [up_s]
        unfold up
        by_cases e : i = j
        · subst e; rw [if_pos rfl]
        · rw [if_neg e, h i hi (by omega)])
      refine ⟨la', ?_, g1⟩
      show p_X2_gatherLevels_L3 c (nI f0) (nI (f0 + pv.length)) xt _ (nI (f0 + j)) la = _
      rw [p_X2_gatherLevels_L3, if_neg (by rw [ltI (by omega) (by omega)]; omega), if_pos (by rw [ltI (by omega) (by omega)]; omega), subI (by omega), Nat.add_sub_cancel_left, if_pos (by rw [ltI (by omega) (by omega)]; omega), X_isThere v1 (th_le _) (by omega), bdS1, inbI (by omega), gdD (by omega), gdD (by omega), ixI (by omega), addI]
      cases ha : pv[j] with
      | none => rw [ha] at e1; rw [if_pos th0]; exact e1
      | some q => rw [ha] at e1; rw [if_neg (th1 q)]; exact e1
theorem X_levels {c f0 : Nat} {xt : Nat → Nat → Int32} {xn : Nat → Nat → Int64} {xl : Nat → Nat → Int32} {pv : List AV} {la : Nat → Nat → Int64} (hl : f0 + pv.length ≤ 200) (hv : ∀ (j : Nat) (h : j < pv.length), XV xt xn xl c (f0 + j) pv[j]) : ∃ la', p_X2_gatherLevels c (nI f0) (nI (f0 + pv.length)) xt la = some la' ∧ ∀ i, i < pv.length → la' 0 i = fn (pv.map (fun a => lN (th a))) i := by
  obtain ⟨la', e1, g1⟩ := X_levels_L hl hv pv.length fu 0 la (by omega) (by omega) (by rw [fu_eq]; omega) (fun j _ h => by omega)
  refine ⟨la', e1, fun i hi => ?_⟩
  rw [g1 i hi, fn_at (by simpa using hi)]
  simp
theorem X_ownB {n0 : Nat} {la : Nat → Nat → Int64} {l : List Int64} {L : List Int32} {rc rv : Nat → Int32} {rb : Nat → Nat → Int32} (hn : n0 ≤ 200) (hl : l.length = n0) (hla : ∀ i, i < n0 → la 0 i = fn l i) (h : XOut rc rv rb 3 L) : ∃ rc' rv' rb', p_X2_pushOwnRuns (nI n0) rc rv rb la = some (rc', rv', rb') ∧ XOut rc' rv' rb' 3 (L ++ ownB l) ∧ FrR 3 rc rv rb rc' rv' rb' := by
  have := X_ownRuns (la := la) hn h
  rw [runsB_cong hla] at this
  unfold ownB
  rw [hl]
  exact this
theorem X_letters_L {c i : Nat} {xl : Nat → Nat → Int32} {ls L : List Int32} (hi : i < 200) (hl : ls.length ≤ 40) (hb : b8L ls) (hx : ∀ (k : Nat) (hk : k < ls.length), xl c (i * 40 + k) = ls[k]) : ∀ (m n k : Nat) (rc rv : Nat → Int32) (rb : Nat → Nat → Int32), ls.length - k = m → k ≤ ls.length → m < n → XOut rc rv rb 3 (L ++ ls.take k) → ∃ rc' rv' rb', itr4 (p_X2_pushLetters_L9 c (nI i) (lN ls.length) xl) n (nI k) rc rv rb = some (rc', rv', rb') ∧ XOut rc' rv' rb' 3 (L ++ ls) ∧ FrR 3 rc rv rb rc' rv' rb' := by
  intro m
  induction m with
  | zero =>
    intro n k rc rv rb h1 h2 h3 h
    have : k = ls.length := by omega
    subst this
    cases n with
    | zero => omega
    | succ n =>
      rw [List.take_length] at h
      refine ⟨rc, rv, rb, ?_, h, FrR.rf⟩
      show p_X2_pushLetters_L9 c (nI i) (lN ls.length) xl _ (nI ls.length) rc rv rb = _
      rw [p_X2_pushLetters_L9]
      rw [i2lI (by omega), if_neg (show ¬ lN ls.length < lN ls.length by rw [ltL (by omega) (by omega)]; omega)]
      split <;> rfl
  | succ m ih =>
    intro n k rc rv rb h1 h2 h3 h
    cases n with
    | zero => omega
    | succ n =>
      have hk : k < ls.length := by omega
      obtain ⟨a1, b1, c1, e1, g1, f1⟩ := XOut_push (ls[k] &&& nI 255) h
      rw [b8_and, hb _ (List.getElem_mem hk), List.append_assoc, take_snoc hk] at g1
      obtain ⟨a2, b2, c2, e2, g2, f2⟩ := ih n (k + 1) a1 b1 c1 (by omega) (by omega) (by omega) g1
      refine ⟨a2, b2, c2, ?_, g2, f1.tr f2⟩
      show p_X2_pushLetters_L9 c (nI i) (lN ls.length) xl _ (nI k) rc rv rb = _
      rw [p_X2_pushLetters_L9, if_pos (by rw [ltI (by omega) (by omega)]; omega), i2lI (by omega), if_pos (by rw [ltL (by omega) (by omega)]; omega), X_letterAt hi (by omega), bdS1, hx k hk, e1, bdS3, addI]
      exact e2
theorem X_letters {c i : Nat} {xn : Nat → Nat → Int64} {xl : Nat → Nat → Int32} {ls L : List Int32} {rc rv : Nat → Int32} {rb : Nat → Nat → Int32} (hi : i < 200) (hl : ls.length ≤ 40) (hb : b8L ls) (hn : xn c i = lN ls.length) (hx : ∀ (k : Nat) (hk : k < ls.length), xl c (i * 40 + k) = ls[k]) (h : XOut rc rv rb 3 L) : ∃ rc' rv' rb', p_X2_pushLetters c (nI i) xn xl rc rv rb = some (rc', rv', rb') ∧ XOut rc' rv' rb' 3 (L ++ ls) ∧ FrR 3 rc rv rb rc' rv' rb' := by
  unfold p_X2_pushLetters
  rw [X_numberAt hi, bdS1, hn]
  exact X_letters_L hi hl hb hx ls.length fu 0 rc rv rb (by omega) (by omega) (by rw [fu_eq]; omega) (by simpa using h)
/-- of the chosen, what their column's kind says -/
def TVok (K : Nat) (q : TV) : Prop := q.2.length ≤ 40 ∧ b8L q.2 ∧ if K = 2 then q.1 = lN q.2.length else q.2 = []
theorem TVok_of {K : Nat} {q : TV} (h : wfv K (some q)) : TVok K q := ⟨h.1, h.2.1, h.2.2 (by simp)⟩
theorem flatMap_snoc {α β : Type} (l : List α) (a : α) (f : α → List β) : (l ++ [a]).flatMap f = l.flatMap f ++ f a := by simp
theorem X_allLetters_L {c : Nat} {xn : Nat → Nat → Int64} {xl : Nat → Nat → Int32} {wch : Nat → Int32} {cs : CS} {L : List Int32} (hc : cs.length ≤ 200) (hw : CHW wch cs) (hv : CHV xn xl c cs) (hk : ∀ p ∈ cs, TVok 2 p.2) : ∀ (m n t : Nat) (rc rv : Nat → Int32) (rb : Nat → Nat → Int32), cs.length - t = m → t ≤ cs.length → m < n → XOut rc rv rb 3 (L ++ (cs.take t).flatMap (fun p => p.2.2)) → ∃ rc' rv' rb', itr4 (p_X2_pushAllLetters_L2 c xn xl wch (nI cs.length)) n (nI t) rc rv rb = some (rc', rv', rb') ∧ XOut rc' rv' rb' 3 (L ++ cs.flatMap (fun p => p.2.2)) ∧ FrR 3 rc rv rb rc' rv' rb' := by
  intro m
  induction m with
  | zero =>
    intro n t rc rv rb h1 h2 h3 h
    have : t = cs.length := by omega
    subst this
    cases n with
    | zero => omega
    | succ n =>
      rw [List.take_length] at h
      refine ⟨rc, rv, rb, ?_, h, FrR.rf⟩
      show p_X2_pushAllLetters_L2 c xn xl wch (nI cs.length) _ (nI cs.length) rc rv rb = _
      rw [p_X2_pushAllLetters_L2, if_neg (show ¬ nI cs.length < nI cs.length by rw [ltI (by omega) (by omega)]; omega)]
  | succ m ih =>
    intro n t rc rv rb h1 h2 h3 h
    cases n with
    | zero => omega
    | succ n =>
      have ht : t < cs.length := by omega
      obtain ⟨w1, w2⟩ := hw t ht
      obtain ⟨k1, k2, k3⟩ := hk _ (List.getElem_mem ht)
      rw [if_pos rfl] at k3
      obtain ⟨v1, v2⟩ := hv t ht
      obtain ⟨a1, b1, c1, e1, g1, f1⟩ := X_letters (xn := xn) w2 k1 k2 (v1.trans k3) v2 h
      rw [List.append_assoc, ← flatMap_snoc (cs.take t) cs[t] (fun p => p.2.2), take_snoc ht] at g1
      obtain ⟨a2, b2, c2, e2, g2, f2⟩ := ih n (t + 1) a1 b1 c1 (by omega) (by omega) (by omega) g1
      refine ⟨a2, b2, c2, ?_, g2, f1.tr f2⟩
      show p_X2_pushAllLetters_L2 c xn xl wch (nI cs.length) _ (nI t) rc rv rb = _
      rw [p_X2_pushAllLetters_L2, if_pos (by rw [ltI (by omega) (by omega)]; omega), if_pos (by rw [ltI (by omega) (by omega)]; omega), inbI (by omega), gdD (by omega), ixI (by omega), w1, e1, bdS3, addI]
      exact e2
theorem X_plain_L {c K : Nat} {xk : Nat → Int32} {xn : Nat → Nat → Int64} {xl : Nat → Nat → Int32} {wch : Nat → Int32} {cs : CS} {la : Nat → Nat → Int64} {L : List Int32} (hK : xk c = nI K) (hK3 : K ≤ 2) (hc : cs.length ≤ 200) (hw : CHW wch cs) (hv : CHV xn xl c cs) (hk : ∀ p ∈ cs, TVok K p.2) : ∀ (m n t : Nat) (rc rv : Nat → Int32) (rb : Nat → Nat → Int32), cs.length - t = m → t ≤ cs.length → m < n → XOut rc rv rb 3 (L ++ (cs.take t).flatMap (fun p => plB K p.2)) → ∃ rc' rv' rb', itr4 (p_X2_pushPlain_L43 c xk xn xl la wch (nI cs.length)) n (nI t) rc rv rb = some (rc', rv', rb', la) ∧ XOut rc' rv' rb' 3 (L ++ cs.flatMap (fun p => plB K p.2)) ∧ FrR 3 rc rv rb rc' rv' rb' := by
  intro m
  induction m with
  | zero =>
    intro n t rc rv rb h1 h2 h3 h
    have : t = cs.length := by omega
    subst this
    cases n with
    | zero => omega
    | succ n =>
      rw [List.take_length] at h
      refine ⟨rc, rv, rb, ?_, h, FrR.rf⟩
      show p_X2_pushPlain_L43 c xk xn xl la wch (nI cs.length) _ (nI cs.length) rc rv rb = _
      rw [p_X2_pushPlain_L43, if_neg (show ¬ nI cs.length < nI cs.length by rw [ltI (by omega) (by omega)]; omega)]
  | succ m ih =>
    intro n t rc rv rb h1 h2 h3 h
    cases n with
    | zero => omega
    | succ n =>
      have ht : t < cs.length := by omega
      obtain ⟨w1, w2⟩ := hw t ht
      obtain ⟨k1, k2, k3⟩ := hk _ (List.getElem_mem ht)
      obtain ⟨v1, v2⟩ := hv t ht
      show ∃ rc' rv' rb', p_X2_pushPlain_L43 c xk xn xl la wch (nI cs.length) _ (nI t) rc rv rb = _ ∧ _
      rw [p_X2_pushPlain_L43, if_pos (by rw [ltI (by omega) (by omega)]; omega), if_pos (by rw [ltI (by omega) (by omega)]; omega), inbI (by omega), gdD (by omega), ixI (by omega), w1, X_numberAt w2, bdS1, hK]
      have step : ∀ N, N ≤ 8 → N = (if K = 1 then 8 else 4) → ∃ rc' rv' rb', p_X2_pushPlain_J88 c (nI t) (xn c cs[t].1) (nI N) xk xn xl rc rv rb wch (itr4 (p_X2_pushPlain_L43 c xk xn xl la wch (nI cs.length)) n) = some (rc', rv', rb', la) ∧ XOut rc' rv' rb' 3 (L ++ cs.flatMap (fun p => plB K p.2)) ∧ FrR 3 rc rv rb rc' rv' rb' := by
        intro N hN hNe
        obtain ⟨a0, b0, c0, e0, g0, f0⟩ := X_lit (N := N) (w := xn c cs[t].1) hN h
        rw [p_X2_pushPlain_J88, e0, bdS3, hK]
        by_cases h2 : K = 2
        · subst h2
          rw [if_pos rfl] at k3
          rw [if_pos rfl, inbI (by omega), gdD (by omega), ixI (by omega), w1, addI]
          obtain ⟨a1, b1, c1, e1, g1, f1⟩ := X_letters (xn := xn) w2 k1 k2 (v1.trans k3) v2 g0
          rw [v1, hNe, List.append_assoc, List.append_assoc, show litB cs[t].2.1 (if 2 = 1 then 8 else 4) ++ cs[t].2.2 = plB 2 cs[t].2 from rfl, ← flatMap_snoc (cs.take t) cs[t] (fun p => plB 2 p.2), take_snoc ht] at g1
          obtain ⟨a2, b2, c2, e2, g2, f2⟩ := ih n (t + 1) a1 b1 c1 (by omega) (by omega) (by omega) g1
          exact ⟨a2, b2, c2, by rw [e1, bdS3]; exact e2, g2, (f0.tr f1).tr f2⟩
        · rw [if_neg h2] at k3
          have g1 : XOut a0 b0 c0 3 (L ++ (cs.take (t + 1)).flatMap (fun p => plB K p.2)) := by
            have ep : plB K cs[t].2 = litB (xn c cs[t].1) N := by
              unfold plB
              rw [k3, List.append_nil, ← hNe, ← v1]
            rw [← take_snoc ht, flatMap_snoc, ep, ← List.append_assoc]
            exact g0
          obtain ⟨a2, b2, c2, e2, g2, f2⟩ := ih n (t + 1) a0 b0 c0 (by omega) (by omega) (by omega) g1
          rw [if_neg (by rw [eqI (by omega) (by omega)]; exact h2), addI]
          exact ⟨a2, b2, c2, e2, g2, f0.tr f2⟩
      by_cases h1 : K = 1
      · rw [if_pos (by rw [h1])]
        exact step 8 (by omega) (by rw [if_pos h1])
      · rw [if_neg (by rw [eqI (by omega) (by omega)]; exact h1)]
        exact step 4 (by omega) (by rw [if_neg h1])
end
section
def Fr23 (rc rv : Nat → Int32) (rb : Nat → Nat → Int32) (rc' rv' : Nat → Int32) (rb' : Nat → Nat → Int32) : Prop := ∀ q, q ≠ 2 → q ≠ 3 → rc' q = rc q ∧ rv' q = rv q ∧ rb' q = rb q
theorem Fr23.rf {rc rv : Nat → Int32} {rb : Nat → Nat → Int32} : Fr23 rc rv rb rc rv rb := fun _ _ _ => ⟨rfl, rfl, rfl⟩
theorem Fr23.tr {rc rv rc1 rv1 rc2 rv2 : Nat → Int32} {rb rb1 rb2 : Nat → Nat → Int32} (h1 : Fr23 rc rv rb rc1 rv1 rb1) (h2 : Fr23 rc1 rv1 rb1 rc2 rv2 rb2) : Fr23 rc rv rb rc2 rv2 rb2 := fun q a b => ⟨(h2 q a b).1.trans (h1 q a b).1, (h2 q a b).2.1.trans (h1 q a b).2.1, (h2 q a b).2.2.trans (h1 q a b).2.2⟩
theorem FrR.to2 {rc rv rc' rv' : Nat → Int32} {rb rb' : Nat → Nat → Int32} (h : FrR 2 rc rv rb rc' rv' rb') : Fr23 rc rv rb rc' rv' rb' := fun q a _ => h q a
theorem FrR.to3 {rc rv rc' rv' : Nat → Int32} {rb rb' : Nat → Nat → Int32} (h : FrR 3 rc rv rb rc' rv' rb') : Fr23 rc rv rb rc' rv' rb' := fun q _ b => h q b
theorem b8L_flat {α : Type} {l : List α} {f : α → List Int32} (h : ∀ a ∈ l, b8L (f a)) : b8L (l.flatMap f) := by
  intro x hx
  obtain ⟨a, ha, h2⟩ := List.mem_flatMap.mp hx
  exact h a ha x h2
theorem b8L_own (l : List Int64) : b8L (ownB l) := (b8L_lit _ _).app (b8L_runs _ _ _ _ _)
theorem b8L_pl {K : Nat} {q : TV} (h : b8L q.2) : b8L (plB K q) := (b8L_lit _ _).app h
theorem b8L_body {K code : Nat} {Q : List TV} {pls : List Int64} {w : Nat} (h : ∀ q ∈ Q, b8L q.2) : b8L (bodyB K code Q pls w) := by
  unfold bodyB
  split
  · split
    · exact b8L_pack _ _ _
    · exact b8L_flat (fun q hq => b8L_pl (h q hq))
  · split
    · exact b8L_own _
    · split
      · exact b8L_diff _ _ _
      · split
        · exact (b8L_diff _ _ _).app (b8L_flat h)
        · exact (b8L.one _).app (b8L_runs _ _ _ _ _)
theorem b8L_pbody {K O code : Nat} {pv : List AV} {pls : List Int64} {w : Nat} (h : ∀ q ∈ tq pv, b8L q.2) : b8L (pbodyB K O code pv pls w) := by
  unfold pbodyB
  refine b8L.app ?_ (b8L_body h)
  split
  · exact b8L_own _
  · exact b8L_nil
theorem X_fin {what cnt code : Nat} {B L : List Int32} {rc rv : Nat → Int32} {rb : Nat → Nat → Int32} (h1 : what < 2 ^ 31) (h3 : cnt < 2 ^ 31) (h4 : code < 2 ^ 31) (hb : b8L B) (hB : XOut rc rv rb 3 B) (hL : XOut rc rv rb 2 L) : ∃ rc1 rv1 rb1 rc' rv' rb', p_X2_pushHead (nI what) (nI cnt) (nI code) rc rv rb = some (rc1, rv1, rb1) ∧ p_X3_append 2 3 rc1 rv1 rb1 = some (rc', rv', rb') ∧ XOut rc' rv' rb' 2 (L ++ (headB what B.length cnt code ++ B)) ∧ Fr23 rc rv rb rc' rv' rb' := by
  have e2 : rlen 2 = 12000 := rfl
  have e3 : rlen 3 = 12000 := rfl
  obtain ⟨c, c1, c2, c3⟩ := XOut_cnt hB
  obtain ⟨a1, b1, d1, q1, g1, f1⟩ := X_head (n := c) h1 (by omega) h3 h4 c2 hL
  obtain ⟨a2, b2, d2, q2, g2, f2⟩ := X_append (d := 2) (s := 3) (by omega) rfl hb (hB.of_fr f1 (by omega)) g1
  refine ⟨a1, b1, d1, a2, b2, d2, q1, q2, ?_, f1.to2.tr f2.to2⟩
  by_cases hlen : B.length ≤ rlen 3
  · rw [c3 hlen, List.append_assoc] at g2
    exact g2
  · exact XOut_over g2 (by simp only [List.length_append]; omega) (by simp only [List.length_append]; omega)
theorem X_pushPlain {c K : Nat} {xk : Nat → Int32} {xn : Nat → Nat → Int64} {xl : Nat → Nat → Int32} {wch : Nat → Int32} {cs : CS} {la : Nat → Nat → Int64} {L : List Int32} {rc rv : Nat → Int32} {rb : Nat → Nat → Int32} (hK : xk c = nI K) (hK3 : K ≤ 3) (hc : cs.length ≤ 200) (hw : CHW wch cs) (hv : CHV xn xl c cs) (hk : ∀ p ∈ cs, TVok K p.2) (h : XOut rc rv rb 3 L) : ∃ rc' rv' rb' la', p_X2_pushPlain c xk xn xl rc rv rb la wch (nI cs.length) = some (rc', rv', rb', la') ∧ XOut rc' rv' rb' 3 (L ++ bodyB K 0 (cs.map Prod.snd) [] 0) ∧ FrR 3 rc rv rb rc' rv' rb' := by
  unfold p_X2_pushPlain bodyB
  rw [hK, if_pos rfl]
  by_cases h3 : K = 3
  · obtain ⟨la', e1, g1⟩ := X_gather (la := la) hc hw hv
    obtain ⟨a1, b1, d1, e2, g2, f2⟩ := X_pack (r := 3) (q := 0) (w := 1) (i0 := 0) (cnt := (cs.length + 7) / 8 * 8) (lim := cs.length) (la := la') (g := fn ((cs.map Prod.snd).map Prod.fst)) (by omega) (by omega) (by omega) (fun j _ => by
      rw [Nat.zero_add]
      by_cases hj : j < cs.length
      · rw [if_pos hj, g1 j hj]
      · rw [if_neg hj]
        unfold fn
        rw [List.getElem?_eq_none (by simpa using hj)]
        rfl) h
    rw [if_pos (by rw [h3]), if_pos h3, e1, bdS1, X_wholeGroups (by omega), bdS1, mulI, e2, bdS3]
    exact ⟨a1, b1, d1, la', rfl, by rw [List.length_map]; exact g2, f2⟩
  · rw [if_neg (by rw [eqI (by omega) (by omega)]; exact h3), if_neg h3]
    obtain ⟨a1, b1, d1, e2, g2, f2⟩ := X_plain_L (la := la) hK (by omega) hc hw hv hk cs.length fu 0 rc rv rb (by omega) (by omega) (by rw [fu_eq]; omega) (by simpa using h)
    exact ⟨a1, b1, d1, la, e2, by rw [List.flatMap_map]; exact g2, f2⟩
theorem bl_le_of {v : Int64} {k : Nat} (h : ∀ i, k ≤ i → lb v i = false) : bl v ≤ k := by
  by_cases h0 : bl v = 0
  · omega
  · apply Nat.le_of_not_lt
    intro hlt
    have := bl_top h0
    rw [h _ (by omega)] at this
    cases this
theorem lb_lN {n : Nat} (i : Nat) (hn : n < 2 ^ 64) : lb (lN n) i = n.testBit i := by
  have e : (lN n).toBitVec = BitVec.ofNat 64 n := rfl
  unfold lb
  rw [e, BitVec.getLsbD_ofNat]
  by_cases hi : i < 64
  · simp [hi]
  · have : n.testBit i = false := Nat.testBit_lt_two_pow (Nat.lt_of_lt_of_le hn (Nat.pow_le_pow_right (by omega) (by omega)))
    simp [this]
theorem bl_lN {n k : Nat} (h : n < 2 ^ k) (hk : k ≤ 64) : bl (lN n) ≤ k := bl_le_of (fun i hi => by
  have h64 : n < 2 ^ 64 := Nat.lt_of_lt_of_le h (Nat.pow_le_pow_right (by omega) hk)
  rw [lb_lN i h64]
  exact Nat.testBit_lt_two_pow (Nat.lt_of_lt_of_le h (Nat.pow_le_pow_right (by omega) hi)))
def widD (D : Nat) : Nat := if 1 < D then bl (lN (D - 1)) else 0
theorem widD_le {D : Nat} (h : D ≤ 200) : widD D ≤ 8 := by
  unfold widD
  split
  · exact bl_lN (by omega) (by omega)
  · omega
def WP (wpl : Nat → Int32) (cs : CS) (pls : List Int64) : Prop := pls.length = cs.length ∧ ∀ (t : Nat) (h : t < cs.length), ∃ P, P < 2 ^ 31 ∧ wpl cs[t].1 = nI P ∧ fn pls t = lN P
theorem X_places_L {wch wpl : Nat → Int32} {cs : CS} {pls : List Int64} {kx : (Nat → Nat → Int64) → Option ((Nat → Int32) × (Nat → Int32) × (Nat → Nat → Int32) × (Nat → Nat → Int64))} (hc : cs.length ≤ 200) (hw : CHW wch cs) (hp : WP wpl cs pls) : ∀ (m n t : Nat) (la : Nat → Nat → Int64), cs.length - t = m → t ≤ cs.length → m < n → (∀ j, j < t → la 0 j = fn pls j) → ∃ la', itr2 (p_X2_pushPlaces_L2 wch (nI cs.length) wpl kx) n (nI t) la = kx la' ∧ ∀ j, j < cs.length → la' 0 j = fn pls j := by
  intro m
  induction m with
  | zero =>
    intro n t la h1 h2 h3 h
    cases n with
    | zero => omega
    | succ n =>
      refine ⟨la, ?_, fun j hj => h j (by omega)⟩
      show p_X2_pushPlaces_L2 wch (nI cs.length) wpl kx _ (nI t) la = _
      rw [p_X2_pushPlaces_L2, if_neg (by rw [ltI (by omega) (by omega)]; omega)]
  | succ m ih =>
    intro n t la h1 h2 h3 h
    cases n with
    | zero => omega
    | succ n =>
      have ht : t < cs.length := by omega
      obtain ⟨w1, w2⟩ := hw t ht
      obtain ⟨P, p1, p2, p3⟩ := hp.2 t ht
      obtain ⟨la', e1, g1⟩ := ih n (t + 1) (up la 0 (up (la 0) t (lN P))) (by omega) (by omega) (by omega) (fun j hjt => by
        rw [up_s]
        unfold up
        by_cases e : j = t
        · subst e; rw [if_pos rfl, p3]
        · rw [if_neg e, h j (by omega)])
      refine ⟨la', ?_, g1⟩
      show p_X2_pushPlaces_L2 wch (nI cs.length) wpl kx _ (nI t) la = _
      rw [p_X2_pushPlaces_L2, if_pos (by rw [ltI (by omega) (by omega)]; omega), if_pos (by rw [ltI (by omega) (by omega)]; omega), if_pos (by rw [ltI (by omega) (by omega)]; omega), inbI (by omega), gdD (by omega), ixI (by omega), w1, if_neg (by rw [ltI (by omega) (by omega)]; omega), if_pos (by rw [ltI (by omega) (by omega)]; omega), inbI (by omega), gdD (by omega), gdD (by omega), ixI (by omega), p2, i2lI p1, addI]
      exact e1
theorem X_pushPlaces {wch wpl : Nat → Int32} {cs : CS} {pls : List Int64} {D : Nat} {la : Nat → Nat → Int64} {L : List Int32} {rc rv : Nat → Int32} {rb : Nat → Nat → Int32} (hD : D ≤ 200) (hc : cs.length ≤ 200) (hw : CHW wch cs) (hp : WP wpl cs pls) (h : XOut rc rv rb 3 L) : ∃ rc' rv' rb' la', p_X2_pushPlaces rc rv rb la wch (nI cs.length) wpl (nI D) = some (rc', rv', rb', la') ∧ XOut rc' rv' rb' 3 (L ++ ([b8 (nI (widD D))] ++ runsB (fn pls) (widD D) cs.length cs.length 0)) ∧ FrR 3 rc rv rb rc' rv' rb' := by
  obtain ⟨la', e1, g1⟩ := X_places_L (kx := fun la_6 => p_X2_pushPlaces_J71 rc rv rb la_6 (nI cs.length) (nI D)) hc hw hp cs.length fu 0 la (by omega) (by omega) (by rw [fu_eq]; omega) (fun j h => by omega)
  have hwd := widD_le hD
  obtain ⟨a1, b1, d1, e2, g2, f2⟩ := XOut_push (nI (widD D)) h
  obtain ⟨a3, b3, d3, e3, g3, f3⟩ := X_runs (q := 0) (w := widD D) (la := la') (by omega) hc g2
  rw [runsB_cong g1] at g3
  refine ⟨a3, b3, d3, la', ?_, by simpa [List.append_assoc] using g3, f2.tr f3⟩
  unfold p_X2_pushPlaces
  refine e1.trans ?_
  rw [p_X2_pushPlaces_J71]
  have fin : p_X2_pushPlaces_J93 (nI (widD D)) rc rv rb la' (nI cs.length) = some (a3, b3, d3, la') := by
    rw [p_X2_pushPlaces_J93, e2, bdS3, e3, bdS3]
  by_cases h1 : 1 < D
  · rw [if_pos (by rw [ltI (by omega) (by omega)]; exact h1), subI (by omega), i2lI (by omega), X_bitsOf, bdS1]
    unfold widD at fin
    rw [if_pos h1] at fin
    exact fin
  · rw [if_neg (by rw [ltI (by omega) (by omega)]; exact h1)]
    unfold widD at fin
    rw [if_neg h1] at fin
    exact fin
theorem X_dataPage {c f0 K O code D : Nat} {xk xo : Nat → Int32} {xt : Nat → Nat → Int32} {xn : Nat → Nat → Int64} {xl : Nat → Nat → Int32} {pv : List AV} {pls : List Int64} {la : Nat → Nat → Int64} {wch wpl : Nat → Int32} {wcc wun : Int32} {L : List Int32} {rc rv : Nat → Int32} {rb : Nat → Nat → Int32}
    (hK : xk c = nI K) (hK3 : K ≤ 3) (hO : xo c = nI O) (hO1 : O ≤ 1) (hl : f0 + pv.length ≤ 200) (hv : ∀ (j : Nat) (h : j < pv.length), XV xt xn xl c (f0 + j) pv[j]) (hwf : ∀ a ∈ pv, wfv K a)
    (hcode : code = 0 ∨ code = 3 ∨ (code = 5 ∧ K ≠ 2) ∨ (code = 6 ∧ K = 2) ∨ (code = 8 ∧ WP wpl (tvx f0 pv) pls ∧ wun = nI D ∧ D ≤ 200)) (h : XOut rc rv rb 2 L) :
    ∃ rc' rv' rb' la' wch' wcc', p_X2_dataPage c (nI f0) (nI (f0 + pv.length)) (nI code) xk xo xt xn xl rc rv rb la wch wcc wpl wun = some (rc', rv', rb', la', wch', wcc') ∧ XOut rc' rv' rb' 2 (L ++ pageB K O code pv pls (widD D)) ∧ Fr23 rc rv rb rc' rv' rb' := by
  have hok : ∀ p ∈ tvx f0 pv, TVok K p.2 := by
    intro p hp
    obtain ⟨t, ht, e⟩ := List.getElem_of_mem hp
    obtain ⟨k, hk, h1, h2⟩ := tvx_at pv f0 t ht
    rw [← e]
    exact TVok_of (by rw [← h1]; exact hwf _ (List.getElem_mem hk))
  have hlen := tvx_len pv f0
  have hle := tq_le pv
  have hmap := tvx_map pv f0
  have hbq : ∀ q ∈ tq pv, b8L q.2 := by
    intro q hq
    rw [← hmap] at hq
    obtain ⟨p, hp, e⟩ := List.mem_map.mp hq
    rw [← e]
    exact (hok p hp).2.1
  have hcv := CHV_tvx hv
  -- from the body's levels on
  have rest : ∀ (rc1 rv1 : Nat → Int32) (rb1 : Nat → Nat → Int32) (la1 : Nat → Nat → Int64) (lev : List Int32), lev = (if O = 1 then ownB (pv.map (fun a => lN (th a))) else []) → XOut rc1 rv1 rb1 3 lev → XOut rc1 rv1 rb1 2 L → ∃ rc' rv' rb' la' wch' wcc', p_X2_dataPage_J28 c (nI f0) (nI (f0 + pv.length)) (nI code) xk xt xn xl rc1 rv1 rb1 la1 wch wcc wpl wun = some (rc', rv', rb', la', wch', wcc') ∧ XOut rc' rv' rb' 2 (L ++ pageB K O code pv pls (widD D)) ∧ Fr23 rc1 rv1 rb1 rc' rv' rb' := by
    intro rc1 rv1 rb1 la1 lev hlev h3 h2
    obtain ⟨wch', ew, gw⟩ := X_choose (wch := wch) (wcc := wcc) hl hv
    have fin : ∀ (rc2 rv2 : Nat → Int32) (rb2 : Nat → Nat → Int32) (la2 : Nat → Nat → Int64), XOut rc2 rv2 rb2 3 (lev ++ bodyB K code (tq pv) pls (widD D)) → FrR 3 rc1 rv1 rb1 rc2 rv2 rb2 → ∃ rc' rv' rb' la' wch'' wcc', p_X2_dataPage_J172 (nI f0) (nI (f0 + pv.length)) (nI code) rc2 rv2 rb2 la2 wch' (nI (tvx f0 pv).length) = some (rc', rv', rb', la', wch'', wcc') ∧ XOut rc' rv' rb' 2 (L ++ pageB K O code pv pls (widD D)) ∧ Fr23 rc1 rv1 rb1 rc' rv' rb' := by
      intro rc2 rv2 rb2 la2 g3 f3
      have hB : lev ++ bodyB K code (tq pv) pls (widD D) = pbodyB K O code pv pls (widD D) := by rw [hlev]; rfl
      rw [hB] at g3
      obtain ⟨a1, b1, d1, a2, b2, d2, q1, q2, g4, f4⟩ := X_fin (what := 0) (cnt := pv.length) (code := code) (by omega) (by omega) (by omega) (b8L_pbody hbq) g3 (h2.of_fr f3 (by omega))
      refine ⟨a2, b2, d2, la2, wch', nI (tvx f0 pv).length, ?_, g4, f3.to3.tr f4⟩
      rw [p_X2_dataPage_J172, subI (by omega), Nat.add_sub_cancel_left, q1, bdS3, q2, bdS3]
    rw [p_X2_dataPage_J28, ew, bdS2]
    rcases hcode with e | e | ⟨e, hk2⟩ | ⟨e, hk2⟩ | ⟨e, hwp, rfl, hD⟩ <;> subst e
    · obtain ⟨a1, b1, d1, la2, q1, g1, f1⟩ := X_pushPlain (la := la1) hK hK3 (by omega) gw hcv hok h3
      rw [if_pos rfl, q1, bdS4]
      rw [hmap] at g1
      exact fin a1 b1 d1 la2 (by unfold bodyB at g1 ⊢; simpa using g1) f1
    · obtain ⟨la2, q0, g0⟩ := X_gather (la := la1) (by omega) gw hcv
      rw [hmap] at g0
      obtain ⟨a1, b1, d1, q1, g1, f1⟩ := X_ownB (n0 := (tvx f0 pv).length) (la := la2) (l := (tq pv).map Prod.fst) (by omega) (by rw [List.length_map, hlen]) g0 h3
      rw [if_neg (by decide), if_neg (by decide), if_neg (by decide), if_pos rfl, q0, bdS1, q1, bdS3]
      exact fin a1 b1 d1 la2 (by unfold bodyB; simpa using g1) f1
    · obtain ⟨la2, q0, g0⟩ := X_gather (la := la1) (by omega) gw hcv
      rw [hmap] at g0
      rw [if_neg (by decide), if_neg (by decide), if_neg (by decide), if_neg (by decide), if_neg (by decide), if_pos rfl, q0, bdS1, hK]
      by_cases h0 : K = 0
      · obtain ⟨a1, b1, d1, la3, q1, g1, f1⟩ := X_diff (r := 3) (q := 0) (n0 := (tvx f0 pv).length) (ints := 1) (la := la2) (by omega) (by omega) h3
        rw [diffB_cong g0] at g1
        rw [if_pos (by rw [h0]), p_X2_dataPage_J117, q1, bdS4]
        exact fin a1 b1 d1 la3 (by unfold bodyB; rw [if_neg (by omega), if_neg (by omega), if_pos rfl, if_pos h0, ← hlen]; exact g1) f1
      · obtain ⟨a1, b1, d1, la3, q1, g1, f1⟩ := X_diff (r := 3) (q := 0) (n0 := (tvx f0 pv).length) (ints := 0) (la := la2) (by omega) (by omega) h3
        rw [diffB_cong g0] at g1
        rw [if_neg (by rw [eqI (by omega) (by omega)]; exact h0), p_X2_dataPage_J117, q1, bdS4]
        exact fin a1 b1 d1 la3 (by unfold bodyB; rw [if_neg (by omega), if_neg (by omega), if_pos rfl, if_neg h0, ← hlen]; exact g1) f1
    · obtain ⟨la2, q0, g0⟩ := X_gather (la := la1) (by omega) gw hcv
      rw [hmap] at g0
      obtain ⟨a1, b1, d1, la3, q1, g1, f1⟩ := X_diff (r := 3) (q := 0) (n0 := (tvx f0 pv).length) (ints := 1) (la := la2) (by omega) (by omega) h3
      rw [diffB_cong g0] at g1
      rw [hk2] at hok
      obtain ⟨a2, b2, d2, q2, g2, f2⟩ := X_allLetters_L (c := c) (xn := xn) (xl := xl) (wch := wch') (cs := tvx f0 pv) (by omega) gw hcv hok (tvx f0 pv).length fu 0 a1 b1 d1 (by omega) (by omega) (by rw [fu_eq]; omega) (by simpa using g1)
      rw [if_neg (by decide), if_neg (by decide), if_neg (by decide), if_neg (by decide), if_neg (by decide), if_neg (by decide), if_pos rfl, q0, bdS1, q1, bdS4]
      have e6 : p_X2_pushAllLetters c xn xl a1 b1 d1 wch' (nI (tvx f0 pv).length) = some (a2, b2, d2) := q2
      rw [e6, bdS3]
      refine fin a2 b2 d2 la3 ?_ (f1.tr f2)
      unfold bodyB
      rw [if_neg (by omega), if_neg (by omega), if_neg (by omega), if_pos rfl, ← List.append_assoc]
      have ef : (tvx f0 pv).flatMap (fun p => p.2.2) = (tq pv).flatMap Prod.snd := by rw [← hmap, List.flatMap_map]
      rw [ef, hlen] at g2
      exact g2
    · obtain ⟨a1, b1, d1, la2, q1, g1, f1⟩ := X_pushPlaces (la := la1) hD (by omega) gw hwp h3
      rw [if_neg (by decide), if_neg (by decide), if_neg (by decide), if_neg (by decide), if_neg (by decide), if_neg (by decide), if_neg (by decide), q1, bdS4]
      exact fin a1 b1 d1 la2 (by unfold bodyB; rw [if_neg (by omega), if_neg (by omega), if_neg (by omega), if_neg (by omega), ← hlen]; exact g1) f1
  obtain ⟨rc1, rv1, e1, g1, f1⟩ := X_clear (r := 3) (rc := rc) (rv := rv) (rb := rb)
  unfold p_X2_dataPage
  rw [e1, bdS2, hO]
  by_cases hO0 : O = 0
  · rw [if_pos (by rw [hO0])]
    obtain ⟨a1, b1, d1, la2, w2, c2, q1, g2, f2⟩ := rest rc1 rv1 rb la [] (by rw [if_neg (by omega)]) g1 (h.of_fr f1 (by omega))
    exact ⟨a1, b1, d1, la2, w2, c2, q1, g2, f1.to3.tr f2⟩
  · obtain ⟨la1, q0, g0⟩ := X_levels (la := la) hl hv
    obtain ⟨a1, b1, d1, q1, g2, f2⟩ := X_ownB (n0 := pv.length) (la := la1) (l := pv.map (fun a => lN (th a))) (by omega) (by rw [List.length_map]) g0 g1
    rw [if_neg (by rw [eqI (by omega) (by omega)]; exact hO0), q0, bdS1, subI (by omega), Nat.add_sub_cancel_left, q1, bdS3]
    obtain ⟨a3, b3, d3, la3, w3, c3, q3, g3, f3⟩ := rest a1 b1 d1 la1 (ownB (pv.map (fun a => lN (th a)))) (by rw [if_pos (show O = 1 by omega)]) (by simpa using g2) ((h.of_fr f1 (by omega)).of_fr f2 (by omega))
    exact ⟨a3, b3, d3, la3, w3, c3, q3, g3, (f1.to3.tr f2.to3).tr f3⟩
end
section
/-! values that are alike; unlike values in the order in which they come first -/
theorem and255_inj {x y : Int32} (hx : b8 x = x) (hy : b8 y = y) (h : x &&& nI 255 = y &&& nI 255) : x = y := by
  rw [← hx, ← hy, ← b8_and x, ← b8_and y, h]
theorem drop_cons {α : Type} {l : List α} {k : Nat} (h : k < l.length) : l.drop k = l[k] :: l.drop (k + 1) := List.drop_eq_getElem_cons h
theorem X_same_L {c i c2 j : Nat} {xl : Nat → Nat → Int32} {la lb : List Int32} (hi : i < 200) (hj : j < 200) (hla : la.length ≤ 40) (hlen : lb.length = la.length) (ha : b8L la) (hb : b8L lb) (xa : ∀ (k : Nat) (h : k < la.length), xl c (i * 40 + k) = la[k]) (xb : ∀ (k : Nat) (h : k < lb.length), xl c2 (j * 40 + k) = lb[k]) : ∀ (m n k : Nat), la.length - k = m → k ≤ la.length → m < n → itr1 (p_X0_isSame_L49 c (nI i) c2 (nI j) (lN la.length) xl) n (nI k) = some (nI (if la.drop k = lb.drop k then 1 else 0)) := by
  intro m
  induction m with
  | zero =>
    intro n k h1 h2 h3
    have : k = la.length := by omega
    subst this
    cases n with
    | zero => omega
    | succ n =>
      show p_X0_isSame_L49 c (nI i) c2 (nI j) (lN la.length) xl _ (nI la.length) = _
      rw [p_X0_isSame_L49, i2lI (by omega), if_neg (show ¬ lN la.length < lN la.length by rw [ltL (by omega) (by omega)]; omega)]
      have e1 : la.drop la.length = [] := List.drop_length
      have e2 : lb.drop la.length = [] := by rw [← hlen]; exact List.drop_length
      rw [e1, e2, if_pos (rfl : ([] : List Int32) = [])]
      split <;> rfl
  | succ m ih =>
    intro n k h1 h2 h3
    cases n with
    | zero => omega
    | succ n =>
      have ka : k < la.length := by omega
      have kb : k < lb.length := by omega
      show p_X0_isSame_L49 c (nI i) c2 (nI j) (lN la.length) xl _ (nI k) = _
      rw [p_X0_isSame_L49, if_pos (by rw [ltI (by omega) (by omega)]; omega), i2lI (by omega), if_pos (by rw [ltL (by omega) (by omega)]; omega), X_letterAt hi (by omega), bdS1, X_letterAt hj (by omega), bdS1, xa k ka, xb k kb, drop_cons ka, drop_cons kb]
      by_cases e : la[k] = lb[k]
      · rw [if_pos (by rw [e]), addI, ih n (k + 1) (by omega) (by omega) (by omega)]
        by_cases e2 : la.drop (k + 1) = lb.drop (k + 1)
        · rw [if_pos e2, if_pos (by rw [e, e2])]
        · rw [if_neg e2, if_neg (fun q => e2 (List.cons.inj q).2)]
      · rw [if_neg (fun q => e (and255_inj (ha _ (List.getElem_mem ka)) (hb _ (List.getElem_mem kb)) q)), if_neg (fun q => e (List.cons.inj q).1)]
theorem av_eq {a b : AV} (h1 : th a = th b) (h2 : nu a = nu b) (h3 : le a = le b) : a = b := by
  cases a with
  | none =>
    cases b with
    | none => rfl
    | some q => simp [th] at h1
  | some p =>
    cases b with
    | none => simp [th] at h1
    | some q =>
      obtain ⟨p1, p2⟩ := p
      obtain ⟨q1, q2⟩ := q
      simp only [nu, le] at h2 h3
      rw [h2, h3]
theorem X_isSame {c i c2 j K : Nat} {xk : Nat → Int32} {xt : Nat → Nat → Int32} {xn : Nat → Nat → Int64} {xl : Nat → Nat → Int32} {a b : AV} (hi : i < 200) (hj : j < 200) (hK : xk c = nI K) (hK3 : K ≤ 3) (ha : XV xt xn xl c i a) (hb : XV xt xn xl c2 j b) (wa : wfv K a) (wb : wfv K b) : p_X0_isSame c (nI i) c2 (nI j) xk xt xn xl = some (nI (if a = b then 1 else 0)) := by
  have ta := th_le a
  have tb := th_le b
  unfold p_X0_isSame
  rw [X_isThere ha.1 ta hi, bdS1, X_isThere hb.1 tb hj, bdS1]
  by_cases h1 : th a = th b
  · rw [if_pos (by rw [h1]), X_numberAt hi, bdS1, X_numberAt hj, bdS1, ha.2.1, hb.2.1]
    by_cases h2 : nu a = nu b
    · rw [if_pos h2, hK]
      by_cases hk : K = 2
      · subst hk
        have na := wfv_num wa
        have nb := wfv_num wb
        have hl : (le b).length = (le a).length := by
          have e : lN (le a).length = lN (le b).length := by rw [← na, ← nb, h2]
          have l1 := wa.1
          have l2 := wb.1
          rw [eqL (by omega) (by omega)] at e
          exact e.symm
        have l1 := wa.1
        rw [if_pos rfl, bdS1, na, X_same_L hi hj wa.1 hl wa.2.1 wb.2.1 ha.2.2 hb.2.2 (le a).length fu 0 (by omega) (by omega) (by rw [fu_eq]; omega)]
        rw [List.drop_zero, List.drop_zero]
        by_cases h3 : le a = le b
        · rw [if_pos h3, if_pos (av_eq h1 h2 h3)]
        · rw [if_neg h3, if_neg (fun q => h3 (by rw [q]))]
      · rw [if_neg (by rw [eqI (by omega) (by omega)]; exact hk), if_pos (av_eq h1 h2 (by rw [wfv_no wa hk, wfv_no wb hk]))]
    · rw [if_neg h2, if_neg (fun q => h2 (by rw [q]))]
  · rw [if_neg (by rw [eqI (by omega) (by omega)]; exact h1), if_neg (fun q => h1 (by rw [q]))]
theorem if1 {p : Prop} {dec : Decidable p} : (nI (@ite Nat p dec 1 0) = nI 0) = ¬ p := by
  by_cases h : p
  · rw [if_pos h]
    exact propext ⟨fun e => absurd e (by decide), fun e => absurd h e⟩
  · rw [if_neg h]
    exact propext ⟨fun _ => h, fun _ => rfl⟩
theorem X_first_L {c i K : Nat} {xk : Nat → Int32} {xt : Nat → Nat → Int32} {xn : Nat → Nat → Int64} {xl : Nat → Nat → Int32} {vals : List AV} (hl : vals.length ≤ 200) (hi : i < vals.length) (hK : xk c = nI K) (hK3 : K ≤ 3) (hv : ∀ (j : Nat) (h : j < vals.length), XV xt xn xl c j vals[j]) (hw : ∀ a ∈ vals, wfv K a) : ∀ (m n k : Nat), i - k = m → k ≤ i → m < n → (∀ (t : Nat) (h : t < vals.length), t < k → vals[t] ≠ vals[i]) → ∃ (j : Nat) (hj : j < vals.length), itr1 (p_X0_firstLike_L2 c (nI i) xk xt xn xl) n (nI k) = some (nI j) ∧ j ≤ i ∧ vals[j] = vals[i] ∧ ∀ (t : Nat) (h : t < vals.length), t < j → vals[t] ≠ vals[i] := by
  intro m
  induction m with
  | zero =>
    intro n k h1 h2 h3 h
    have : k = i := by omega
    subst this
    cases n with
    | zero => omega
    | succ n =>
      refine ⟨k, hi, ?_, Nat.le_refl _, rfl, h⟩
      show p_X0_firstLike_L2 c (nI k) xk xt xn xl _ (nI k) = _
      rw [p_X0_firstLike_L2, if_neg (by rw [ltI (by omega) (by omega)]; omega)]
  | succ m ih =>
    intro n k h1 h2 h3 h
    cases n with
    | zero => omega
    | succ n =>
      have hk : k < vals.length := by omega
      show ∃ (j : Nat) (hj : j < vals.length), p_X0_firstLike_L2 c (nI i) xk xt xn xl _ (nI k) = _ ∧ _
      rw [p_X0_firstLike_L2, if_pos (by rw [ltI (by omega) (by omega)]; omega), X_isSame (by omega) (by omega) hK hK3 (hv k hk) (hv i hi) (hw _ (List.getElem_mem hk)) (hw _ (List.getElem_mem hi)), bdS1]
      by_cases e : vals[k] = vals[i]
      · rw [if_neg (by rw [if1]; exact fun q => q e)]
        exact ⟨k, hk, rfl, h2, e, h⟩
      · rw [if_pos (by rw [if1]; exact e), addI]
        exact ih n (k + 1) (by omega) (by omega) (by omega) (fun t ht htk => by
          by_cases et : t = k
          · subst et; exact e
          · exact h t ht (by omega))
theorem X_first {c i K : Nat} {xk : Nat → Int32} {xt : Nat → Nat → Int32} {xn : Nat → Nat → Int64} {xl : Nat → Nat → Int32} {vals : List AV} (hl : vals.length ≤ 200) (hi : i < vals.length) (hK : xk c = nI K) (hK3 : K ≤ 3) (hv : ∀ (j : Nat) (h : j < vals.length), XV xt xn xl c j vals[j]) (hw : ∀ a ∈ vals, wfv K a) : ∃ (j : Nat) (hj : j < vals.length), p_X0_firstLike c (nI i) xk xt xn xl = some (nI j) ∧ j ≤ i ∧ vals[j] = vals[i] ∧ ∀ (t : Nat) (h : t < vals.length), t < j → vals[t] ≠ vals[i] := by
  unfold p_X0_firstLike
  exact X_first_L hl hi hK hK3 hv hw i fu 0 (by omega) (by omega) (by rw [fu_eq]; omega) (fun t _ h => by omega)
def dstp (D : List TV) (q : TV) : List TV := if q ∈ D then D else D ++ [q]
def DL (l : List TV) : List TV := l.foldl dstp []
theorem DL_snoc (l : List TV) (q : TV) : DL (l ++ [q]) = dstp (DL l) q := by
  unfold DL
  rw [List.foldl_append]
  rfl
theorem DL_mem (l : List TV) : ∀ q, q ∈ DL l ↔ q ∈ l := by
  have key : ∀ (l D : List TV) (q : TV), q ∈ l.foldl dstp D ↔ q ∈ D ∨ q ∈ l := by
    intro l
    induction l with
    | nil => intro D q; simp
    | cons a l ih =>
      intro D q
      rw [List.foldl_cons, ih, List.mem_cons]
      unfold dstp
      split
      · next h =>
        constructor
        · rintro (h1 | h1)
          · exact Or.inl h1
          · exact Or.inr (Or.inr h1)
        · rintro (h1 | rfl | h1)
          · exact Or.inl h1
          · exact Or.inl h
          · exact Or.inr h1
      · rw [List.mem_append, List.mem_singleton]
        constructor
        · rintro ((h1 | h1) | h1)
          · exact Or.inl h1
          · exact Or.inr (Or.inl h1)
          · exact Or.inr (Or.inr h1)
        · rintro (h1 | h1 | h1)
          · exact Or.inl (Or.inl h1)
          · exact Or.inl (Or.inr h1)
          · exact Or.inr h1
  intro q
  unfold DL
  rw [key]
  simp
theorem DL_len (l : List TV) : (DL l).length ≤ l.length := by
  have key : ∀ (l D : List TV), (l.foldl dstp D).length ≤ D.length + l.length := by
    intro l
    induction l with
    | nil => intro D; simp
    | cons a l ih =>
      intro D
      rw [List.foldl_cons, List.length_cons]
      have h := ih (dstp D a)
      have h2 : (dstp D a).length ≤ D.length + 1 := by
        unfold dstp
        split
        · omega
        · simp
      omega
  have := key l []
  simpa [DL] using this
theorem DL_pre (l m : List TV) : ∃ e, DL (l ++ m) = DL l ++ e := by
  have key : ∀ (m D : List TV), ∃ e, m.foldl dstp D = D ++ e := by
    intro m
    induction m with
    | nil => intro D; exact ⟨[], by simp⟩
    | cons a m ih =>
      intro D
      rw [List.foldl_cons]
      obtain ⟨e, he⟩ := ih (dstp D a)
      rw [he]
      unfold dstp
      split
      · exact ⟨e, rfl⟩
      · exact ⟨[a] ++ e, by rw [List.append_assoc]⟩
  unfold DL
  rw [List.foldl_append]
  exact key m _
theorem idx_pre {D e : List TV} {q : TV} (h : q ∈ D) : (D ++ e).idxOf q = D.idxOf q := by
  rw [List.idxOf_append, if_pos h]
theorem idx_lt {D : List TV} {q : TV} (h : q ∈ D) : D.idxOf q < D.length := List.idxOf_lt_length_of_mem h
theorem tq_snoc_none (l : List AV) : tq (l ++ [none]) = tq l := by simp [tq]
theorem tq_snoc_some (l : List AV) (q : TV) : tq (l ++ [some q]) = tq l ++ [q] := by simp [tq]
theorem tq_mem {l : List AV} {q : TV} : q ∈ tq l ↔ some q ∈ l := by simp [tq]
theorem mem_take {α : Type} {l : List α} {a : α} {i : Nat} : a ∈ l.take i ↔ ∃ (j : Nat) (h : j < l.length), j < i ∧ l[j] = a := by
  constructor
  · intro h
    obtain ⟨j, hj, e⟩ := List.getElem_of_mem h
    rw [List.length_take] at hj
    rw [List.getElem_take] at e
    exact ⟨j, by omega, by omega, e⟩
  · rintro ⟨j, h, hi, rfl⟩
    have : j < (l.take i).length := by rw [List.length_take]; omega
    have e : (l.take i)[j] = l[j] := List.getElem_take
    rw [← e]
    exact List.getElem_mem this
def PLC (wpl : Nat → Int32) (vals : List AV) (D : List TV) (i : Nat) : Prop := ∀ (t : Nat) (h : t < vals.length), t < i → ∀ q, vals[t] = some q → wpl t = nI (D.idxOf q)
theorem X_unlike_L {c K : Nat} {xk xc : Nat → Int32} {xt : Nat → Nat → Int32} {xn : Nat → Nat → Int64} {xl : Nat → Nat → Int32} {vals : List AV} (hl : vals.length ≤ 200) (hc : xc c = nI vals.length) (hK : xk c = nI K) (hK3 : K ≤ 3) (hv : ∀ (j : Nat) (h : j < vals.length), XV xt xn xl c j vals[j]) (hw : ∀ a ∈ vals, wfv K a) : ∀ (m n i : Nat) (wch wpl : Nat → Int32) (cs : CS), vals.length - i = m → i ≤ vals.length → m < n → cs.map Prod.snd = DL (tq (vals.take i)) → CHW wch cs → CHV xn xl c cs → PLC wpl vals (DL (tq (vals.take i))) i → ∃ wch' wpl' cs', itr4 (p_X2_chooseUnlike_L7 c xk xc xt xn xl) n (nI i) wch (nI cs.length) wpl = some (wch', nI cs'.length, wpl', nI cs'.length) ∧ cs'.map Prod.snd = DL (tq vals) ∧ CHW wch' cs' ∧ CHV xn xl c cs' ∧ PLC wpl' vals (DL (tq vals)) vals.length := by
  intro m
  induction m with
  | zero =>
    intro n i wch wpl cs h1 h2 h3 g1 g2 g3 g4
    have : i = vals.length := by omega
    subst this
    cases n with
    | zero => omega
    | succ n =>
      rw [List.take_length] at g1 g4
      refine ⟨wch, wpl, cs, ?_, g1, g2, g3, g4⟩
      show p_X2_chooseUnlike_L7 c xk xc xt xn xl _ (nI vals.length) wch (nI cs.length) wpl = _
      rw [p_X2_chooseUnlike_L7, hc, if_neg (show ¬ nI vals.length < nI vals.length by rw [ltI (by omega) (by omega)]; omega)]
  | succ m ih =>
    intro n i wch wpl cs h1 h2 h3 g1 g2 g3 g4
    cases n with
    | zero => omega
    | succ n =>
      have hi : i < vals.length := by omega
      have hcl : cs.length ≤ i := by
        have e : cs.length = (DL (tq (vals.take i))).length := by rw [← g1, List.length_map]
        have e1 := DL_len (tq (vals.take i))
        have e2 := tq_le (vals.take i)
        rw [List.length_take] at e2
        omega
      have htk := take_snoc hi
      show ∃ wch' wpl' cs', p_X2_chooseUnlike_L7 c xk xc xt xn xl _ (nI i) wch (nI cs.length) wpl = _ ∧ _
      rw [p_X2_chooseUnlike_L7, hc, if_pos (by rw [ltI (by omega) (by omega)]; omega), if_pos (by rw [ltI (by omega) (by omega)]; omega), inbI (by omega), gdD (by omega), ixI (by omega), X_isThere (hv i hi).1 (th_le _) (by omega), bdS1]
      cases ha : vals[i] with
      | none =>
        have eD : DL (tq (vals.take (i + 1))) = DL (tq (vals.take i)) := by rw [← htk, ha, tq_snoc_none]
        rw [if_pos th0, p_X2_chooseUnlike_J48, if_pos (by decide), p_X2_chooseUnlike_J73, if_neg (by
          intro q
          have e := congrArg Int32.toInt q
          rw [nI_toInt (by omega)] at e
          have e2 : (-1 : Int32).toInt = -1 := by decide
          omega), addI]
        exact ih n (i + 1) _ _ cs (by omega) (by omega) (by omega) (by rw [eD]; exact g1) g2 g3 (fun t ht hti q hq => by
          have hne : t ≠ i := fun e => by subst e; rw [ha] at hq; cases hq
          rw [up_n hne, eD]
          exact g4 t ht (by omega) q hq)
      | some q =>
        obtain ⟨j, hj, e1, hji, e2, e3⟩ := X_first hl hi hK hK3 hv hw
        rw [if_neg (th1 q), e1, bdS1, p_X2_chooseUnlike_J48, if_neg (by rw [ltI (by omega) (by omega)]; omega)]
        have hqm : q ∈ tq (vals.take i) ↔ j < i := by
          rw [tq_mem, mem_take]
          constructor
          · rintro ⟨t, ht, hti, e⟩
            apply Nat.lt_of_not_le
            intro hle
            have : j = i := by omega
            subst this
            exact e3 t ht hti (by rw [e, ha])
          · intro h
            exact ⟨j, hj, h, by rw [e2, ha]⟩
        have eDs : DL (tq (vals.take (i + 1))) = dstp (DL (tq (vals.take i))) q := by rw [← htk, ha, tq_snoc_some, DL_snoc]
        by_cases hlt : j < i
        · have hin : q ∈ DL (tq (vals.take i)) := (DL_mem _ _).mpr (hqm.mpr hlt)
          have eD : DL (tq (vals.take (i + 1))) = DL (tq (vals.take i)) := by rw [eDs]; unfold dstp; rw [if_pos hin]
          rw [if_pos (by rw [ltI (by omega) (by omega)]; omega), inbI (by omega), gdD (by omega), inbI (by omega), gdD (by omega), ixI (by omega), ixI (by omega), up_n (show j ≠ i by omega), up_up, addI]
          rw [g4 j hj hlt q (by rw [e2, ha])]
          exact ih n (i + 1) _ _ cs (by omega) (by omega) (by omega) (by rw [eD]; exact g1) g2 g3 (fun t ht hti q' hq' => by
            rw [eD]
            by_cases hne : t = i
            · subst hne
              rw [ha] at hq'
              cases hq'
              rw [up_s]
            · rw [up_n hne]
              exact g4 t ht (by omega) q' hq')
        · have hji2 : j = i := by omega
          subst hji2
          have hnin : q ∉ DL (tq (vals.take j)) := fun h => hlt (hqm.mp ((DL_mem _ _).mp h))
          have eD : DL (tq (vals.take (j + 1))) = DL (tq (vals.take j)) ++ [q] := by rw [eDs]; unfold dstp; rw [if_neg hnin]
          have hidx : (DL (tq (vals.take j)) ++ [q]).idxOf q = cs.length := by
            rw [List.idxOf_append, if_neg hnin, ← g1, List.length_map]
            simp
          rw [if_neg (by rw [ltI (by omega) (by omega)]; omega), p_X2_chooseUnlike_J73, if_pos rfl, if_neg (by rw [ltI (by omega) (by omega)]; omega), if_pos (by rw [ltI (by omega) (by omega)]; omega), inbI (by omega), gdD (by omega), inbI (by omega), gdD (by omega), ixI (by omega), ixI (by omega), up_up, addI, addI]
          have hcv : CHV xn xl c (cs ++ [(j, q)]) := by
            intro t ht
            by_cases htc : t < cs.length
            · have e : (cs ++ [(j, q)])[t] = cs[t] := List.getElem_append_left htc
              rw [e]
              exact g3 t htc
            · simp only [List.length_append, List.length_cons, List.length_nil] at ht
              have : t = cs.length := by omega
              subst this
              have e : (cs ++ [(j, q)])[cs.length] = (j, q) := by simp
              rw [e]
              have hvj := hv j hj
              rw [ha] at hvj
              exact ⟨hvj.2.1, hvj.2.2⟩
          have hlen1 : (cs ++ [(j, q)]).length = cs.length + 1 := by simp
          have := ih n (j + 1) (up wch cs.length (nI j)) (up wpl j (nI cs.length)) (cs ++ [(j, q)]) (by omega) (by omega) (by omega) (by rw [eD, List.map_append, g1]; rfl) (g2.snoc q (show j < 200 by omega)) hcv (fun t ht hti q' hq' => by
            rw [eD]
            by_cases hne : t = j
            · subst hne
              rw [ha] at hq'
              cases hq'
              rw [up_s, hidx]
            · rw [up_n hne, g4 t ht (by omega) q' hq', idx_pre]
              exact (DL_mem _ _).mpr (tq_mem.mpr (mem_take.mpr ⟨t, ht, by omega, hq'⟩)))
          rw [hlen1] at this
          exact this
theorem X_unlike {c K : Nat} {xk xc : Nat → Int32} {xt : Nat → Nat → Int32} {xn : Nat → Nat → Int64} {xl : Nat → Nat → Int32} {vals : List AV} {wch wpl : Nat → Int32} {wcc wun : Int32} (hl : vals.length ≤ 200) (hc : xc c = nI vals.length) (hK : xk c = nI K) (hK3 : K ≤ 3) (hv : ∀ (j : Nat) (h : j < vals.length), XV xt xn xl c j vals[j]) (hw : ∀ a ∈ vals, wfv K a) : ∃ wch' wpl' cs', p_X2_chooseUnlike c xk xc xt xn xl wch wcc wpl wun = some (wch', nI cs'.length, wpl', nI cs'.length) ∧ cs'.map Prod.snd = DL (tq vals) ∧ CHW wch' cs' ∧ CHV xn xl c cs' ∧ PLC wpl' vals (DL (tq vals)) vals.length := by
  unfold p_X2_chooseUnlike
  exact X_unlike_L hl hc hK hK3 hv hw vals.length fu 0 wch wpl [] (by omega) (by omega) (by rw [fu_eq]; omega) (by simp [DL, tq]) (fun t ht => by simp at ht) (fun t ht => by simp at ht) (fun t _ h => by omega)
end
section
/-! what is written of a column -/
def plsB (D : List TV) (pv : List AV) : List Int64 := (tq pv).map (fun t => lN (D.idxOf t))
def pagesB (K O code : Nat) (vals : List AV) (D : List TV) (q : Nat) : Nat → Nat → List Int32
  | 0, _ => []
  | f + 1, a => if a < vals.length then pageB K O code ((vals.drop a).take q) (plsB D ((vals.drop a).take q)) (widD D.length) ++ pagesB K O code vals D q f (a + q) else []
def dictB (K : Nat) (D : List TV) : List Int32 := headB 2 (bodyB K 0 D [] 0).length D.length 0 ++ bodyB K 0 D [] 0
def codeOf (K way : Nat) : Nat := if way = 0 then 0 else if way = 1 then 8 else if K = 2 then 6 else if K = 3 then 3 else 5
def writeB (K O : Nat) (vals : List AV) (way q : Nat) : List Int32 := (if way = 1 ∧ 0 < vals.length then dictB K (DL (tq vals)) else []) ++ pagesB K O (codeOf K way) vals (DL (tq vals)) q vals.length 0
theorem X_codeOf {K way : Nat} (hK : K ≤ 3) (hw : way ≤ 2) : p_X2_codeOf (nI K) (nI way) = some (nI (codeOf K way)) := by
  have h1 : K = 0 ∨ K = 1 ∨ K = 2 ∨ K = 3 := by omega
  have h2 : way = 0 ∨ way = 1 ∨ way = 2 := by omega
  rcases h1 with rfl | rfl | rfl | rfl <;> rcases h2 with rfl | rfl | rfl <;> decide
theorem pv_at {vals : List AV} {a q k : Nat} (h : k < ((vals.drop a).take q).length) : ∃ (h2 : a + k < vals.length), ((vals.drop a).take q)[k] = vals[a + k] := by
  have h' := h
  rw [List.length_take, List.length_drop] at h'
  refine ⟨by omega, ?_⟩
  rw [List.getElem_take, List.getElem_drop]
theorem pv_len {vals : List AV} {a q : Nat} : ((vals.drop a).take q).length = min q (vals.length - a) := by rw [List.length_take, List.length_drop]
theorem PLC.wp {wpl : Nat → Int32} {vals : List AV} (hl : vals.length ≤ 200) (h : PLC wpl vals (DL (tq vals)) vals.length) (a q : Nat) : WP wpl (tvx a ((vals.drop a).take q)) (plsB (DL (tq vals)) ((vals.drop a).take q)) := by
  have hlen := tvx_len ((vals.drop a).take q) a
  refine ⟨by unfold plsB; rw [List.length_map, hlen], fun t ht => ?_⟩
  obtain ⟨k, hk, h1, h2⟩ := tvx_at _ a t ht
  obtain ⟨h3, h4⟩ := pv_at hk
  have hv : vals[a + k] = some (tvx a ((vals.drop a).take q))[t].2 := by rw [← h4, h1]
  have hm : (tvx a ((vals.drop a).take q))[t].2 ∈ DL (tq vals) := (DL_mem _ _).mpr (tq_mem.mpr (by rw [← hv]; exact List.getElem_mem h3))
  have hlt := idx_lt hm
  have hD := DL_len (tq vals)
  have hq := tq_le vals
  refine ⟨(DL (tq vals)).idxOf (tvx a ((vals.drop a).take q))[t].2, by omega, ?_, ?_⟩
  · rw [h2]
    exact h (a + k) h3 h3 _ hv
  · unfold plsB
    rw [fn_at (by rw [List.length_map, ← hlen]; exact ht), List.getElem_map]
    congr 2
    have e := tvx_map ((vals.drop a).take q) a
    have : (tq ((vals.drop a).take q))[t]'(by rw [← hlen]; exact ht) = ((tvx a ((vals.drop a).take q)).map Prod.snd)[t]'(by rw [List.length_map]; exact ht) := by
      simp only [e]
    rw [this, List.getElem_map]
theorem X_pages_L {c K O way q : Nat} {xk xo xc : Nat → Int32} {xt : Nat → Nat → Int32} {xn : Nat → Nat → Int64} {xl : Nat → Nat → Int32} {vals : List AV} {wpl : Nat → Int32} {wun : Int32} (hl : vals.length ≤ 200) (hc : xc c = nI vals.length) (hK : xk c = nI K) (hK3 : K ≤ 3) (hO : xo c = nI O) (hO1 : O ≤ 1) (hv : ∀ (j : Nat) (h : j < vals.length), XV xt xn xl c j vals[j]) (hw : ∀ a ∈ vals, wfv K a) (hway : way ≤ 2) (hq : 1 ≤ q) (hq2 : q ≤ 200)
    (hp : way = 1 → PLC wpl vals (DL (tq vals)) vals.length ∧ wun = nI (DL (tq vals)).length) : ∀ (f n a : Nat) (L : List Int32) (rc rv : Nat → Int32) (rb : Nat → Nat → Int32) (la : Nat → Nat → Int64) (wch : Nat → Int32) (wcc : Int32), vals.length - a ≤ f → a ≤ 400 → f < n → XOut rc rv rb 2 L → ∃ rc' rv' rb' la' wch' wcc', itr7 (p_X2_writePages_L34 c (nI way) (nI q) xk xo xc xt xn xl wpl wun) n (nI a) rc rv rb la wch wcc = some (rc', rv', rb', la', wch', wcc', wpl, wun) ∧ XOut rc' rv' rb' 2 (L ++ pagesB K O (codeOf K way) vals (DL (tq vals)) q f a) ∧ Fr23 rc rv rb rc' rv' rb' := by
  intro f
  induction f with
  | zero =>
    intro n a L rc rv rb la wch wcc h1 h2 h3 h
    cases n with
    | zero => omega
    | succ n =>
      refine ⟨rc, rv, rb, la, wch, wcc, ?_, by simpa [pagesB] using h, Fr23.rf⟩
      show p_X2_writePages_L34 c (nI way) (nI q) xk xo xc xt xn xl wpl wun _ (nI a) rc rv rb la wch wcc = _
      rw [p_X2_writePages_L34, hc, if_neg (by rw [ltI (by omega) (by omega)]; omega)]
  | succ f ih =>
    intro n a L rc rv rb la wch wcc h1 h2 h3 h
    cases n with
    | zero => omega
    | succ n =>
      show ∃ rc' rv' rb' la' wch' wcc', p_X2_writePages_L34 c (nI way) (nI q) xk xo xc xt xn xl wpl wun _ (nI a) rc rv rb la wch wcc = _ ∧ _
      rw [p_X2_writePages_L34, hc, pagesB]
      by_cases ha : a < vals.length
      · have hpl := pv_len (vals := vals) (a := a) (q := q)
        have hlen : min (a + q) vals.length = a + ((vals.drop a).take q).length := by omega
        rw [if_pos (by rw [ltI (by omega) (by omega)]; exact ha), if_pos ha, hK, X_codeOf hK3 hway, bdS1, addI, iminI (by omega) (by omega), hlen]
        have hcode : codeOf K way = 0 ∨ codeOf K way = 3 ∨ (codeOf K way = 5 ∧ K ≠ 2) ∨ (codeOf K way = 6 ∧ K = 2) ∨ (codeOf K way = 8 ∧ WP wpl (tvx a ((vals.drop a).take q)) (plsB (DL (tq vals)) ((vals.drop a).take q)) ∧ wun = nI (DL (tq vals)).length ∧ (DL (tq vals)).length ≤ 200) := by
          unfold codeOf
          by_cases w0 : way = 0
          · rw [if_pos w0]; exact Or.inl rfl
          · rw [if_neg w0]
            by_cases w1 : way = 1
            · rw [if_pos w1]
              have hD := DL_len (tq vals)
              have hq := tq_le vals
              exact Or.inr (Or.inr (Or.inr (Or.inr ⟨rfl, (hp w1).1.wp hl a q, (hp w1).2, by omega⟩)))
            · rw [if_neg w1]
              by_cases k2 : K = 2
              · rw [if_pos k2]; exact Or.inr (Or.inr (Or.inr (Or.inl ⟨rfl, k2⟩)))
              · rw [if_neg k2]
                by_cases k3 : K = 3
                · rw [if_pos k3]; exact Or.inr (Or.inl rfl)
                · rw [if_neg k3]; exact Or.inr (Or.inr (Or.inl ⟨rfl, k2⟩))
        obtain ⟨a1, b1, d1, la1, w1, c1, e1, g1, f1⟩ := X_dataPage (c := c) (f0 := a) (K := K) (O := O) (code := codeOf K way) (D := (DL (tq vals)).length) (xk := xk) (xo := xo) (pv := (vals.drop a).take q) (pls := plsB (DL (tq vals)) ((vals.drop a).take q)) (la := la) (wch := wch) (wpl := wpl) (wcc := wcc) (wun := wun) hK hK3 hO hO1 (by omega) (fun j hj => by
            obtain ⟨h5, h6⟩ := pv_at hj
            rw [h6]
            exact hv _ h5) (fun x hx => hw x (List.mem_of_mem_drop (List.mem_of_mem_take hx))) hcode h
        rw [e1, bdS6]
        obtain ⟨a2, b2, d2, la2, w2, c2, e2, g2, f2⟩ := ih n (a + q) _ a1 b1 d1 la1 w1 c1 (by omega) (by omega) (by omega) g1
        exact ⟨a2, b2, d2, la2, w2, c2, e2, by simpa [List.append_assoc] using g2, f1.tr f2⟩
      · rw [if_neg (by rw [ltI (by omega) (by omega)]; exact ha), if_neg ha]
        exact ⟨rc, rv, rb, la, wch, wcc, rfl, by simpa using h, Fr23.rf⟩
theorem X_writePages {c K O way q : Nat} {xk xo xc : Nat → Int32} {xt : Nat → Nat → Int32} {xn : Nat → Nat → Int64} {xl : Nat → Nat → Int32} {vals : List AV} {wch wpl : Nat → Int32} {wcc wun : Int32} {la : Nat → Nat → Int64} {rc rv : Nat → Int32} {rb : Nat → Nat → Int32} (hl : vals.length ≤ 200) (hc : xc c = nI vals.length) (hK : xk c = nI K) (hK3 : K ≤ 3) (hO : xo c = nI O) (hO1 : O ≤ 1) (hv : ∀ (j : Nat) (h : j < vals.length), XV xt xn xl c j vals[j]) (hw : ∀ a ∈ vals, wfv K a) (hway : way ≤ 2) (hq : 1 ≤ q) (hq2 : q ≤ 200) (h13 : way = 1 → K ≠ 3) :
    ∃ rc' rv' rb' la' wch' wcc' wpl' wun', p_X2_writePages c (nI way) (nI q) xk xo xc xt xn xl rc rv rb la wch wcc wpl wun = some (rc', rv', rb', la', wch', wcc', wpl', wun') ∧ XOut rc' rv' rb' 2 (writeB K O vals way q) ∧ Fr23 rc rv rb rc' rv' rb' := by
  obtain ⟨rc1, rv1, e1, g1, f1⟩ := X_clear (r := 2) (rc := rc) (rv := rv) (rb := rb)
  unfold p_X2_writePages writeB
  rw [e1, bdS2, imaxI (by omega) (by omega), Nat.max_eq_left hq, hc]
  by_cases w1 : way = 1
  · rw [if_pos (by rw [w1])]
    by_cases h0 : 0 < vals.length
    · rw [if_pos (by rw [ltI (by omega) (by omega)]; exact h0), if_pos ⟨w1, h0⟩]
      obtain ⟨rc2, rv2, e2, g2, f2⟩ := X_clear (r := 3) (rc := rc1) (rv := rv1) (rb := rb)
      obtain ⟨wch3, wpl3, cs, e3, m3, c3, v3, p3⟩ := X_unlike (wch := wch) (wpl := wpl) (wcc := wcc) (wun := wun) hl hc hK hK3 hv hw
      have hcs : cs.length = (DL (tq vals)).length := by rw [← m3, List.length_map]
      have hD := DL_len (tq vals)
      have hqq := tq_le vals
      have hok : ∀ p ∈ cs, TVok K p.2 := by
        intro p hp
        have : p.2 ∈ DL (tq vals) := by rw [← m3]; exact List.mem_map.mpr ⟨p, hp, rfl⟩
        exact TVok_of (hw _ (tq_mem.mp ((DL_mem _ _).mp this)))
      obtain ⟨a4, b4, d4, la4, e4, g4, f4⟩ := X_pushPlain (la := la) hK hK3 (by omega) c3 v3 hok g2
      rw [m3, List.nil_append] at g4
      have hbD : b8L (bodyB K 0 (DL (tq vals)) [] 0) := b8L_body (fun t ht => (hw _ (tq_mem.mp ((DL_mem _ _).mp ht))).2.1)
      obtain ⟨a5, b5, d5, a6, b6, d6, e5, e6, g6, f6⟩ := X_fin (what := 2) (cnt := cs.length) (code := 0) (by omega) (by omega) (by omega) hbD g4 ((g1.of_fr f2 (by omega)).of_fr f4 (by omega))
      have edp : p_X2_dictionaryPage c xk xc xt xn xl rc1 rv1 rb la wch wcc wpl wun = some (a6, b6, d6, la4, wch3, nI cs.length, wpl3, nI cs.length) := by
        unfold p_X2_dictionaryPage
        rw [e2, bdS2, e3, bdS4, e4, bdS4, e5, bdS3, e6, bdS3]
      rw [edp, bdS8]
      rw [hcs] at g6
      obtain ⟨a7, b7, d7, la7, w7, c7, e7, g7, f7⟩ := X_pages_L (c := c) (K := K) (O := O) (way := way) (q := q) (wpl := wpl3) (wun := nI cs.length) hl hc hK hK3 hO hO1 hv hw hway hq hq2 (fun _ => ⟨p3, by rw [hcs]⟩) vals.length fu 0 _ a6 b6 d6 la4 wch3 (nI cs.length) (by omega) (by omega) (by rw [fu_eq]; omega) g6
      exact ⟨a7, b7, d7, la7, w7, c7, wpl3, nI cs.length, e7, by simpa [dictB] using g7, (((f1.to2.tr f2.to3).tr f4.to3).tr f6).tr f7⟩
    · rw [if_neg (by rw [ltI (by omega) (by omega)]; exact h0), if_neg (fun h => h0 h.2)]
      have ep : pagesB K O (codeOf K way) vals (DL (tq vals)) q vals.length 0 = [] := by
        have : vals.length = 0 := by omega
        rw [this]
        rfl
      rw [ep]
      have ef : ∃ m, fu = m + 1 := ⟨1048575, rfl⟩
      obtain ⟨m, ef⟩ := ef
      refine ⟨rc1, rv1, rb, la, wch, wcc, wpl, wun, ?_, by simpa using g1, f1.to2⟩
      rw [ef]
      show p_X2_writePages_L34 c (nI way) (nI q) xk xo xc xt xn xl wpl wun _ (nI 0) rc1 rv1 rb la wch wcc = _
      rw [p_X2_writePages_L34, hc, if_neg (by rw [ltI (by omega) (by omega)]; omega)]
  · rw [if_neg (by rw [eqI (by omega) (by omega)]; exact w1), if_neg (fun h => w1 h.1), List.nil_append]
    obtain ⟨a7, b7, d7, la7, w7, c7, e7, g7, f7⟩ := X_pages_L (c := c) (K := K) (O := O) (way := way) (q := q) (wpl := wpl) (wun := wun) hl hc hK hK3 hO hO1 hv hw hway hq hq2 (fun h => absurd h w1) vals.length fu 0 [] rc1 rv1 rb la wch wcc (by omega) (by omega) (by rw [fu_eq]; omega) g1
    exact ⟨a7, b7, d7, la7, w7, c7, wpl, wun, e7, by simpa using g7, f1.to2.tr f7⟩
end
section
/-! rows of the reference: slot s = 200 j + i -/
def l40 (l : List Int32) : List Int32 := (List.range 40).map (fun k => l[k]?.getD (nI 0))
theorem l40_len (l : List Int32) : (l40 l).length = 40 := by simp [l40]
theorem l40_at {l : List Int32} {k : Nat} (h : k < (l40 l).length) : (l40 l)[k] = l[k]?.getD (nI 0) := by simp [l40]
theorem l40_b8 {l : List Int32} (hb : b8L l) : b8L (l40 l) := by
  intro x hx
  obtain ⟨k, _, rfl⟩ := List.mem_map.mp hx
  by_cases h : k < l.length
  · rw [List.getElem?_eq_getElem h]
    exact hb _ (List.getElem_mem h)
  · rw [List.getElem?_eq_none (by omega)]
    exact b8_0
def MX (mx : Nat → Int32) (s : Nat) (l : List Int32) : Prop := ∀ (k : Nat), k < 40 → mx (40 * s + k) = l[k]?.getD (nI 0)
def MV (mt : Nat → Int32) (mv : Nat → Int64) (mx : Nat → Int32) (s : Nat) (a : AV) : Prop := mt s = nI (th a) ∧ mv s = nu a ∧ MX mx s (le a)
theorem MX_wr {mx : Nat → Int32} {s : Nat} {l : List Int32} : MX (wr mx (40 * s) (l40 l)) s l := by
  intro k hk
  rw [wr_in (by omega) (by rw [l40_len]; omega), l40_at]
  congr 2
  omega
theorem MX_wr_n {mx : Nat → Int32} {s s2 : Nat} {l l2 : List Int32} (hn : s2 ≠ s) (h : MX mx s2 l2) : MX (wr mx (40 * s) (l40 l)) s2 l2 := by
  intro k hk
  rw [wr_out (by rw [l40_len]; omega), h k hk]
theorem MV_wr {mt : Nat → Int32} {mv : Nat → Int64} {mx : Nat → Int32} {s : Nat} (a : AV) : MV (up mt s (nI (th a))) (up mv s (nu a)) (wr mx (40 * s) (l40 (le a))) s a := ⟨up_s, up_s, MX_wr⟩
theorem MV_wr_n {mt : Nat → Int32} {mv : Nat → Int64} {mx : Nat → Int32} {s s2 : Nat} {a b : AV} (hn : s2 ≠ s) (h : MV mt mv mx s2 b) : MV (up mt s (nI (th a))) (up mv s (nu a)) (wr mx (40 * s) (l40 (le a))) s2 b := ⟨(up_n hn).trans h.1, (up_n hn).trans h.2.1, MX_wr_n hn h.2.2⟩
theorem M_copies_L {s1 s2 : Nat} {mt : Nat → Int32} {mv : Nat → Int64} {mx : Nat → Int32} {l : List Int32} (h1 : s1 < 1400) (h2 : s2 < 1400) (hb : b8L l) (hx : MX mx s2 l) : ∀ (m n k : Nat), 40 - k = m → k ≤ 40 → m < n → itr2 (p_X6_copies_L26 (nI s1) (nI s2) mt mv) n (nI k) (wr mx (40 * s1) ((l40 l).take k)) = some (mt, mv, wr mx (40 * s1) (l40 l)) := by
  intro m
  induction m with
  | zero =>
    intro n k h3 h4 h5
    have : k = 40 := by omega
    subst this
    cases n with
    | zero => omega
    | succ n =>
      show p_X6_copies_L26 (nI s1) (nI s2) mt mv _ (nI 40) _ = _
      rw [p_X6_copies_L26, if_neg (by decide), List.take_of_length_le (by rw [l40_len]; omega)]
  | succ m ih =>
    intro n k h3 h4 h5
    cases n with
    | zero => omega
    | succ n =>
      have hk : k < (l40 l).length := by rw [l40_len]; omega
      show p_X6_copies_L26 (nI s1) (nI s2) mt mv _ (nI k) _ = _
      rw [p_X6_copies_L26]
      simp (disch := omega) only [ltI, eqI, addI, subI, mulI, divI, ixI, inbI, i2lI, l2iL, ltL, eqL, addL, mulL, subL, gdD, if_pos, if_neg, if_true, if_false, bdS1, bdS2, bdS3, bdS4, bdS5, bdS6, bdS7, bdS8, bdS9, bdS10, bdS11, bdS12, bdS13, moN, moS]
      rw [wr_out (by rw [List.length_take, l40_len]; omega), hx k (by omega), ← l40_at hk, l40_b8 hb _ (List.getElem_mem hk)]
      have e2 : 40 * s1 + k = 40 * s1 + ((l40 l).take k).length := by rw [List.length_take, l40_len]; omega
      rw [e2, wr_snoc, take_snoc hk]
      exact ih n (k + 1) (by omega) (by omega) (by omega)
theorem M_copies {s1 s2 : Nat} {mt : Nat → Int32} {mv : Nat → Int64} {mx : Nat → Int32} {a : AV} (h1 : s1 < 1400) (h2 : s2 < 1400) (hb : b8L (le a)) (h : MV mt mv mx s2 a) : p_X6_copies (nI s1) (nI s2) mt mv mx = some (up mt s1 (nI (th a)), up mv s1 (nu a), wr mx (40 * s1) (l40 (le a))) := by
  obtain ⟨v1, v2, v3⟩ := h
  unfold p_X6_copies
  simp (disch := omega) only [ltI, eqI, addI, subI, mulI, divI, ixI, inbI, i2lI, l2iL, ltL, eqL, addL, mulL, subL, gdD, if_pos, if_neg, if_true, if_false, bdS1, bdS2, bdS3, bdS4, bdS5, bdS6, bdS7, bdS8, bdS9, bdS10, bdS11, bdS12, bdS13, moN, moS, v1, v2, gdT (isB_th a)]
  have := M_copies_L (mt := up mt s1 (nI (th a))) (mv := up mv s1 (nu a)) h1 h2 hb v3 40 fu 0 (by omega) (by omega) (by rw [fu_eq]; omega)
  rw [List.take_zero, wr_nil] at this
  exact this
theorem l40_nil {k : Nat} (h : k < (l40 []).length) : (l40 [])[k] = nI 0 := by rw [l40_at]; rfl
theorem M_adds_L {s : Nat} {mx : Nat → Int32} {β : Type} {k60 : (Nat → Int32) → Option (Int32 × (Nat → Int32) × (Nat → Int32) × (Nat → Int64) × (Nat → Int32))} (h1 : s < 1400) : ∀ (m n k : Nat), 40 - k = m → k ≤ 40 → m < n → itr2 (p_X6_adds_L33 (nI s) k60) n (nI k) (wr mx (40 * s) ((l40 []).take k)) = k60 (wr mx (40 * s) (l40 [])) := by
  intro m
  induction m with
  | zero =>
    intro n k h3 h4 h5
    have : k = 40 := by omega
    subst this
    cases n with
    | zero => omega
    | succ n =>
      show p_X6_adds_L33 (nI s) k60 _ (nI 40) _ = _
      rw [p_X6_adds_L33, if_neg (by decide), List.take_of_length_le (by rw [l40_len]; omega)]
  | succ m ih =>
    intro n k h3 h4 h5
    cases n with
    | zero => omega
    | succ n =>
      have hk : k < (l40 []).length := by rw [l40_len]; omega
      show p_X6_adds_L33 (nI s) k60 _ (nI k) _ = _
      rw [p_X6_adds_L33]
      simp (disch := omega) only [ltI, eqI, addI, subI, mulI, divI, ixI, inbI, i2lI, l2iL, ltL, eqL, addL, mulL, subL, gdD, if_pos, if_neg, if_true, if_false, bdS1, bdS2, bdS3, bdS4, bdS5, bdS6, bdS7, bdS8, bdS9, bdS10, bdS11, bdS12, bdS13, moN, moS]
      rw [b8_0, ← l40_nil hk]
      have e2 : 40 * s + k = 40 * s + ((l40 []).take k).length := by rw [List.length_take, l40_len]; omega
      rw [e2, wr_snoc, take_snoc hk]
      exact ih n (k + 1) (by omega) (by omega) (by omega)
theorem M_adds {c n t : Nat} {v : Int64} {mm mt : Nat → Int32} {mv : Nat → Int64} {mx : Nat → Int32} (hc : c < 7) (hn : n < 200) (hm : mm c = nI n) (ht : t ≤ 1) : p_X6_adds (nI c) (nI t) v mm mt mv mx = some (nI n, up mm c (nI (n + 1)), up mt (200 * c + n) (nI t), up mv (200 * c + n) v, wr mx (40 * (200 * c + n)) (l40 [])) := by
  have hB : isB (nI t) = true := by
    by_cases h : t = 0
    · subst h; decide
    · have : t = 1 := by omega
      subst this; decide
  unfold p_X6_adds
  simp (disch := omega) only [ltI, eqI, addI, subI, mulI, divI, ixI, inbI, i2lI, l2iL, ltL, eqL, addL, mulL, subL, gdD, if_pos, if_neg, if_true, if_false, bdS1, bdS2, bdS3, bdS4, bdS5, bdS6, bdS7, bdS8, bdS9, bdS10, bdS11, bdS12, bdS13, moN, moS, hm, gdT hB]
  have e := M_adds_L (mx := mx) (β := Nat) (k60 := fun mx_6 => gd (inb (nI c) 7) <| gd (inb (nI c) 7) <| gd (inb (nI c) 7) <| some (up mm c (nI (n + 1)) c - nI 1, up mm c (nI (n + 1)), up mt (200 * c + n) (nI t), up mv (200 * c + n) v, mx_6)) (s := 200 * c + n) (by omega) 40 fu 0 (by omega) (by omega) (by rw [fu_eq]; omega)
  rw [List.take_zero, wr_nil] at e
  simp only [inbI (show c < 2 ^ 31 by omega), gdD hc] at e
  refine e.trans ?_
  rw [up_s, subI (by omega), Nat.add_sub_cancel]
theorem le_eq_of {K : Nat} {a b : AV} (ha : wfv K a) (hb : wfv K b) (hn : nu a = nu b) (hl : ∀ k, k < 40 → (le a)[k]?.getD (nI 0) = (le b)[k]?.getD (nI 0)) : le a = le b := by
  by_cases h2 : K = 2
  · subst h2
    have e1 := wfv_num ha
    have e2 := wfv_num hb
    have l1 := ha.1
    have l2 := hb.1
    rw [hn, e2, eqL (by omega) (by omega)] at e1
    refine List.ext_getElem e1.symm (fun k p q => ?_)
    have := hl k (by omega)
    rw [List.getElem?_eq_getElem p, List.getElem?_eq_getElem q] at this
    exact this
  · rw [wfv_no ha h2, wfv_no hb h2]
theorem M_areLike_0 {s1 s2 : Nat} {mx : Nat → Int32} (n : Nat) : itr2 (p_X6_areLike_L40 (nI s1) (nI s2) mx) (n + 1) (nI 0) (nI 0) = some (nI 0) := by
  show p_X6_areLike_L40 (nI s1) (nI s2) mx _ (nI 0) (nI 0) = _
  rw [p_X6_areLike_L40, if_pos (by decide), if_pos rfl, gdT (by decide)]
theorem M_areLike_L {s1 s2 : Nat} {mx : Nat → Int32} {l l2 : List Int32} (h1 : s1 < 1400) (h2 : s2 < 1400) (x1 : MX mx s1 l) (x2 : MX mx s2 l2) : ∀ (m n k : Nat), 40 - k = m → k ≤ 40 → m + 1 < n → (∀ j, j < k → l[j]?.getD (nI 0) = l2[j]?.getD (nI 0)) → itr2 (p_X6_areLike_L40 (nI s1) (nI s2) mx) n (nI 1) (nI k) = some (nI (if ∀ j, j < 40 → l[j]?.getD (nI 0) = l2[j]?.getD (nI 0) then 1 else 0)) := by
  intro m
  induction m with
  | zero =>
    intro n k h3 h4 h5 h6
    have : k = 40 := by omega
    subst this
    cases n with
    | zero => omega
    | succ n =>
      show p_X6_areLike_L40 (nI s1) (nI s2) mx _ (nI 1) (nI 40) = _
      rw [p_X6_areLike_L40, if_neg (by decide), gdT (by decide), if_pos h6]
  | succ m ih =>
    intro n k h3 h4 h5 h6
    cases n with
    | zero => omega
    | succ n =>
      show p_X6_areLike_L40 (nI s1) (nI s2) mx _ (nI 1) (nI k) = _
      rw [p_X6_areLike_L40, if_pos (by rw [ltI (by omega) (by omega)]; omega), if_neg (by decide), mulI, mulI, addI, addI, inbI (by omega), gdD (by omega), inbI (by omega), gdD (by omega), ixI (by omega), ixI (by omega), x1 k (by omega), x2 k (by omega), addI]
      by_cases e : l[k]?.getD (nI 0) = l2[k]?.getD (nI 0)
      · rw [if_pos e]
        refine ih n (k + 1) (by omega) (by omega) (by omega) (fun j hj => ?_)
        by_cases hjk : j = k
        · subst hjk; exact e
        · exact h6 j (by omega)
      · rw [if_neg e, if_neg (fun hh => e (hh k (by omega)))]
        cases n with
        | zero => omega
        | succ n =>
          show p_X6_areLike_L40 (nI s1) (nI s2) mx _ (nI 0) (nI (k + 1)) = _
          rw [p_X6_areLike_L40]
          by_cases h7 : k + 1 < 40
          · rw [if_pos (by rw [ltI (by omega) (by omega)]; omega), if_pos rfl, gdT (by decide)]
          · rw [if_neg (by rw [ltI (by omega) (by omega)]; omega), gdT (by decide)]
theorem M_areLike {s1 s2 K : Nat} {mt : Nat → Int32} {mv : Nat → Int64} {mx : Nat → Int32} {a b : AV} (h1 : s1 < 1400) (h2 : s2 < 1400) (wa : wfv K a) (wb : wfv K b) (ha : MV mt mv mx s1 a) (hb : MV mt mv mx s2 b) : p_X6_areLike (nI s1) (nI s2) mt mv mx = some (nI (if a = b then 1 else 0)) := by
  obtain ⟨a1, a2, a3⟩ := ha
  obtain ⟨b1, b2, b3⟩ := hb
  have ta := th_le a
  have tb := th_le b
  unfold p_X6_areLike
  rw [inbI (by omega), gdD (by omega), inbI (by omega), gdD (by omega), ixI (by omega), ixI (by omega), a1, b1, a2, b2, gdD (by omega), gdD (by omega), fu_eq]
  by_cases e1 : th a = th b
  · rw [if_pos (by rw [e1])]
    by_cases e2 : nu a = nu b
    · rw [if_pos e2]
      refine (M_areLike_L h1 h2 a3 b3 40 1048576 0 (by omega) (by omega) (by omega) (fun j hj => by omega)).trans ?_
      congr 3
      refine propext ⟨fun h => av_eq e1 e2 (le_eq_of wa wb e2 h), fun h => ?_⟩
      subst h
      exact fun _ _ => rfl
    · rw [if_neg e2, if_neg (fun h => e2 (by rw [h]))]
      exact M_areLike_0 _
  · rw [if_neg (by rw [eqI (by omega) (by omega)]; exact e1), if_neg (fun h => e1 (by rw [h]))]
    exact M_areLike_0 _
theorem M_letters_L {s : Nat} {mv : Nat → Int64} {mx : Nat → Int32} {ls L : List Int32} (hs : s < 1400) (hl : ls.length ≤ 40) (hb : b8L ls) (hn : mv s = lN ls.length) (hx : MX mx s ls) (hL : L.length + ls.length ≤ 60000) : ∀ (m n k : Nat) (md : Nat → Int32) (mdd : Int32), ls.length - k = m → k ≤ ls.length → m < n → MOut md mdd (L ++ ls.take k) → ∃ md' mdd', itr3 (p_X6_letters_L2 (nI s) mv mx) n (nI k) md mdd = some (md', mdd') ∧ MOut md' mdd' (L ++ ls) := by
  intro m
  induction m with
  | zero =>
    intro n k md mdd h1 h2 h3 h
    have : k = ls.length := by omega
    subst this
    cases n with
    | zero => omega
    | succ n =>
      rw [List.take_length] at h
      refine ⟨md, mdd, ?_, h⟩
      show p_X6_letters_L2 (nI s) mv mx _ (nI ls.length) md mdd = _
      rw [p_X6_letters_L2, inbI (by omega), gdD (by omega), ixI (by omega), hn, i2lI (by omega), if_neg (by rw [ltL (by omega) (by omega)]; omega)]
  | succ m ih =>
    intro n k md mdd h1 h2 h3 h
    cases n with
    | zero => omega
    | succ n =>
      have hk : k < ls.length := by omega
      obtain ⟨md1, mdd1, e1, g1⟩ := MOut_byte ls[k] h (by rw [List.length_append, List.length_take]; omega)
      rw [hb _ (List.getElem_mem hk), List.append_assoc, take_snoc hk] at g1
      obtain ⟨md2, mdd2, e2, g2⟩ := ih n (k + 1) md1 mdd1 (by omega) (by omega) (by omega) g1
      refine ⟨md2, mdd2, ?_, g2⟩
      show p_X6_letters_L2 (nI s) mv mx _ (nI k) md mdd = _
      rw [p_X6_letters_L2, inbI (by omega), gdD (by omega), ixI (by omega), hn, i2lI (by omega), if_pos (by rw [ltL (by omega) (by omega)]; omega), mulI, addI, inbI (by omega), gdD (by omega), ixI (by omega), hx k (by omega), List.getElem?_eq_getElem hk]
      show bd2 (p_X6_byteTo ls[k] md mdd) _ = _
      rw [e1, bdS2, addI]
      exact e2
theorem M_letters {s : Nat} {mt : Nat → Int32} {mv : Nat → Int64} {mx : Nat → Int32} {q : TV} {L : List Int32} {md : Nat → Int32} {mdd : Int32} (hs : s < 1400) (hq : TVok 2 q) (hv : MV mt mv mx s (some q)) (hL : L.length + q.2.length ≤ 60000) (h : MOut md mdd L) : ∃ md' mdd', p_X6_letters (nI s) mv mx md mdd = some (md', mdd') ∧ MOut md' mdd' (L ++ q.2) := by
  obtain ⟨q1, q2, q3⟩ := hq
  rw [if_pos rfl] at q3
  obtain ⟨v1, v2, v3⟩ := hv
  exact M_letters_L hs q1 q2 (v2.trans q3) v3 hL q.2.length fu 0 md mdd (by omega) (by omega) (by rw [fu_eq]; omega) (by rw [List.take_zero, List.append_nil]; exact h)
theorem M_plain {s K : Nat} {mt : Nat → Int32} {mv : Nat → Int64} {mx : Nat → Int32} {q : TV} {L : List Int32} {md : Nat → Int32} {mdd : Int32} (hs : s < 1400) (hK : K < 3) (hq : TVok K q) (hv : MV mt mv mx s (some q)) (hL : L.length + (plB K q).length ≤ 60000) (h : MOut md mdd L) : ∃ md' mdd', p_X6_plain (nI s) (nI K) mv mx md mdd = some (md', mdd') ∧ MOut md' mdd' (L ++ plB K q) := by
  have v2 : mv s = q.1 := hv.2.1
  unfold p_X6_plain
  unfold plB at hL ⊢
  rw [List.length_append, litB_len] at hL
  by_cases h2 : K = 2
  · subst h2
    obtain ⟨md1, mdd1, e1, g1⟩ := M_lit (w := q.1) (N := 4) (by omega) (by simp at hL; omega) h
    obtain ⟨md2, mdd2, e2, g2⟩ := M_letters hs hq hv (by rw [List.length_append, litB_len]; simp at hL; omega) g1
    refine ⟨md2, mdd2, ?_, by rw [if_neg (by omega), ← List.append_assoc]; exact g2⟩
    rw [if_pos rfl, inbI (by omega), gdD (by omega), ixI (by omega), v2, e1, bdS2, e2, bdS2]
  · have q2 := hq.2.2
    rw [if_neg h2] at q2
    rw [if_neg (by rw [eqI (by omega) (by omega)]; omega), inbI (by omega), gdD (by omega), ixI (by omega), v2, q2, List.append_nil]
    by_cases h1 : K = 1
    · subst h1
      obtain ⟨md1, mdd1, e1, g1⟩ := M_lit (w := q.1) (N := 8) (by omega) (by simp at hL; omega) h
      refine ⟨md1, mdd1, ?_, g1⟩
      rw [if_neg (by decide), e1, bdS2]
    · have : K = 0 := by omega
      subst this
      obtain ⟨md1, mdd1, e1, g1⟩ := M_lit (w := q.1) (N := 4) (by omega) (by simp at hL; omega) h
      refine ⟨md1, mdd1, ?_, g1⟩
      rw [if_pos rfl, e1, bdS2]
end
section
/-! the reference's dictionary -/
theorem idx_at {q : TV} : ∀ (D : List TV) (k : Nat), (∀ (j : Nat) (h : j < D.length), j < k → D[j] ≠ q) → (k = D.length ∨ ∃ h : k < D.length, D[k] = q) → D.idxOf q = k := by
  intro D
  induction D with
  | nil =>
    intro k h1 h2
    rcases h2 with h2 | ⟨h, _⟩
    · subst h2; rfl
    · simp at h
  | cons d D ih =>
    intro k h1 h2
    rw [List.idxOf_cons]
    cases k with
    | zero =>
      rcases h2 with h2 | ⟨h, e⟩
      · simp at h2
      · have e' : d = q := e
        rw [e']
        simp
    | succ k =>
      have hne : d ≠ q := h1 0 (by simp) (by omega)
      have hb : (d == q) = false := by simpa using hne
      rw [hb, cond_false]
      congr 1
      refine ih k (fun j hj hjk => h1 (j + 1) (by simp; omega) (by omega)) ?_
      rcases h2 with h2 | ⟨h, e⟩
      · left; simpa using h2
      · right; exact ⟨by simpa using h, e⟩
def MCol (mt : Nat → Int32) (mv : Nat → Int64) (mx : Nat → Int32) (c : Nat) (vals : List AV) : Prop := ∀ (j : Nat) (h : j < vals.length), MV mt mv mx (200 * c + j) vals[j]
def MDic (mt : Nat → Int32) (mv : Nat → Int64) (mx : Nat → Int32) (D : List TV) : Prop := ∀ (j : Nat) (h : j < D.length), MV mt mv mx (1000 + j) (some D[j])
/-- what lies below slot n stays -/
def MFr (n : Nat) (mt : Nat → Int32) (mv : Nat → Int64) (mx : Nat → Int32) (mt' : Nat → Int32) (mv' : Nat → Int64) (mx' : Nat → Int32) : Prop := ∀ s, s < n → ∀ a, MV mt mv mx s a → MV mt' mv' mx' s a
theorem MFr.rf {n : Nat} {mt : Nat → Int32} {mv : Nat → Int64} {mx : Nat → Int32} : MFr n mt mv mx mt mv mx := fun _ _ _ h => h
theorem MFr.tr {n : Nat} {mt mt1 mt2 : Nat → Int32} {mv mv1 mv2 : Nat → Int64} {mx mx1 mx2 : Nat → Int32} (h1 : MFr n mt mv mx mt1 mv1 mx1) (h2 : MFr n mt1 mv1 mx1 mt2 mv2 mx2) : MFr n mt mv mx mt2 mv2 mx2 := fun s hs a h => h2 s hs a (h1 s hs a h)
theorem MFr.col {n c : Nat} {mt mt1 : Nat → Int32} {mv mv1 : Nat → Int64} {mx mx1 : Nat → Int32} {vals : List AV} (h1 : MFr n mt mv mx mt1 mv1 mx1) (h : MCol mt mv mx c vals) (hc : 200 * c + vals.length ≤ n) : MCol mt1 mv1 mx1 c vals := fun j hj => h1 _ (by omega) _ (h j hj)
theorem M_find_L {s K : Nat} {mm mt : Nat → Int32} {mv : Nat → Int64} {mx : Nat → Int32} {D : List TV} {q : TV} {k70 : Int32 → Option ((Nat → Int32) × (Nat → Int32) × (Nat → Int64) × (Nat → Int32) × (Nat → Int32))} (hs : s < 1400) (hD : D.length ≤ 200) (hm : mm 5 = nI D.length) (hd : MDic mt mv mx D) (hv : MV mt mv mx s (some q)) (wq : wfv K (some q)) (wd : ∀ d ∈ D, wfv K (some d)) :
    ∀ (m n k : Nat), D.length - k = m → k ≤ D.length → m < n → (∀ (j : Nat) (h : j < D.length), j < k → D[j] ≠ q) → itr1 (p_X6_makeDictionary_L39 (nI s) mm mt mv mx k70) n (nI k) = k70 (nI (D.idxOf q)) := by
  intro m
  induction m with
  | zero =>
    intro n k h1 h2 h3 h4
    have : k = D.length := by omega
    subst this
    cases n with
    | zero => omega
    | succ n =>
      show p_X6_makeDictionary_L39 (nI s) mm mt mv mx k70 _ (nI D.length) = _
      rw [p_X6_makeDictionary_L39, gdT (by decide), show ix (nI 5) = 5 from rfl, hm, if_neg (by rw [ltI (by omega) (by omega)]; omega), idx_at D D.length h4 (Or.inl rfl)]
  | succ m ih =>
    intro n k h1 h2 h3 h4
    cases n with
    | zero => omega
    | succ n =>
      have hk : k < D.length := by omega
      show p_X6_makeDictionary_L39 (nI s) mm mt mv mx k70 _ (nI k) = _
      rw [p_X6_makeDictionary_L39, gdT (by decide), show ix (nI 5) = 5 from rfl, hm, if_pos (by rw [ltI (by omega) (by omega)]; omega), addI, M_areLike (show 1000 + k < 1400 by omega) hs (wd _ (List.getElem_mem hk)) wq (hd k hk) hv, bdS1, addI]
      by_cases e : D[k] = q
      · rw [if_neg (fun h => (cast if1 h) (by rw [e])), idx_at D k h4 (Or.inr ⟨hk, e⟩)]
      · rw [if_pos (cast if1.symm (fun h => e (Option.some.inj h)))]
        refine ih n (k + 1) (by omega) (by omega) (by omega) (fun j hj hjk => ?_)
        by_cases hjk2 : j = k
        · subst hjk2; exact e
        · exact h4 j hj (by omega)
theorem M_dict_L {c K : Nat} {vals : List AV} (hc : c < 5) (hl : vals.length ≤ 200) (hw : ∀ a ∈ vals, wfv K a) : ∀ (m n i : Nat) (mm mt : Nat → Int32) (mv : Nat → Int64) (mx mpl : Nat → Int32), vals.length - i = m → i ≤ vals.length → m < n → mm c = nI vals.length → MCol mt mv mx c vals → mm 5 = nI (DL (tq (vals.take i))).length → MDic mt mv mx (DL (tq (vals.take i))) → PLC mpl vals (DL (tq (vals.take i))) i → ∃ mt' mv' mx' mpl', itr6 (p_X6_makeDictionary_L9 (nI c)) n (nI i) mm mt mv mx mpl = some (up mm 5 (nI (DL (tq vals)).length), mt', mv', mx', mpl') ∧ MDic mt' mv' mx' (DL (tq vals)) ∧ PLC mpl' vals (DL (tq vals)) vals.length ∧ MFr 1000 mt mv mx mt' mv' mx' := by
  intro m
  induction m with
  | zero =>
    intro n i mm mt mv mx mpl h1 h2 h3 hm hv h5 hd hp
    have : i = vals.length := by omega
    subst this
    cases n with
    | zero => omega
    | succ n =>
      rw [List.take_length] at h5 hd hp
      refine ⟨mt, mv, mx, mpl, ?_, hd, hp, MFr.rf⟩
      show p_X6_makeDictionary_L9 (nI c) _ (nI vals.length) mm mt mv mx mpl = _
      rw [p_X6_makeDictionary_L9, inbI (by omega), gdD (by omega), ixI (by omega), hm, if_neg (by rw [ltI (by omega) (by omega)]; omega), ← h5, up_id]
  | succ m ih =>
    intro n i mm mt mv mx mpl h1 h2 h3 hm hv h5 hd hp
    cases n with
    | zero => omega
    | succ n =>
      have hi : i < vals.length := by omega
      have htk := take_snoc hi
      have hdl := DL_len (tq (vals.take i))
      have hql := tq_le (vals.take i)
      rw [List.length_take] at hql
      show ∃ mt' mv' mx' mpl', p_X6_makeDictionary_L9 (nI c) _ (nI i) mm mt mv mx mpl = _ ∧ _
      rw [p_X6_makeDictionary_L9, inbI (by omega), gdD (by omega), ixI (by omega), hm, if_pos (by rw [ltI (by omega) (by omega)]; omega), mulI, addI, inbI (by omega), gdD (by omega), ixI (by omega), (hv i hi).1, addI]
      cases ha : vals[i] with
      | none =>
        have eD : DL (tq (vals.take (i + 1))) = DL (tq (vals.take i)) := by rw [← htk, ha, tq_snoc_none]
        rw [if_pos th0]
        exact ih n (i + 1) mm mt mv mx mpl (by omega) (by omega) (by omega) hm hv (by rw [eD]; exact h5) (by rw [eD]; exact hd) (fun t ht hti q hq => by
          have hne : t ≠ i := fun e => by subst e; rw [ha] at hq; cases hq
          rw [eD]
          exact hp t ht (by omega) q hq)
      | some q =>
        have hvi := hv i hi
        rw [ha] at hvi
        have hwq : wfv K (some q) := by rw [← ha]; exact hw _ (List.getElem_mem hi)
        have hwd : ∀ d ∈ DL (tq (vals.take i)), wfv K (some d) := fun d hd => hw _ (List.mem_of_mem_take (tq_mem.mp ((DL_mem _ _).mp hd)))
        have eDs : DL (tq (vals.take (i + 1))) = dstp (DL (tq (vals.take i))) q := by rw [← htk, ha, tq_snoc_some, DL_snoc]
        rw [if_neg (th1 q), M_find_L (s := 200 * c + i) (K := K) (by omega) (by omega) h5 hd hvi hwq hwd (DL (tq (vals.take i))).length fu 0 (by omega) (by omega) (by rw [fu_eq]; omega) (fun j _ h => by omega), p_X6_makeDictionary_J70, gdT (by decide), show ix (nI 5) = 5 from rfl, h5, addI]
        by_cases hin : q ∈ DL (tq (vals.take i))
        · have hlt := idx_lt hin
          have eD : DL (tq (vals.take (i + 1))) = DL (tq (vals.take i)) := by rw [eDs]; unfold dstp; rw [if_pos hin]
          rw [if_neg (by rw [eqI (by omega) (by omega)]; omega), inbI (by omega), gdD (by omega), ixI (by omega), addI]
          exact ih n (i + 1) mm mt mv mx (up mpl i (nI ((DL (tq (vals.take i))).idxOf q))) (by omega) (by omega) (by omega) hm hv (by rw [eD]; exact h5) (by rw [eD]; exact hd) (fun t ht hti q' hq' => by
            rw [eD]
            by_cases hne : t = i
            · subst hne
              rw [ha] at hq'
              cases hq'
              rw [up_s]
            · rw [up_n hne]
              exact hp t ht (by omega) q' hq')
        · have hidx : (DL (tq (vals.take i))).idxOf q = (DL (tq (vals.take i))).length := idx_at _ _ (fun j hj _ e => hin (by rw [← e]; exact List.getElem_mem hj)) (Or.inl rfl)
          have eD : DL (tq (vals.take (i + 1))) = DL (tq (vals.take i)) ++ [q] := by rw [eDs]; unfold dstp; rw [if_neg hin]
          have hidx2 : (DL (tq (vals.take i)) ++ [q]).idxOf q = (DL (tq (vals.take i))).length := by
            rw [List.idxOf_append, if_neg hin]
            simp
          have hfr : MFr 1000 mt mv mx (up mt (1000 + (DL (tq (vals.take i))).length) (nI (th (some q)))) (up mv (1000 + (DL (tq (vals.take i))).length) (nu (some q))) (wr mx (40 * (1000 + (DL (tq (vals.take i))).length)) (l40 (le (some q)))) := fun s hs a h => MV_wr_n (by omega) h
          obtain ⟨mt', mv', mx', mpl', e1, g1, g2, g3⟩ := ih n (i + 1) (up mm 5 (nI ((DL (tq (vals.take i))).length + 1))) _ _ _ (up mpl i (nI (DL (tq (vals.take i))).length)) (by omega) (by omega) (by omega) (by rw [up_n (show c ≠ 5 by omega)]; exact hm) (hfr.col hv (by omega)) (by rw [eD, up_s, List.length_append]; rfl) (by
            rw [eD]
            intro j hj
            rw [List.length_append, List.length_cons, List.length_nil] at hj
            by_cases hjl : j < (DL (tq (vals.take i))).length
            · rw [List.getElem_append_left hjl]
              exact MV_wr_n (by omega) (hd j hjl)
            · have : j = (DL (tq (vals.take i))).length := by omega
              subst this
              rw [List.getElem_concat_length]
              exact MV_wr (some q)
              rfl) (fun t ht hti q' hq' => by
            rw [eD]
            by_cases hne : t = i
            · subst hne
              rw [ha] at hq'
              cases hq'
              rw [up_s, hidx2]
            · rw [up_n hne, hp t ht (by omega) q' hq', idx_pre]
              exact (DL_mem _ _).mpr (tq_mem.mpr (mem_take.mpr ⟨t, ht, by omega, hq'⟩)))
          refine ⟨mt', mv', mx', mpl', ?_, g1, g2, hfr.tr g3⟩
          rw [hidx, if_pos rfl, addI, M_copies (show 1000 + (DL (tq (vals.take i))).length < 1400 by omega) (show 200 * c + i < 1400 by omega) hwq.2.1 hvi, bdS3, gdT (by decide), gdT (by decide), inbI (by omega), gdD (by omega), ixI (by omega), addI]
          refine e1.trans ?_
          rw [up_up]
theorem M_dict {c K : Nat} {vals : List AV} {mm mt : Nat → Int32} {mv : Nat → Int64} {mx mpl : Nat → Int32} (hc : c < 5) (hl : vals.length ≤ 200) (hw : ∀ a ∈ vals, wfv K a) (hm : mm c = nI vals.length) (hv : MCol mt mv mx c vals) : ∃ mt' mv' mx' mpl', p_X6_makeDictionary (nI c) mm mt mv mx mpl = some (up mm 5 (nI (DL (tq vals)).length), mt', mv', mx', mpl') ∧ MDic mt' mv' mx' (DL (tq vals)) ∧ PLC mpl' vals (DL (tq vals)) vals.length ∧ MFr 1000 mt mv mx mt' mv' mx' := by
  obtain ⟨mt', mv', mx', mpl', e1, g⟩ := M_dict_L hc hl hw vals.length fu 0 (up mm 5 (nI 0)) mt mv mx mpl (by omega) (by omega) (by rw [fu_eq]; omega) (by rw [up_n (show c ≠ 5 by omega)]; exact hm) hv (by rw [up_s]; rfl) (fun j h => by simp [DL, tq] at h) (fun t _ h => by omega)
  refine ⟨mt', mv', mx', mpl', ?_, g⟩
  unfold p_X6_makeDictionary
  rw [gdT (by decide), show ix (nI 5) = 5 from rfl]
  refine e1.trans ?_
  rw [up_up]
end
section
/-! a page of the reference -/
theorem pst_zero {s : PS} (h : s.1 < 8) : pst (nI 0) s = if s.1 + 1 = 8 then (0, nI 0, s.2.2 ++ [b8 s.2.1]) else (s.1 + 1, s.2.1, s.2.2) := by
  have e : ishl (nI 0) (nI s.1) = nI 0 := by
    have : ∀ k, k < 8 → ishl (nI 0) (nI k) = nI 0 := by decide
    exact this _ h
  have e2 : s.2.1 ||| nI 0 = s.2.1 := Int32.or_zero
  unfold pst
  rw [e, e2]
theorem pb1 {b : Nat} {v : Int32} {o : List Int32} (h : b < 8) : pbits (lN 0) 1 (b, v, o) = if b + 1 = 8 then (0, nI 0, o ++ [b8 v]) else (b + 1, v, o) := by
  show pst (bitOf (lN 0) 0) (b, v, o) = _
  rw [bitOf_0 (by omega), pst_zero h]
theorem pz {g : Nat → Int64} {p : Nat} (h0 : ∀ j, p ≤ j → g j = lN 0) : ∀ z, (pnums g 1 p (0, nI 0, [])).1 + z < 8 → pnums g 1 (p + z) (0, nI 0, []) = ((pnums g 1 p (0, nI 0, [])).1 + z, (pnums g 1 p (0, nI 0, [])).2.1, (pnums g 1 p (0, nI 0, [])).2.2) := by
  intro z
  induction z with
  | zero => intro _; rfl
  | succ z ih =>
    intro h
    rw [show p + (z + 1) = (p + z) + 1 by omega, pnums, ih (by omega), h0 _ (by omega)]
    rw [pb1 (by omega), if_neg (by omega)]
    rfl
theorem M_packT {p : Nat} {mn g : Nat → Int64} {L : List Int32} {md : Nat → Int32} {mdd : Int32} (hp : p ≤ 200) (hg : ∀ j, j < p → g j = mn j) (h0 : ∀ j, p ≤ j → g j = lN 0) (hL : L.length + (p + 7) / 8 ≤ 60000) (h : MOut md mdd L) : ∃ md' mdd', p_X6_pack (nI 0) (nI p) (nI p) (nI 1) md mdd mn = some (md', mdd') ∧ MOut md' mdd' (L ++ packB g 1 ((p + 7) / 8 * 8)) := by
  have ht := pnums_tot g 1 p (0, nI 0, [])
  have hlt := pnums_lt g 1 p (0, nI 0, []) (by simp)
  unfold ptot at ht
  simp only [List.length_nil] at ht
  obtain ⟨md1, mdd1, e1, g1⟩ := M_pack_out (lim := p) (w := 1) (i0 := 0) (cnt := p) (mn := mn) (g := g) (L := L) (B := (p + 7) / 8) (kx := fun v5_9 v6_10 md_11 mdd_12 =>
      if (nI 0) < v5_9 then
        bd2 (p_X6_byteTo v6_10 md_11 mdd_12) <| fun md_13 mdd_14 =>
        some (md_13, mdd_14)
      else
        some (md_11, mdd_12)) (by omega) (by omega) (by omega) (fun j hj => by rw [Nat.zero_add, if_pos hj, hg j hj]) (by omega) hL p fu 0 md mdd (by omega) (by omega) (by rw [fu_eq]; omega) (by simpa [pnums] using h)
  by_cases hb : (pnums g 1 p (0, nI 0, [])).1 = 0
  · have eG : (p + 7) / 8 * 8 = p := by omega
    refine ⟨md1, mdd1, ?_, by rw [eG]; exact g1⟩
    unfold p_X6_pack
    refine Eq.trans e1 ?_
    rw [hb]
    simp (disch := omega) only [ltI, eqI, addI, subI, mulI, divI, ixI, inbI, i2lI, l2iL, ltL, eqL, addL, mulL, subL, gdD, if_pos, if_neg, if_true, if_false, bdS1, bdS2, bdS3, bdS4, bdS5, bdS6, bdS7, bdS8, bdS9, bdS10, bdS11, bdS12, bdS13, moN, moS, Nat.lt_irrefl]
  · have eG : (p + 7) / 8 * 8 = (p + (7 - (pnums g 1 p (0, nI 0, [])).1)) + 1 := by omega
    have eP : packB g 1 ((p + 7) / 8 * 8) = (pnums g 1 p (0, nI 0, [])).2.2 ++ [b8 (pnums g 1 p (0, nI 0, [])).2.1] := by
      unfold packB
      rw [eG, pnums, pz h0 _ (by omega), h0 _ (by omega)]
      rw [pb1 (by omega), if_pos (by omega)]
    obtain ⟨md2, mdd2, e2, g2⟩ := MOut_byte (pnums g 1 p (0, nI 0, [])).2.1 g1 (by rw [List.length_append]; omega)
    refine ⟨md2, mdd2, ?_, by rw [eP, ← List.append_assoc]; exact g2⟩
    unfold p_X6_pack
    refine Eq.trans e1 ?_
    show (if nI 0 < nI (pnums g 1 p (0, nI 0, [])).1 then _ else _) = _
    rw [if_pos (by rw [ltI (by omega) (by omega)]; omega), e2, bdS2]
theorem M_levels_L {c f0 : Nat} {mt : Nat → Int32} {mv : Nat → Int64} {mx : Nat → Int32} {pv : List AV} {β : Type} {kx : (Nat → Int64) → Option ((Nat → Int32) × Int32 × (Nat → Int64) × (Nat → Int64) × (Nat → Int32))} (hc : c < 5) (hl : f0 + pv.length ≤ 200) (hv : ∀ (j : Nat) (h : j < pv.length), MV mt mv mx (200 * c + (f0 + j)) pv[j]) : ∀ (m n j : Nat) (mn : Nat → Int64), pv.length - j = m → j ≤ pv.length → m < n → (∀ (i : Nat) (h : i < pv.length), i < j → mn i = lN (th pv[i])) → ∃ mn', itr2 (p_X6_page_L18 (nI c) (nI f0) (nI (f0 + pv.length)) mt kx) n (nI (f0 + j)) mn = kx mn' ∧ ∀ i, i < pv.length → mn' i = fn (pv.map (fun a => lN (th a))) i := by
  intro m
  induction m with
  | zero =>
    intro n j mn h1 h2 h3 h
    cases n with
    | zero => omega
    | succ n =>
      refine ⟨mn, ?_, fun i hi => ?_⟩
      · show p_X6_page_L18 (nI c) (nI f0) (nI (f0 + pv.length)) mt kx _ (nI (f0 + j)) mn = _
        rw [p_X6_page_L18, if_neg (by rw [ltI (by omega) (by omega)]; omega)]
      · rw [h i hi (by omega), fn_at (by simpa using hi)]
        simp
  | succ m ih =>
    intro n j mn h1 h2 h3 h
    cases n with
    | zero => omega
    | succ n =>
      have hj : j < pv.length := by omega
      obtain ⟨v1, v2, v3⟩ := hv j hj
      obtain ⟨mn', e1, g1⟩ := ih n (j + 1) (up mn j (lN (th pv[j]))) (by omega) (by omega) (by omega) (fun i hi hij => by
        unfold up
        by_cases e : i = j
        · subst e; rw [if_pos rfl]
        · rw [if_neg e, h i hi (by omega)])
      refine ⟨mn', ?_, g1⟩
      show p_X6_page_L18 (nI c) (nI f0) (nI (f0 + pv.length)) mt kx _ (nI (f0 + j)) mn = _
      rw [p_X6_page_L18, if_pos (by rw [ltI (by omega) (by omega)]; omega), mulI, addI, inbI (by omega), gdD (by omega), ixI (by omega), v1, subI (by omega), Nat.add_sub_cancel_left, inbI (by omega), gdD (by omega), gdD (by omega), ixI (by omega), addI]
      cases ha : pv[j] with
      | none => rw [ha] at e1; rw [if_pos th0]; exact e1
      | some q => rw [ha] at e1; rw [if_neg (th1 q)]; exact e1
theorem M_gather_L {c f0 code : Nat} {mt mpl : Nat → Int32} {mv : Nat → Int64} {mx : Nat → Int32} {pv : List AV} {X : List Int64} {kx : Int32 → (Nat → Int64) → Option ((Nat → Int32) × Int32 × (Nat → Int64) × (Nat → Int64) × (Nat → Int32))} (hc : c < 5) (hcode : code ≤ 8) (hl : f0 + pv.length ≤ 200) (hv : ∀ (j : Nat) (h : j < pv.length), MV mt mv mx (200 * c + (f0 + j)) pv[j]) (hX : ∀ (j : Nat) (h : j < pv.length) (q : TV), pv[j] = some q → fn X (tq (pv.take j)).length = if code = 8 then i2l (mpl (f0 + j)) else q.1) : ∀ (m n j : Nat) (mn : Nat → Int64), pv.length - j = m → j ≤ pv.length → m < n → (∀ (i : Nat), i < (tq (pv.take j)).length → mn i = fn X i) → ∃ mn', itr3 (p_X6_page_L132 (nI c) (nI (f0 + pv.length)) (nI code) mt mv mpl kx) n (nI (tq (pv.take j)).length) (nI (f0 + j)) mn = kx (nI (tq pv).length) mn' ∧ ∀ i, i < (tq pv).length → mn' i = fn X i := by
  intro m
  induction m with
  | zero =>
    intro n j mn h1 h2 h3 h
    have : j = pv.length := by omega
    subst this
    cases n with
    | zero => omega
    | succ n =>
      rw [List.take_length] at h ⊢
      refine ⟨mn, ?_, h⟩
      show p_X6_page_L132 (nI c) (nI (f0 + pv.length)) (nI code) mt mv mpl kx _ _ (nI (f0 + pv.length)) mn = _
      rw [p_X6_page_L132, if_neg (by rw [ltI (by omega) (by omega)]; omega)]
  | succ m ih =>
    intro n j mn h1 h2 h3 h
    cases n with
    | zero => omega
    | succ n =>
      have hj : j < pv.length := by omega
      obtain ⟨v1, v2, v3⟩ := hv j hj
      have hle := tq_le (pv.take j)
      rw [List.length_take] at hle
      have htk := take_snoc hj
      show ∃ mn', p_X6_page_L132 (nI c) (nI (f0 + pv.length)) (nI code) mt mv mpl kx _ _ (nI (f0 + j)) mn = _ ∧ _
      rw [p_X6_page_L132, if_pos (by rw [ltI (by omega) (by omega)]; omega), mulI, addI, inbI (by omega), gdD (by omega), ixI (by omega), v1]
      cases ha : pv[j] with
      | none =>
        have e : tq (pv.take (j + 1)) = tq (pv.take j) := by rw [← htk, ha, tq_snoc_none]
        rw [if_pos th0, addI]
        obtain ⟨mn', e1, g1⟩ := ih n (j + 1) mn (by omega) (by omega) (by omega) (by rw [e]; exact h)
        rw [e] at e1
        exact ⟨mn', e1, g1⟩
      | some q =>
        have e : tq (pv.take (j + 1)) = tq (pv.take j) ++ [q] := by rw [← htk, ha, tq_snoc_some]
        have hX' := hX j hj q ha
        rw [ha] at v2
        obtain ⟨mn', e1, g1⟩ := ih n (j + 1) (up mn (tq (pv.take j)).length (if code = 8 then i2l (mpl (f0 + j)) else q.1)) (by omega) (by omega) (by omega) (fun i hi => by
          rw [e, List.length_append, List.length_cons, List.length_nil] at hi
          unfold up
          by_cases ei : i = (tq (pv.take j)).length
          · subst ei; rw [if_pos rfl, hX']
          · rw [if_neg ei, h i (by omega)])
        rw [e, List.length_append] at e1
        refine ⟨mn', ?_, g1⟩
        rw [if_neg (th1 q), addI, addI]
        by_cases h8 : code = 8
        · rw [if_pos h8] at e1
          rw [if_pos (by rw [h8]), inbI (by omega), gdD (by omega), inbI (by omega), gdD (by omega), ixI (by omega), ixI (by omega)]
          exact e1
        · rw [if_neg h8] at e1
          rw [if_neg (by rw [eqI (by omega) (by omega)]; exact h8), gdD (by omega), inbI (by omega), gdD (by omega), ixI (by omega), v2]
          exact e1
def tailB (K code : Nat) (Q : List TV) : List Int32 := if code = 6 then Q.flatMap Prod.snd else if code = 0 ∧ K ≠ 3 then Q.flatMap (plB K) else []
theorem tailB_snoc {K code : Nat} {Q : List TV} {q : TV} : tailB K code (Q ++ [q]) = tailB K code Q ++ (if code = 6 then q.2 else if code = 0 ∧ K ≠ 3 then plB K q else []) := by
  unfold tailB
  split
  · simp
  · split <;> simp
theorem M_tail_L {c f0 K code : Nat} {mk mt : Nat → Int32} {mv : Nat → Int64} {mx : Nat → Int32} {pv : List AV} {L : List Int32} {kx : (Nat → Int32) → Int32 → Option ((Nat → Int32) × Int32 × (Nat → Int64) × (Nat → Int64) × (Nat → Int32))} (hc : c < 5) (hcode : code ≤ 8) (hK : mk c = nI K) (hK3 : K ≤ 3) (h6 : code = 6 → K = 2) (hl : f0 + pv.length ≤ 200) (hv : ∀ (j : Nat) (h : j < pv.length), MV mt mv mx (200 * c + (f0 + j)) pv[j]) (hwf : ∀ a ∈ pv, wfv K a) (hL : L.length + (tailB K code (tq pv)).length ≤ 60000) : ∀ (m n j : Nat) (md : Nat → Int32) (mdd : Int32), pv.length - j = m → j ≤ pv.length → m < n → MOut md mdd (L ++ tailB K code (tq (pv.take j))) → ∃ md' mdd', itr3 (p_X6_page_L340 (nI c) (nI (f0 + pv.length)) (nI code) mk mt mv mx kx) n (nI (f0 + j)) md mdd = kx md' mdd' ∧ MOut md' mdd' (L ++ tailB K code (tq pv)) := by
  intro m
  induction m with
  | zero =>
    intro n j md mdd h1 h2 h3 h
    have : j = pv.length := by omega
    subst this
    cases n with
    | zero => omega
    | succ n =>
      rw [List.take_length] at h
      refine ⟨md, mdd, ?_, h⟩
      show p_X6_page_L340 (nI c) (nI (f0 + pv.length)) (nI code) mk mt mv mx kx _ (nI (f0 + pv.length)) md mdd = _
      rw [p_X6_page_L340, if_neg (by rw [ltI (by omega) (by omega)]; omega)]
  | succ m ih =>
    intro n j md mdd h1 h2 h3 h
    cases n with
    | zero => omega
    | succ n =>
      have hj : j < pv.length := by omega
      have hvj := hv j hj
      have htk := take_snoc hj
      show ∃ md' mdd', p_X6_page_L340 (nI c) (nI (f0 + pv.length)) (nI code) mk mt mv mx kx _ (nI (f0 + j)) md mdd = _ ∧ _
      rw [p_X6_page_L340, if_pos (by rw [ltI (by omega) (by omega)]; omega), p_X6_page_J385, mulI, addI, inbI (by omega), gdD (by omega), gdD (by omega), ixI (by omega), hvj.1, addI]
      cases ha : pv[j] with
      | none =>
        have e : tq (pv.take (j + 1)) = tq (pv.take j) := by rw [← htk, ha, tq_snoc_none]
        rw [if_pos th0, if_pos th0]
        exact ih n (j + 1) md mdd (by omega) (by omega) (by omega) (by rw [e]; exact h)
      | some q =>
        have e : tq (pv.take (j + 1)) = tq (pv.take j) ++ [q] := by rw [← htk, ha, tq_snoc_some]
        have e3 : tq pv = tq (pv.take j) ++ ([q] ++ tq (pv.drop (j + 1))) := by
          conv => lhs; rw [← List.take_append_drop (j + 1) pv, ← htk, ha]
          simp [tq]
        have hq : TVok K q := TVok_of (by rw [← ha]; exact hwf _ (List.getElem_mem hj))
        rw [ha] at hvj
        rw [if_neg (th1 q), if_neg (th1 q)]
        have hlen : (tailB K code (tq (pv.take j))).length + (if code = 6 then q.2 else if code = 0 ∧ K ≠ 3 then plB K q else []).length ≤ (tailB K code (tq pv)).length := by
          have : tailB K code (tq pv) = tailB K code (tq (pv.take j) ++ [q]) ++ tailB K code (tq (pv.drop (j + 1))) := by
            rw [e3]
            unfold tailB
            split
            · simp
            · split <;> simp
          rw [this, tailB_snoc, List.length_append, List.length_append]
          omega
        have hgo : ∀ (md1 : Nat → Int32) (mdd1 : Int32), MOut md1 mdd1 (L ++ tailB K code (tq (pv.take j)) ++ (if code = 6 then q.2 else if code = 0 ∧ K ≠ 3 then plB K q else [])) → ∃ md' mdd', itr3 (p_X6_page_L340 (nI c) (nI (f0 + pv.length)) (nI code) mk mt mv mx kx) n (nI (f0 + (j + 1))) md1 mdd1 = kx md' mdd' ∧ MOut md' mdd' (L ++ tailB K code (tq pv)) := fun md1 mdd1 g1 => ih n (j + 1) md1 mdd1 (by omega) (by omega) (by omega) (by rw [e, tailB_snoc, ← List.append_assoc]; exact g1)
        have e5 : f0 + j + 1 = f0 + (j + 1) := by omega
        rw [e5]
        by_cases c6 : code = 6
        · rw [if_pos c6] at hlen hgo
          have := h6 c6
          subst this
          obtain ⟨md1, mdd1, e1, g1⟩ := M_letters (s := 200 * c + (f0 + j)) (by omega) hq hvj (by rw [List.length_append]; omega) h
          rw [if_pos (by rw [c6]), e1, bdS2]
          exact hgo md1 mdd1 g1
        · rw [if_neg c6] at hlen hgo
          rw [if_neg (by rw [eqI (by omega) (by omega)]; exact c6)]
          by_cases c0 : code = 0
          · rw [if_pos (by rw [c0]), inbI (by omega), gdD (by omega), ixI (show c < 2 ^ 31 by omega), hK]
            by_cases k3 : K = 3
            · rw [if_neg (fun hh => hh.2 k3), List.append_nil] at hgo
              rw [if_pos (by rw [k3])]
              exact hgo md mdd h
            · rw [if_pos ⟨c0, k3⟩] at hgo hlen
              obtain ⟨md1, mdd1, e1, g1⟩ := M_plain (s := 200 * c + (f0 + j)) (by omega) (by omega) hq hvj (by rw [List.length_append]; omega) h
              rw [if_neg (by rw [eqI (by omega) (by omega)]; exact k3), gdD (by omega), e1, bdS2]
              exact hgo md1 mdd1 g1
          · rw [if_neg (fun hh => c0 hh.1), List.append_nil] at hgo
            rw [if_neg (by rw [eqI (by omega) (by omega)]; exact c0)]
            exact hgo md mdd h
end
section
theorem tq_at {pv : List AV} {j : Nat} {q : TV} (h : j < pv.length) (e : pv[j] = some q) : tq pv = tq (pv.take j) ++ ([q] ++ tq (pv.drop (j + 1))) := by
  have htk := take_snoc h
  conv => lhs; rw [← List.take_append_drop (j + 1) pv, ← htk, e]
  simp [tq]
theorem fst_at {pv : List AV} {j : Nat} {q : TV} (h : j < pv.length) (e : pv[j] = some q) : fn ((tq pv).map Prod.fst) (tq (pv.take j)).length = q.1 := by
  rw [tq_at h e, fn_at (by simp), List.getElem_map]
  congr 1
  simp
theorem M_own {n0 : Nat} {l : List Int64} {mn : Nat → Int64} {L : List Int32} {md mbb : Nat → Int32} {mdd : Int32} (hn : n0 ≤ 200) (hl : l.length = n0) (hmn : ∀ i, i < n0 → mn i = fn l i) (hb : (ownB l).length ≤ 20000) (hL : L.length + (ownB l).length ≤ 60000) (h : MOut md mdd L) : ∃ a b md' mdd' mbb', p_X6_runs (nI n0) (nI 1) md mdd mn = some (a, b) ∧ p_X6_sized (nI L.length) a b mbb = some (md', mdd', mbb') ∧ MOut md' mdd' (L ++ ownB l) := by
  unfold ownB at hb hL ⊢
  rw [hl] at hb hL ⊢
  rw [List.length_append, litB_len] at hb hL
  obtain ⟨a, b, e1, g1⟩ := M_runs (w := 1) (mn := mn) (by omega) hn (by rw [runsB_cong hmn]; omega) h
  rw [runsB_cong hmn] at g1
  obtain ⟨md2, mdd2, mbb2, e2, g2⟩ := M_sized (mbb := mbb) (b8L_runs _ _ _ _ _) (by omega) (by omega) g1
  exact ⟨a, b, md2, mdd2, mbb2, e1, e2, g2⟩
theorem M_fin {c f0 K code : Nat} {mk mt : Nat → Int32} {mv : Nat → Int64} {mx : Nat → Int32} {pv : List AV} {L F B : List Int32} {mn mst : Nat → Int64} {md mbb : Nat → Int32} {mdd : Int32} (hc : c < 5) (hcode : code ≤ 8) (hK : mk c = nI K) (hK3 : K ≤ 3) (h6 : code = 6 → K = 2) (hl : f0 + pv.length ≤ 200) (hv : ∀ (j : Nat) (h : j < pv.length), MV mt mv mx (200 * c + (f0 + j)) pv[j]) (hwf : ∀ a ∈ pv, wfv K a) (hF : F ++ tailB K code (tq pv) = B) (hb : b8L B) (hB : B.length ≤ 20000) (hL : L.length + (headB 0 B.length pv.length code).length + B.length ≤ 60000) (h : MOut md mdd (L ++ F)) :
    ∃ md' mdd' mbb', itr3 (p_X6_page_L340 (nI c) (nI (f0 + pv.length)) (nI code) mk mt mv mx (fun md_26 mdd_27 => bd3 (p_X6_headed (nI L.length) (nI 0) (nI (f0 + pv.length) - nI f0) (nI code) md_26 mdd_27 mbb) <| fun md_28 mdd_29 mbb_30 => some (md_28, mdd_29, mn, mst, mbb_30))) fu (nI f0) md mdd = some (md', mdd', mn, mst, mbb') ∧ MOut md' mdd' (L ++ (headB 0 B.length pv.length code ++ B)) := by
  have hFl : F.length + (tailB K code (tq pv)).length = B.length := by rw [← hF, List.length_append]
  obtain ⟨md1, mdd1, e1, g1⟩ := M_tail_L (L := L ++ F) (kx := fun md_26 mdd_27 => bd3 (p_X6_headed (nI L.length) (nI 0) (nI (f0 + pv.length) - nI f0) (nI code) md_26 mdd_27 mbb) <| fun md_28 mdd_29 mbb_30 => some (md_28, mdd_29, mn, mst, mbb_30)) hc hcode hK hK3 h6 hl hv hwf (by rw [List.length_append]; omega) pv.length fu 0 md mdd (by omega) (by omega) (by rw [fu_eq]; omega) (by
    rw [List.take_zero]
    have : tailB K code (tq []) = [] := by simp [tailB, tq]
    rw [this, List.append_nil]
    exact h)
  rw [List.append_assoc, hF] at g1
  obtain ⟨md2, mdd2, mbb2, e2, g2⟩ := M_headed (what := 0) (cnt := pv.length) (code := code) (mbb := mbb) (by omega) (by omega) (by omega) hb hB hL g1
  refine ⟨md2, mdd2, mbb2, e1.trans ?_, g2⟩
  rw [subI (by omega), Nat.add_sub_cancel_left, e2, bdS3]
theorem body0 {K : Nat} {Q : List TV} {pls : List Int64} {w : Nat} (h : K ≠ 3) : bodyB K 0 Q pls w = tailB K 0 Q := by
  unfold bodyB tailB
  rw [if_pos rfl, if_neg h, if_neg (by omega), if_pos ⟨rfl, h⟩]
theorem tail_nil {K code : Nat} {Q : List TV} (h6 : code ≠ 6) (h0 : code = 0 → K = 3) : tailB K code Q = [] := by
  unfold tailB
  rw [if_neg h6, if_neg (fun h => h.2 (h0 h.1))]
abbrev PR : Type := (Nat → Int32) × Int32 × (Nat → Int64) × (Nat → Int64) × (Nat → Int32)
def PageTo (Z : List Int32) (r : Option PR) : Prop := ∃ md' mdd' mn' mst' mbb', r = some (md', mdd', mn', mst', mbb') ∧ MOut md' mdd' Z
theorem M_gather {P : Option PR → Prop} {c f0 code : Nat} {mt mpl : Nat → Int32} {mv mn : Nat → Int64} {mx : Nat → Int32} {pv : List AV} {kx : Int32 → (Nat → Int64) → Option PR} (X : List Int64) (hc : c < 5) (hcode : code ≤ 8) (hl : f0 + pv.length ≤ 200) (hv : ∀ (j : Nat) (h : j < pv.length), MV mt mv mx (200 * c + (f0 + j)) pv[j]) (hX : ∀ (j : Nat) (h : j < pv.length) (q : TV), pv[j] = some q → fn X (tq (pv.take j)).length = if code = 8 then i2l (mpl (f0 + j)) else q.1) (hP : ∀ mn', (∀ i, i < (tq pv).length → mn' i = fn X i) → P (kx (nI (tq pv).length) mn')) : P (itr3 (p_X6_page_L132 (nI c) (nI (f0 + pv.length)) (nI code) mt mv mpl kx) fu (nI 0) (nI f0) mn) := by
  obtain ⟨mn1, e1, g1⟩ := M_gather_L (kx := kx) hc hcode hl hv hX pv.length fu 0 mn (by omega) (by omega) (by rw [fu_eq]; omega) (fun i hi => by simp [tq] at hi)
  rw [show nI 0 = nI (tq (pv.take 0)).length from rfl, show nI f0 = nI (f0 + 0) from rfl, e1]
  exact hP mn1 g1
theorem M_page_J76 {c f0 K way D : Nat} {mk mm mt : Nat → Int32} {mv : Nat → Int64} {mx : Nat → Int32} {pv : List AV} {pls : List Int64} {L lev B : List Int32} {mn mst : Nat → Int64} {md mpl mbb : Nat → Int32} {mdd : Int32} (hc : c < 5) (hway : way ≤ 2) (hK : mk c = nI K) (hK3 : K ≤ 3) (hl : f0 + pv.length ≤ 200) (hv : ∀ (j : Nat) (h : j < pv.length), MV mt mv mx (200 * c + (f0 + j)) pv[j]) (hwf : ∀ a ∈ pv, wfv K a)
    (h1 : way = 1 → mm 5 = nI D ∧ D ≤ 200 ∧ ∀ (j : Nat) (h : j < pv.length) (q : TV), pv[j] = some q → fn pls (tq (pv.take j)).length = i2l (mpl (f0 + j)))
    (hBe : B = lev ++ bodyB K (codeOf K way) (tq pv) pls (widD D)) (hlb : b8L lev) (hB : B.length ≤ 20000) (hL : L.length + (headB 0 B.length pv.length (codeOf K way)).length + B.length ≤ 60000) (h : MOut md mdd (L ++ lev)) :
    PageTo (L ++ (headB 0 B.length pv.length (codeOf K way) ++ B)) (p_X6_page_J76 (nI c) (nI way) (nI f0) (nI (f0 + pv.length)) (nI L.length) mk mm mt mv mx md mdd mn mst mpl mbb) := by
  have hbq : ∀ q ∈ tq pv, b8L q.2 := fun q hq => (hwf _ (tq_mem.mp hq)).2.1
  have hbB : b8L B := by rw [hBe]; exact hlb.app (b8L_body hbq)
  have hple := tq_le pv
  have hBl : lev.length + (bodyB K (codeOf K way) (tq pv) pls (widD D)).length = B.length := by rw [hBe, List.length_append]
  have hLl : (L ++ lev).length = L.length + lev.length := List.length_append
  -- the end of every page
  have fin : ∀ (F : List Int32) (md1 mbb1 : Nat → Int32) (mdd1 : Int32) (mn1 mst1 : Nat → Int64), (codeOf K way = 6 → K = 2) → lev ++ F ++ tailB K (codeOf K way) (tq pv) = B → MOut md1 mdd1 (L ++ lev ++ F) → PageTo (L ++ (headB 0 B.length pv.length (codeOf K way) ++ B)) (itr3 (p_X6_page_L340 (nI c) (nI (f0 + pv.length)) (nI (codeOf K way)) mk mt mv mx (fun md_26 mdd_27 => bd3 (p_X6_headed (nI L.length) (nI 0) (nI (f0 + pv.length) - nI f0) (nI (codeOf K way)) md_26 mdd_27 mbb1) <| fun md_28 mdd_29 mbb_30 => some (md_28, mdd_29, mn1, mst1, mbb_30))) fu (nI f0) md1 mdd1) := by
    intro F md1 mbb1 mdd1 mn1 mst1 h6 hF hm
    have hc8 : codeOf K way ≤ 8 := by
      unfold codeOf
      split
      · omega
      · split
        · omega
        · split
          · omega
          · split <;> omega
    obtain ⟨a, b, d, e, g⟩ := M_fin (mn := mn1) (mst := mst1) (mbb := mbb1) hc hc8 hK hK3 h6 hl hv hwf hF hbB hB hL (by rw [← List.append_assoc]; exact hm)
    exact ⟨a, b, mn1, mst1, d, e, g⟩
  have hfst : ∀ (code : Nat), code ≠ 8 → ∀ (j : Nat) (h : j < pv.length) (q : TV), pv[j] = some q → fn ((tq pv).map Prod.fst) (tq (pv.take j)).length = if code = 8 then i2l (mpl (f0 + j)) else q.1 := fun code h8 j hj q e => by
    rw [if_neg h8]
    exact fst_at hj e
  rw [p_X6_page_J76]
  by_cases w0 : way = 0
  · subst w0
    have ec : codeOf K 0 = 0 := rfl
    rw [ec] at hBl hBe hL fin ⊢
    rw [if_pos rfl]
    refine M_gather (P := PageTo _) ((tq pv).map Prod.fst) hc (by omega) hl hv (hfst 0 (by omega)) (fun mn1 g1 => ?_)
    rw [if_neg (by decide), if_neg (by decide), if_neg (by decide), inbI (by omega), gdD (by omega), ixI (by omega), hK]
    by_cases k3 : K = 3
    · have hbody : bodyB K 0 (tq pv) pls (widD D) = packB (fn ((tq pv).map Prod.fst)) 1 (((tq pv).length + 7) / 8 * 8) := by
        unfold bodyB
        rw [if_pos rfl, if_pos k3]
      have hpl := packB_len (fn ((tq pv).map Prod.fst)) 1 (((tq pv).length + 7) / 8 * 8)
      rw [hbody] at hBl hBe
      obtain ⟨md2, mdd2, e2, g2⟩ := M_packT (mn := mn1) (g := fn ((tq pv).map Prod.fst)) (p := (tq pv).length) (by omega) (fun j hj => (g1 j hj).symm) (fun j hj => by
        unfold fn
        rw [List.getElem?_eq_none (by simpa using hj)]
        rfl) (by omega) h
      rw [if_pos (by rw [k3]), e2, bdS2]
      exact fin _ md2 mbb mdd2 mn1 mst (by omega) (by rw [tail_nil (by omega) (fun _ => k3), List.append_nil]; exact hBe.symm) g2
    · rw [body0 k3] at hBe
      rw [if_neg (by rw [eqI (by omega) (by omega)]; exact k3)]
      exact fin [] md mbb mdd mn1 mst (by omega) (by rw [List.append_nil]; exact hBe.symm) (by rw [List.append_nil]; exact h)
  · rw [if_neg (by rw [eqI (by omega) (by omega)]; exact w0)]
    by_cases w1 : way = 1
    · subst w1
      have ec : codeOf K 1 = 8 := rfl
      rw [ec] at hBl hBe hL fin ⊢
      obtain ⟨h5, hD, hp⟩ := h1 rfl
      have hwd := widD_le hD
      have hbody : bodyB K 8 (tq pv) pls (widD D) = [b8 (nI (widD D))] ++ runsB (fn pls) (widD D) (tq pv).length (tq pv).length 0 := by
        unfold bodyB
        rw [if_neg (by omega), if_neg (by omega), if_neg (by omega), if_neg (by omega)]
      rw [hbody] at hBl hBe
      rw [if_pos rfl]
      refine M_gather (P := PageTo _) pls hc (by omega) hl hv (fun j hj q e => by rw [if_pos rfl]; exact hp j hj q e) (fun mn1 g1 => ?_)
      have hJ : PageTo (L ++ (headB 0 B.length pv.length 8 ++ B)) (p_X6_page_J241 (nI c) (nI f0) (nI (f0 + pv.length)) (nI L.length) (nI (tq pv).length) (nI 8) (nI (widD D)) mk mt mv mx md mdd mn1 mst mbb) := by
        rw [List.length_append, List.length_cons, List.length_nil] at hBl
        obtain ⟨md2, mdd2, e2, g2⟩ := MOut_byte (nI (widD D)) h (by omega)
        obtain ⟨md3, mdd3, e3, g3⟩ := M_runs (w := widD D) (mn := mn1) (n0 := (tq pv).length) hwd (by omega) (by rw [runsB_cong g1, List.length_append, List.length_cons, List.length_nil]; omega) g2
        rw [runsB_cong g1, List.append_assoc] at g3
        rw [p_X6_page_J241, e2, bdS2, e3, bdS2]
        exact fin _ md3 mbb mdd3 mn1 mst (by omega) (by rw [tail_nil (by omega) (by omega), List.append_nil]; exact hBe.symm) g3
      rw [if_pos rfl, gdT (by decide), show ix (nI 5) = 5 from rfl, h5]
      by_cases d2 : D < 2
      · have : widD D = 0 := by unfold widD; rw [if_neg (by omega)]
        rw [this] at hJ
        rw [if_pos (by rw [ltI (by omega) (by omega)]; exact d2)]
        exact hJ
      · have : widD D = bl (lN (D - 1)) := by unfold widD; rw [if_pos (by omega)]
        rw [this] at hJ
        rw [if_neg (by rw [ltI (by omega) (by omega)]; exact d2), gdT (by decide), subI (by omega), i2lI (by omega), M_widthOf, bdS1]
        exact hJ
    · have : way = 2 := by omega
      subst this
      rw [if_neg (by decide), inbI (by omega), gdD (by omega), gdD (by omega), ixI (by omega), hK]
      by_cases k2 : K = 2
      · subst k2
        have ec : codeOf 2 2 = 6 := rfl
        rw [ec] at hBl hBe hL fin ⊢
        have hbody : bodyB 2 6 (tq pv) pls (widD D) = diffB (fn ((tq pv).map Prod.fst)) (tq pv).length 1 ++ tailB 2 6 (tq pv) := by
          unfold bodyB tailB
          rw [if_neg (by omega), if_neg (by omega), if_neg (by omega), if_pos rfl, if_pos rfl]
        rw [hbody] at hBl hBe
        rw [if_pos rfl]
        refine M_gather (P := PageTo _) ((tq pv).map Prod.fst) hc (by omega) hl hv (hfst 6 (by omega)) (fun mn1 g1 => ?_)
        rw [List.length_append] at hBl
        obtain ⟨md2, mdd2, mn2, mst2, e2, g2⟩ := M_diff (n0 := (tq pv).length) (ints := 1) (mn := mn1) (mst := mst) (by omega) (by omega) (by rw [diffB_cong g1]; omega) h
        rw [diffB_cong g1] at g2
        rw [if_neg (by decide), if_neg (by decide), if_pos (by decide), if_pos rfl, e2, bdS4]
        exact fin _ md2 mbb mdd2 mn2 mst2 (fun _ => rfl) (by rw [List.append_assoc]; exact hBe.symm) g2
      · rw [if_neg (by rw [eqI (by omega) (by omega)]; exact k2)]
        by_cases k3 : K = 3
        · subst k3
          have ec : codeOf 3 2 = 3 := rfl
          rw [ec] at hBl hBe hL fin ⊢
          have hbody : bodyB 3 3 (tq pv) pls (widD D) = ownB ((tq pv).map Prod.fst) := by
            unfold bodyB
            rw [if_neg (by omega), if_pos rfl]
          rw [hbody] at hBl hBe
          rw [if_pos rfl]
          refine M_gather (P := PageTo _) ((tq pv).map Prod.fst) hc (by omega) hl hv (hfst 3 (by omega)) (fun mn1 g1 => ?_)
          obtain ⟨a, b, md2, mdd2, mbb2, e2, e3, g2⟩ := M_own (n0 := (tq pv).length) (l := (tq pv).map Prod.fst) (mn := mn1) (mbb := mbb) (by omega) (by rw [List.length_map]) g1 (by omega) (by omega) h
          rw [if_neg (by decide), if_pos rfl, e2, bdS2, h.1, e3, bdS3]
          exact fin _ md2 mbb2 mdd2 mn1 mst (by omega) (by rw [tail_nil (by omega) (by omega), List.append_nil]; exact hBe.symm) g2
        · have ec : codeOf K 2 = 5 := by
            unfold codeOf
            rw [if_neg (by omega), if_neg (by omega), if_neg k2, if_neg k3]
          rw [ec] at hBl hBe hL fin ⊢
          have hbody : bodyB K 5 (tq pv) pls (widD D) = diffB (fn ((tq pv).map Prod.fst)) (tq pv).length (if K = 0 then 1 else 0) := by
            unfold bodyB
            rw [if_neg (by omega), if_neg (by omega), if_pos rfl]
          rw [hbody] at hBl hBe
          rw [if_neg (by rw [eqI (by omega) (by omega)]; exact k3)]
          refine M_gather (P := PageTo _) ((tq pv).map Prod.fst) hc (by omega) hl hv (hfst 5 (by omega)) (fun mn1 g1 => ?_)
          rw [if_neg (by decide), if_neg (by decide), if_pos (by decide), if_neg (by decide), gdD (by omega)]
          by_cases k0 : K = 0
          · rw [if_pos k0] at hBl hBe
            obtain ⟨md2, mdd2, mn2, mst2, e2, g2⟩ := M_diff (n0 := (tq pv).length) (ints := 1) (mn := mn1) (mst := mst) (by omega) (by omega) (by rw [diffB_cong g1]; omega) h
            rw [diffB_cong g1] at g2
            rw [if_pos (by rw [k0]), e2, bdS4]
            exact fin _ md2 mbb mdd2 mn2 mst2 (by omega) (by rw [tail_nil (by omega) (by omega), List.append_nil]; exact hBe.symm) g2
          · rw [if_neg k0] at hBl hBe
            obtain ⟨md2, mdd2, mn2, mst2, e2, g2⟩ := M_diff (n0 := (tq pv).length) (ints := 0) (mn := mn1) (mst := mst) (by omega) (by omega) (by rw [diffB_cong g1]; omega) h
            rw [diffB_cong g1] at g2
            rw [if_neg (by rw [eqI (by omega) (by omega)]; exact k0), e2, bdS4]
            exact fin _ md2 mbb mdd2 mn2 mst2 (by omega) (by rw [tail_nil (by omega) (by omega), List.append_nil]; exact hBe.symm) g2
end
section
/-! lengths of what is written -/
theorem head_len (a n b d : Nat) : (headB a n b d).length ≤ 58 := by
  have h1 := varB_len (zz (lN a))
  have h2 := varB_len (zz (lN n))
  have h3 := varB_len (zz (lN b))
  have h4 := varB_len (zz (lN d))
  unfold headB
  simp only [List.length_append, List.length_cons, List.length_nil]
  omega
theorem own_len (l : List Int64) : (ownB l).length ≤ 12 * l.length + 84 := by
  unfold ownB
  have := runsB_len (g := fn l) (w := 1) (n := l.length) (by omega) l.length 0
  rw [List.length_append, litB_len]
  omega
theorem blks_len {ints : Nat} {st : Nat → Int64} {N : Nat} (h : N < 200) : (blksB ints st N 2 0).length ≤ if N = 0 then 0 else 11 * N + 262 := by
  unfold blksB
  by_cases h0 : N = 0
  · rw [if_pos h0, if_neg (by omega)]
    simp
  · have b1 := blkB_len (ints := ints) (st := st) (a := 0) (e := min (0 + 128) N) (by omega)
    rw [if_neg h0, if_pos (by omega)]
    unfold blksB
    by_cases h1 : 0 + 128 < N
    · have b2 := blkB_len (ints := ints) (st := st) (a := 0 + 128) (e := min (0 + 128 + 128) N) (by omega)
      rw [if_pos h1]
      unfold blksB
      simp only [List.length_append, List.length_nil]
      omega
    · rw [if_neg h1]
      simp only [List.length_append, List.length_nil]
      omega
theorem diff_len {g : Nat → Int64} {n ints : Nat} (h : n ≤ 200) : (diffB g n ints).length ≤ 40 + 273 * (n - 1) ∧ (diffB g n ints).length ≤ 11 * n + 302 := by
  have h1 := varB_len (lN 128)
  have h2 := varB_len (lN 4)
  have h3 := varB_len (lN n)
  have h4 := varB_len (zz (if n = 0 then lN 0 else g 0))
  have h5 := blks_len (ints := ints) (st := dstep ints g) (N := n - 1) (by omega)
  unfold diffB
  simp only [List.length_append]
  generalize (varB (zz (if n = 0 then lN 0 else g 0))).length = d at *
  split at h5
  · omega
  · omega
theorem flat_len {Q : List TV} {f : TV → List Int32} {B : Nat} (h : ∀ q ∈ Q, (f q).length ≤ B) : (Q.flatMap f).length ≤ B * Q.length := by
  induction Q with
  | nil => simp
  | cons q Q ih =>
    rw [List.flatMap_cons, List.length_append, List.length_cons]
    have h1 := h q (by simp)
    have h2 := ih (fun x hx => h x (by simp [hx]))
    rw [Nat.mul_succ]
    omega
theorem pl_len {K : Nat} {q : TV} (h : TVok K q) : (plB K q).length ≤ 44 := by
  unfold plB
  rw [List.length_append, litB_len]
  by_cases k1 : K = 1
  · subst k1
    have := h.2.2
    rw [if_neg (by omega)] at this
    rw [this]
    simp
  · rw [if_neg k1]
    have := h.1
    omega
theorem body_len {K code : Nat} {Q : List TV} {pls : List Int64} {w m : Nat} (hQ : ∀ q ∈ Q, TVok K q) (hm : Q.length ≤ m) (h200 : m ≤ 200) (h1 : 1 ≤ m) (hw : w ≤ 8) (hc : code = 0 ∨ code = 3 ∨ code = 5 ∨ code = 6 ∨ code = 8) : (code = 8 → (bodyB K code Q pls w).length ≤ 12 * m + 81) ∧ (code ≠ 8 → (bodyB K code Q pls w).length ≤ 51 * m + 302 ∧ (m = 1 → (bodyB K code Q pls w).length ≤ 96)) := by
  unfold bodyB
  rcases hc with c | c | c | c | c <;> subst c
  · refine ⟨fun h => by omega, fun _ => ?_⟩
    rw [if_pos rfl]
    by_cases k3 : K = 3
    · rw [if_pos k3, packB_len]
      omega
    · rw [if_neg k3]
      have := flat_len (f := plB K) (fun q hq => pl_len (hQ q hq))
      omega
  · refine ⟨fun h => by omega, fun _ => ?_⟩
    rw [if_neg (by omega), if_pos rfl]
    have hr := own_len (Q.map Prod.fst)
    rw [List.length_map] at hr
    omega
  · refine ⟨fun h => by omega, fun _ => ?_⟩
    rw [if_neg (by omega), if_neg (by omega), if_pos rfl]
    have := diff_len (g := fn (Q.map Prod.fst)) (n := Q.length) (ints := if K = 0 then 1 else 0) (by omega)
    omega
  · refine ⟨fun h => by omega, fun _ => ?_⟩
    rw [if_neg (by omega), if_neg (by omega), if_neg (by omega), if_pos rfl, List.length_append]
    have := diff_len (g := fn (Q.map Prod.fst)) (n := Q.length) (ints := 1) (by omega)
    have h2 := flat_len (f := Prod.snd) (B := 40) (fun q hq => (hQ q hq).1)
    omega
  · refine ⟨fun _ => ?_, fun h => absurd rfl h⟩
    rw [if_neg (by omega), if_neg (by omega), if_neg (by omega), if_neg (by omega), List.length_append, List.length_cons, List.length_nil]
    have hr := runsB_len (g := fn pls) (w := w) (n := Q.length) hw Q.length 0
    omega
theorem codeOf_in {K way : Nat} : codeOf K way = 0 ∨ codeOf K way = 3 ∨ codeOf K way = 5 ∨ codeOf K way = 6 ∨ codeOf K way = 8 := by
  unfold codeOf
  split
  · omega
  · split
    · omega
    · split
      · omega
      · split <;> omega
theorem tq_ok {K : Nat} {pv : List AV} (h : ∀ a ∈ pv, wfv K a) : ∀ q ∈ tq pv, TVok K q := fun q hq => TVok_of (h _ (tq_mem.mp hq))
theorem pbody_len {K O code : Nat} {pv : List AV} {pls : List Int64} {w : Nat} (hw : ∀ a ∈ pv, wfv K a) (h200 : pv.length ≤ 200) (h1 : 1 ≤ pv.length) (h8 : w ≤ 8) (hc : code = 0 ∨ code = 3 ∨ code = 5 ∨ code = 6 ∨ code = 8) : (pbodyB K O code pv pls w).length ≤ 20000 ∧ (pageB K O code pv pls w).length ≤ if code = 8 then 247 * pv.length else 300 * pv.length := by
  have hb := body_len (K := K) (pls := pls) (tq_ok hw) (tq_le pv) h200 h1 h8 hc
  have ho := own_len (pv.map (fun a => lN (th a)))
  rw [List.length_map] at ho
  have hh := head_len 0 (pbodyB K O code pv pls w).length pv.length code
  have hp : (pbodyB K O code pv pls w).length ≤ 12 * pv.length + 84 + (bodyB K code (tq pv) pls w).length := by
    unfold pbodyB
    rw [List.length_append]
    by_cases hO : O = 1
    · rw [if_pos hO]; omega
    · rw [if_neg hO]; simp
  unfold pageB
  rw [List.length_append]
  by_cases c8 : code = 8
  · have := hb.1 c8
    rw [if_pos c8]
    omega
  · have := hb.2 c8
    rw [if_neg c8]
    omega
theorem pages_len {K O code q D : Nat} {vals : List AV} {Ds : List TV} (hw : ∀ a ∈ vals, wfv K a) (h200 : vals.length ≤ 200) (hq : 1 ≤ q) (hD : Ds.length ≤ 200) (hc : code = 0 ∨ code = 3 ∨ code = 5 ∨ code = 6 ∨ code = 8) : ∀ (f a : Nat), (pagesB K O code vals Ds q f a).length ≤ (if code = 8 then 247 else 300) * (vals.length - a) := by
  intro f
  induction f with
  | zero => intro a; simp [pagesB]
  | succ f ih =>
    intro a
    rw [pagesB]
    by_cases ha : a < vals.length
    · have hl := pv_len (vals := vals) (a := a) (q := q)
      have hp := pbody_len (K := K) (O := O) (code := code) (pv := (vals.drop a).take q) (pls := plsB Ds ((vals.drop a).take q)) (w := widD Ds.length) (fun x hx => hw x (List.mem_of_mem_drop (List.mem_of_mem_take hx))) (by omega) (by omega) (widD_le hD) hc
      have hi := ih (a + q)
      have hp2 := hp.2
      rw [if_pos ha, List.length_append]
      by_cases c8 : code = 8
      · rw [if_pos c8] at hi hp2 ⊢
        omega
      · rw [if_neg c8] at hi hp2 ⊢
        omega
    · rw [if_neg ha]
      simp
theorem dict_len {K : Nat} {D : List TV} (hD : D.length ≤ 200) (h3 : K ≠ 3) (hw : ∀ d ∈ D, TVok K d) : (bodyB K 0 D [] 0).length ≤ 44 * D.length ∧ (dictB K D).length ≤ 58 + 44 * D.length := by
  have hh := head_len 2 (bodyB K 0 D [] 0).length D.length 0
  have hb : (bodyB K 0 D [] 0).length ≤ 44 * D.length := by
    unfold bodyB
    rw [if_pos rfl, if_neg h3]
    exact flat_len (fun q hq => pl_len (hw q hq))
  refine ⟨hb, ?_⟩
  unfold dictB
  rw [List.length_append]
  omega
theorem write_len {K O way q : Nat} {vals : List AV} (hw : ∀ a ∈ vals, wfv K a) (h200 : vals.length ≤ 200) (hq : 1 ≤ q) (h13 : way = 1 → K ≠ 3) : (writeB K O vals way q).length ≤ 60000 := by
  have hD := DL_len (tq vals)
  have hql := tq_le vals
  have hp := pages_len (K := K) (O := O) (q := q) (D := 0) (Ds := DL (tq vals)) hw h200 hq (by omega) (codeOf_in (K := K) (way := way)) vals.length 0
  unfold writeB
  rw [List.length_append]
  by_cases w1 : way = 1
  · have ec : codeOf K way = 8 := by unfold codeOf; rw [if_neg (by omega), if_pos w1]
    have hd := dict_len (K := K) (D := DL (tq vals)) (by omega) (h13 w1) (fun d hd => tq_ok hw d ((DL_mem _ _).mp hd))
    rw [if_pos ec] at hp
    split
    · omega
    · simp only [List.length_nil]; omega
  · rw [if_neg (fun h => w1 h.1)]
    simp only [List.length_nil]
    split at hp <;> omega
theorem b8L_pages {K O code q : Nat} {vals : List AV} {Ds : List TV} (hw : ∀ a ∈ vals, wfv K a) : ∀ (f a : Nat), b8L (pagesB K O code vals Ds q f a) := by
  intro f
  induction f with
  | zero => intro a; exact b8L_nil
  | succ f ih =>
    intro a
    rw [pagesB]
    split
    · refine b8L.app ?_ (ih _)
      unfold pageB
      exact (b8L_head _ _ _ _).app (b8L_pbody (fun t ht => (hw _ (List.mem_of_mem_drop (List.mem_of_mem_take (tq_mem.mp ht)))).2.1))
    · exact b8L_nil
theorem b8L_write {K O way q : Nat} {vals : List AV} (hw : ∀ a ∈ vals, wfv K a) : b8L (writeB K O vals way q) := by
  unfold writeB
  refine b8L.app ?_ (b8L_pages hw _ _)
  split
  · unfold dictB
    exact (b8L_head _ _ _ _).app (b8L_body (fun t ht => (hw _ (tq_mem.mp ((DL_mem _ _).mp ht))).2.1))
  · exact b8L_nil
end
section
theorem M_page {c f0 K O way D : Nat} {mk mo mm mt : Nat → Int32} {mv : Nat → Int64} {mx : Nat → Int32} {pv : List AV} {pls : List Int64} {L : List Int32} {mn mst : Nat → Int64} {md mpl mbb : Nat → Int32} {mdd : Int32} (hc : c < 5) (hway : way ≤ 2) (hK : mk c = nI K) (hK3 : K ≤ 3) (hO : mo c = nI O) (hO1 : O ≤ 1) (hl : f0 + pv.length ≤ 200) (hv : ∀ (j : Nat) (h : j < pv.length), MV mt mv mx (200 * c + (f0 + j)) pv[j]) (hwf : ∀ a ∈ pv, wfv K a)
    (h1 : way = 1 → mm 5 = nI D ∧ D ≤ 200 ∧ ∀ (j : Nat) (h : j < pv.length) (q : TV), pv[j] = some q → fn pls (tq (pv.take j)).length = i2l (mpl (f0 + j)))
    (hB : (pbodyB K O (codeOf K way) pv pls (widD D)).length ≤ 20000) (hL : L.length + (pageB K O (codeOf K way) pv pls (widD D)).length ≤ 60000) (h : MOut md mdd L) :
    PageTo (L ++ pageB K O (codeOf K way) pv pls (widD D)) (p_X6_page (nI c) (nI way) (nI f0) (nI (f0 + pv.length)) mk mo mm mt mv mx md mdd mn mst mpl mbb) := by
  have hL2 : L.length + (headB 0 (pbodyB K O (codeOf K way) pv pls (widD D)).length pv.length (codeOf K way)).length + (pbodyB K O (codeOf K way) pv pls (widD D)).length ≤ 60000 := by
    unfold pageB at hL
    rw [List.length_append] at hL
    omega
  unfold pageB
  unfold p_X6_page
  rw [inbI (by omega), gdD (by omega), ixI (by omega), hO]
  by_cases o0 : O = 0
  · rw [if_pos (by rw [o0]), h.1]
    have hm : MOut md (nI L.length) (L ++ []) := by rw [List.append_nil, ← h.1]; exact h
    exact M_page_J76 (lev := []) hc hway hK hK3 hl hv hwf h1 (by unfold pbodyB; rw [if_neg (by omega)]) b8L_nil hB hL2 hm
  · have o1 : O = 1 := by omega
    subst o1
    have hpb : pbodyB K 1 (codeOf K way) pv pls (widD D) = ownB (pv.map (fun a => lN (th a))) ++ bodyB K (codeOf K way) (tq pv) pls (widD D) := by unfold pbodyB; rw [if_pos rfl]
    have hlen : (ownB (pv.map (fun a => lN (th a)))).length ≤ (pbodyB K 1 (codeOf K way) pv pls (widD D)).length := by rw [hpb, List.length_append]; omega
    rw [if_neg (by decide)]
    obtain ⟨mn1, e1, g1⟩ := M_levels_L (β := Nat) (mn := mn) (kx := fun mn_379 =>
        bd2 (p_X6_runs (nI (f0 + pv.length) - nI f0) (nI 1) md mdd mn_379) <| fun md_380 mdd_381 =>
        bd3 (p_X6_sized mdd md_380 mdd_381 mbb) <| fun md_383 mdd_384 mbb_385 =>
        p_X6_page_J76 (nI c) (nI way) (nI f0) (nI (f0 + pv.length)) mdd mk mm mt mv mx md_383 mdd_384 mn_379 mst mpl mbb_385) hc hl hv pv.length fu 0 (by omega) (by omega) (by rw [fu_eq]; omega) (fun i _ h => by omega)
    obtain ⟨a, b, md2, mdd2, mbb2, e2, e3, g2⟩ := M_own (n0 := pv.length) (l := pv.map (fun a => lN (th a))) (mn := mn1) (mbb := mbb) (by omega) (by rw [List.length_map]) g1 (by omega) (by omega) h
    obtain ⟨md3, mdd3, mn3, mst3, mbb3, e4, g4⟩ := M_page_J76 (L := L) (mn := mn1) (mst := mst) (mbb := mbb2) hc hway hK hK3 hl hv hwf h1 hpb (b8L_own _) hB hL2 g2
    refine ⟨md3, mdd3, mn3, mst3, mbb3, e1.trans ?_, g4⟩
    rw [subI (by omega), Nat.add_sub_cancel_left, e2, bdS2, h.1, e3, bdS3]
    exact e4
theorem M_pages_L {c K O way q : Nat} {mk mo mm mt : Nat → Int32} {mv : Nat → Int64} {mx mpl : Nat → Int32} {vals : List AV} {kx : (Nat → Int32) → Int32 → (Nat → Int64) → (Nat → Int64) → (Nat → Int32) → Option (Int32 × (Nat → Int32) × (Nat → Int32) × (Nat → Int64) × (Nat → Int32) × (Nat → Int32) × Int32 × (Nat → Int32) × Int32 × (Nat → Int64) × (Nat → Int64) × (Nat → Int32) × (Nat → Int32))} (hc : c < 5) (hl : vals.length ≤ 200) (hm : mm c = nI vals.length) (hK : mk c = nI K) (hK3 : K ≤ 3) (hO : mo c = nI O) (hO1 : O ≤ 1) (hv : MCol mt mv mx c vals) (hw : ∀ a ∈ vals, wfv K a) (hway : way ≤ 2) (hq : 1 ≤ q) (hq2 : q ≤ 200)
    (hp : way = 1 → PLC mpl vals (DL (tq vals)) vals.length ∧ mm 5 = nI (DL (tq vals)).length) : ∀ (f n a : Nat) (L : List Int32) (md : Nat → Int32) (mdd : Int32) (mn mst : Nat → Int64) (mbb : Nat → Int32), vals.length - a ≤ f → a ≤ 400 → f < n → MOut md mdd L → L.length + (pagesB K O (codeOf K way) vals (DL (tq vals)) q f a).length ≤ 60000 → ∃ md' mdd' mn' mst' mbb', itr6 (p_X6_write_L124 (nI c) (nI way) (nI q) mk mo mm mt mv mx mpl kx) n (nI a) md mdd mn mst mbb = kx md' mdd' mn' mst' mbb' ∧ MOut md' mdd' (L ++ pagesB K O (codeOf K way) vals (DL (tq vals)) q f a) := by
  have hD := DL_len (tq vals)
  have hql := tq_le vals
  intro f
  induction f with
  | zero =>
    intro n a L md mdd mn mst mbb h1 h2 h3 h hL
    cases n with
    | zero => omega
    | succ n =>
      refine ⟨md, mdd, mn, mst, mbb, ?_, by simpa [pagesB] using h⟩
      show p_X6_write_L124 (nI c) (nI way) (nI q) mk mo mm mt mv mx mpl kx _ (nI a) md mdd mn mst mbb = _
      rw [p_X6_write_L124, inbI (by omega), gdD (by omega), ixI (by omega), hm, if_neg (by rw [ltI (by omega) (by omega)]; omega)]
  | succ f ih =>
    intro n a L md mdd mn mst mbb h1 h2 h3 h hL
    cases n with
    | zero => omega
    | succ n =>
      show ∃ md' mdd' mn' mst' mbb', p_X6_write_L124 (nI c) (nI way) (nI q) mk mo mm mt mv mx mpl kx _ (nI a) md mdd mn mst mbb = _ ∧ _
      rw [p_X6_write_L124, inbI (by omega), gdD (by omega), ixI (by omega), hm]
      rw [pagesB] at hL ⊢
      by_cases ha : a < vals.length
      · have hpl := pv_len (vals := vals) (a := a) (q := q)
        rw [if_pos ha, List.length_append] at hL
        rw [if_pos (show nI a < nI vals.length by rw [ltI (by omega) (by omega)]; exact ha), if_pos ha, gdD (by omega), gdD (by omega), addI]
        have hwf : ∀ x ∈ (vals.drop a).take q, wfv K x := fun x hx => hw x (List.mem_of_mem_drop (List.mem_of_mem_take hx))
        have hb := pbody_len (K := K) (O := O) (code := codeOf K way) (pv := (vals.drop a).take q) (pls := plsB (DL (tq vals)) ((vals.drop a).take q)) (w := widD (DL (tq vals)).length) hwf (by omega) (by omega) (widD_le (by omega)) codeOf_in
        have hmv : ∀ (j : Nat) (h : j < ((vals.drop a).take q).length), MV mt mv mx (200 * c + (a + j)) ((vals.drop a).take q)[j] := fun j hj => by
          obtain ⟨h5, h6⟩ := pv_at hj
          rw [h6]
          exact hv _ h5
        have hpg := M_page (mn := mn) (mst := mst) (mbb := mbb) (mpl := mpl) (mm := mm) (D := (DL (tq vals)).length) (pls := plsB (DL (tq vals)) ((vals.drop a).take q)) hc hway hK hK3 hO hO1 (show a + ((vals.drop a).take q).length ≤ 200 by omega) hmv hwf (fun w1 => ⟨(hp w1).2, by omega, fun j hj t e => by
          obtain ⟨h5, h6⟩ := pv_at hj
          rw [h6] at e
          have hlt := idx_lt ((DL_mem _ t).mpr (tq_mem.mpr (by rw [← e]; exact List.getElem_mem h5)))
          rw [(hp w1).1 (a + j) h5 h5 t e, i2lI (by omega)]
          unfold plsB
          rw [tq_at hj (by rw [h6]; exact e), fn_at (by simp), List.getElem_map]
          congr 2
          simp⟩) hb.1 (by omega) h
        obtain ⟨md1, mdd1, mn1, mst1, mbb1, e1, g1⟩ := hpg
        obtain ⟨md2, mdd2, mn2, mst2, mbb2, e2, g2⟩ := ih n (a + q) _ md1 mdd1 mn1 mst1 mbb1 (by omega) (by omega) (by omega) g1 (by rw [List.length_append]; omega)
        refine ⟨md2, mdd2, mn2, mst2, mbb2, ?_, by simpa [List.append_assoc] using g2⟩
        by_cases hlt : a + q < vals.length
        · rw [show a + ((vals.drop a).take q).length = a + q by omega] at e1
          rw [if_pos (by rw [ltI (by omega) (by omega)]; exact hlt), e1, bdS5]
          exact e2
        · rw [show a + ((vals.drop a).take q).length = vals.length by omega] at e1
          rw [if_neg (by rw [ltI (by omega) (by omega)]; exact hlt), e1, bdS5]
          exact e2
      · rw [if_neg (show ¬ nI a < nI vals.length by rw [ltI (by omega) (by omega)]; exact ha), if_neg ha]
        exact ⟨md, mdd, mn, mst, mbb, rfl, by simpa using h⟩
end
section
theorem M_dplain_L {c K : Nat} {mk mm mt : Nat → Int32} {mv : Nat → Int64} {mx : Nat → Int32} {D : List TV} {β : Type} {kx : (Nat → Int32) → Int32 → Option (Int32 × (Nat → Int32) × (Nat → Int32) × (Nat → Int64) × (Nat → Int32) × (Nat → Int32) × Int32 × (Nat → Int32) × Int32 × (Nat → Int64) × (Nat → Int64) × (Nat → Int32) × (Nat → Int32))} (hc : c < 5) (hK : mk c = nI K) (hK3 : K < 3) (h5 : mm 5 = nI D.length) (hD : D.length ≤ 200) (hd : MDic mt mv mx D) (hok : ∀ d ∈ D, TVok K d) (hL : (D.flatMap (plB K)).length ≤ 60000) : ∀ (m n j : Nat) (md : Nat → Int32) (mdd : Int32), D.length - j = m → j ≤ D.length → m < n → MOut md mdd ((D.take j).flatMap (plB K)) → ∃ md' mdd', itr3 (p_X6_write_L75 (nI c) mk mm mv mx kx) n (nI j) md mdd = kx md' mdd' ∧ MOut md' mdd' (D.flatMap (plB K)) := by
  intro m
  induction m with
  | zero =>
    intro n j md mdd h1 h2 h3 h
    have : j = D.length := by omega
    subst this
    cases n with
    | zero => omega
    | succ n =>
      rw [List.take_length] at h
      refine ⟨md, mdd, ?_, h⟩
      show p_X6_write_L75 (nI c) mk mm mv mx kx _ (nI D.length) md mdd = _
      rw [p_X6_write_L75, gdT (by decide), show ix (nI 5) = 5 from rfl, h5, if_neg (by rw [ltI (by omega) (by omega)]; omega)]
  | succ m ih =>
    intro n j md mdd h1 h2 h3 h
    cases n with
    | zero => omega
    | succ n =>
      have hj : j < D.length := by omega
      have htk := take_snoc hj
      have hlen : ((D.take j).flatMap (plB K)).length + (plB K D[j]).length ≤ (D.flatMap (plB K)).length := by
        have e : D.flatMap (plB K) = ((D.take j) ++ [D[j]]).flatMap (plB K) ++ (D.drop (j + 1)).flatMap (plB K) := by
          rw [htk, ← List.flatMap_append, List.take_append_drop]
        rw [e, flatMap_snoc, List.length_append, List.length_append]
        omega
      obtain ⟨md1, mdd1, e1, g1⟩ := M_plain (s := 1000 + j) (K := K) (by omega) hK3 (hok _ (List.getElem_mem hj)) (hd j hj) (by omega) h
      rw [← flatMap_snoc, htk] at g1
      obtain ⟨md2, mdd2, e2, g2⟩ := ih n (j + 1) md1 mdd1 (by omega) (by omega) (by omega) g1
      refine ⟨md2, mdd2, ?_, g2⟩
      show p_X6_write_L75 (nI c) mk mm mv mx kx _ (nI j) md mdd = _
      rw [p_X6_write_L75, gdT (by decide), show ix (nI 5) = 5 from rfl, h5, if_pos (by rw [ltI (by omega) (by omega)]; omega), addI, inbI (by omega), gdD (by omega), ixI (by omega), hK, e1, bdS2, addI]
      exact e2
abbrev WR : Type := Int32 × (Nat → Int32) × (Nat → Int32) × (Nat → Int64) × (Nat → Int32) × (Nat → Int32) × Int32 × (Nat → Int32) × Int32 × (Nat → Int64) × (Nat → Int64) × (Nat → Int32) × (Nat → Int32)
theorem M_tofile_L {s0 : Nat} {md : Nat → Int32} {mf : Nat → Int32} {Z : List Int32} {kx : (Nat → Int32) → Option WR} (hs : s0 + Z.length ≤ 12000) (hb : b8L Z) (h : Seg md Z) : ∀ (m n k : Nat), Z.length - k = m → k ≤ Z.length → m < n → itr2 (p_X6_write_L212 (nI s0) md (nI Z.length) kx) n (nI k) (wr mf s0 (Z.take k)) = kx (wr mf s0 Z) := by
  intro m
  induction m with
  | zero =>
    intro n k h1 h2 h3
    have : k = Z.length := by omega
    subst this
    cases n with
    | zero => omega
    | succ n =>
      rw [List.take_length]
      show p_X6_write_L212 (nI s0) md (nI Z.length) kx _ (nI Z.length) _ = _
      rw [p_X6_write_L212, if_neg (by rw [ltI (by omega) (by omega)]; omega)]
  | succ m ih =>
    intro n k h1 h2 h3
    cases n with
    | zero => omega
    | succ n =>
      have hk : k < Z.length := by omega
      show p_X6_write_L212 (nI s0) md (nI Z.length) kx _ (nI k) _ = _
      rw [p_X6_write_L212, if_pos (by rw [ltI (by omega) (by omega)]; omega), addI, inbI (by omega), gdD (by omega), inbI (by omega), gdD (by omega), ixI (by omega), ixI (by omega), h k hk, hb _ (List.getElem_mem hk), addI]
      have e2 : s0 + k = s0 + (Z.take k).length := by rw [List.length_take]; omega
      rw [e2, wr_snoc, take_snoc hk]
      exact ih n (k + 1) (by omega) (by omega) (by omega)
/-- what write answers, and what it makes of the file -/
theorem M_J191 {s0 : Nat} {Z : List Int32} {mm mt : Nat → Int32} {mv : Nat → Int64} {mx mf : Nat → Int32} {ms : Int32} {md : Nat → Int32} {mdd : Int32} {mn mst : Nat → Int64} {mpl mbb : Nat → Int32} (hs : s0 ≤ 12000) (hZ : Z.length ≤ 60000) (hb : b8L Z) (h : MOut md mdd Z) : p_X6_write_J191 (nI s0) mm mt mv mx mf ms md mdd mn mst mpl mbb = some (if 12000 < s0 + Z.length then ((-3 : Int32), mm, mt, mv, mx, mf, ms, md, mdd, mn, mst, mpl, mbb) else (nI (s0 + Z.length), mm, mt, mv, mx, wr mf s0 Z, nI (s0 + Z.length), md, mdd, mn, mst, mpl, mbb)) := by
  rw [p_X6_write_J191, h.1, addI]
  by_cases hf : 12000 < s0 + Z.length
  · rw [if_pos (by rw [ltI (by omega) (by omega)]; exact hf), if_pos hf]
  · rw [if_neg (by rw [ltI (by omega) (by omega)]; exact hf), if_neg hf]
    have e := M_tofile_L (s0 := s0) (mf := mf) (kx := fun mf_49 => some (nI (s0 + Z.length), mm, mt, mv, mx, mf_49, nI (s0 + Z.length), md, nI Z.length, mn, mst, mpl, mbb)) (by omega) hb h.2 Z.length fu 0 (by omega) (by omega) (by rw [fu_eq]; omega)
    rw [List.take_zero, wr_nil] at e
    exact e
def WriteTo (s0 : Nat) (Z : List Int32) (mf : Nat → Int32) (ms : Int32) (mm mt : Nat → Int32) (mv : Nat → Int64) (mx : Nat → Int32) (r : Option WR) : Prop := ∃ mm' mt' mv' mx' md' mdd' mn' mst' mpl' mbb', r = some (if 12000 < s0 + Z.length then ((-3 : Int32), mm', mt', mv', mx', mf, ms, md', mdd', mn', mst', mpl', mbb') else (nI (s0 + Z.length), mm', mt', mv', mx', wr mf s0 Z, nI (s0 + Z.length), md', mdd', mn', mst', mpl', mbb')) ∧ (∀ j, j ≠ 5 → mm' j = mm j) ∧ MFr 1000 mt mv mx mt' mv' mx'
theorem M_write_J34 {c K O way q s0 S : Nat} {ap : Int32} {mk mo mm mt : Nat → Int32} {mv : Nat → Int64} {mx : Nat → Int32} {vals : List AV} {mf : Nat → Int32} {md : Nat → Int32} {mdd : Int32} {mn mst : Nat → Int64} {mpl mbb : Nat → Int32} (hc : c < 5) (hl : vals.length ≤ 200) (hm : mm c = nI vals.length) (hK : mk c = nI K) (hK3 : K ≤ 3) (hO : mo c = nI O) (hO1 : O ≤ 1) (hv : MCol mt mv mx c vals) (hw : ∀ a ∈ vals, wfv K a) (hway : way ≤ 2) (hq : 1 ≤ q) (hq2 : q ≤ 200) (h13 : way = 1 → K ≠ 3) (hS : S ≤ 12000) (hs0 : s0 = if ap = nI 0 then 0 else S) :
    WriteTo s0 (writeB K O vals way q) mf (nI S) mm mt mv mx (p_X6_write_J34 (nI c) (nI way) (nI q) ap mk mo mm mt mv mx mf (nI S) md mdd mn mst mpl mbb) := by
  have hD := DL_len (tq vals)
  have hql := tq_le vals
  have hwl := write_len (O := O) hw hl hq h13
  have hb := b8L_write (K := K) (O := O) (way := way) (q := q) hw
  have hs : s0 ≤ 12000 := by rw [hs0]; split <;> omega
  have fin : ∀ (mm' mt' : Nat → Int32) (mv' : Nat → Int64) (mx' md' : Nat → Int32) (mdd' : Int32) (mn' mst' : Nat → Int64) (mpl' mbb' : Nat → Int32), MOut md' mdd' (writeB K O vals way q) → (∀ j, j ≠ 5 → mm' j = mm j) → MFr 1000 mt mv mx mt' mv' mx' → WriteTo s0 (writeB K O vals way q) mf (nI S) mm mt mv mx (if ap = nI 0 then p_X6_write_J191 (nI 0) mm' mt' mv' mx' mf (nI S) md' mdd' mn' mst' mpl' mbb' else p_X6_write_J191 (nI S) mm' mt' mv' mx' mf (nI S) md' mdd' mn' mst' mpl' mbb') := by
    intro mm' mt' mv' mx' md' mdd' mn' mst' mpl' mbb' h1 h2 h3
    have e := M_J191 (s0 := s0) (ms := nI S) (mm := mm') (mt := mt') (mv := mv') (mx := mx') (mf := mf) (mn := mn') (mst := mst') (mpl := mpl') (mbb := mbb') hs hwl hb h1
    refine ⟨mm', mt', mv', mx', md', mdd', mn', mst', mpl', mbb', ?_, h2, h3⟩
    rw [← e]
    by_cases ha : ap = nI 0
    · rw [if_pos ha, hs0, if_pos ha]
    · rw [if_neg ha, hs0, if_neg ha]
  rw [p_X6_write_J34, M_in_nat (by omega) (by omega) (by omega), bdS1, if_pos (show 1 ≤ q ∧ q ≤ 200 from ⟨hq, hq2⟩), if_neg (by decide)]
  have nodict : ¬ (way = 1 ∧ 0 < vals.length) → (way = 1 → vals.length = 0) → ∃ md' mdd' mn' mst' mbb', itr6 (p_X6_write_L124 (nI c) (nI way) (nI q) mk mo mm mt mv mx mpl (fun md_55 mdd_56 mn_57 mst_58 mbb_59 =>
          if ap = nI 0 then
            p_X6_write_J191 (nI 0) mm mt mv mx mf (nI S) md_55 mdd_56 mn_57 mst_58 mpl mbb_59
          else
            p_X6_write_J191 (nI S) mm mt mv mx mf (nI S) md_55 mdd_56 mn_57 mst_58 mpl mbb_59)) fu (nI 0) md (nI 0) mn mst mbb = (if ap = nI 0 then p_X6_write_J191 (nI 0) mm mt mv mx mf (nI S) md' mdd' mn' mst' mpl mbb' else p_X6_write_J191 (nI S) mm mt mv mx mf (nI S) md' mdd' mn' mst' mpl mbb') ∧ MOut md' mdd' (writeB K O vals way q) := by
    intro hn h0
    have hz : MOut md (nI 0) [] := ⟨rfl, fun k h => by simp at h⟩
    by_cases w1 : way = 1
    · have hv0 := h0 w1
      refine ⟨md, nI 0, mn, mst, mbb, ?_, ?_⟩
      · obtain ⟨m, ef⟩ : ∃ m, fu = m + 1 := ⟨1048575, rfl⟩
        rw [ef]
        show p_X6_write_L124 (nI c) (nI way) (nI q) mk mo mm mt mv mx mpl _ _ (nI 0) md (nI 0) mn mst mbb = _
        rw [p_X6_write_L124, inbI (by omega), gdD (by omega), ixI (by omega), hm, hv0, if_neg (by decide)]
      · unfold writeB
        rw [if_neg hn, hv0]
        simpa [pagesB] using hz
    · obtain ⟨md1, mdd1, mn1, mst1, mbb1, e1, g1⟩ := M_pages_L (O := O) (mpl := mpl) (kx := fun md_55 mdd_56 mn_57 mst_58 mbb_59 =>
          if ap = nI 0 then
            p_X6_write_J191 (nI 0) mm mt mv mx mf (nI S) md_55 mdd_56 mn_57 mst_58 mpl mbb_59
          else
            p_X6_write_J191 (nI S) mm mt mv mx mf (nI S) md_55 mdd_56 mn_57 mst_58 mpl mbb_59) hc hl hm hK hK3 hO hO1 hv hw hway hq hq2 (fun h => absurd h w1) vals.length fu 0 [] md (nI 0) mn mst mbb (by omega) (by omega) (by rw [fu_eq]; omega) hz (by
            unfold writeB at hwl
            rw [if_neg hn] at hwl
            simpa using hwl)
      refine ⟨md1, mdd1, mn1, mst1, mbb1, e1, ?_⟩
      unfold writeB
      rw [if_neg hn]
      exact g1
  by_cases w1 : way = 1
  · rw [if_pos (by rw [w1]), inbI (by omega), gdD (by omega), ixI (by omega), hm]
    by_cases h0 : 0 < vals.length
    · rw [if_pos (by rw [ltI (by omega) (by omega)]; exact h0)]
      obtain ⟨mt1, mv1, mx1, mpl1, e1, gd1, gp1, gf1⟩ := M_dict (mpl := mpl) hc hl hw hm hv
      have hok : ∀ d ∈ DL (tq vals), TVok K d := fun d hd => tq_ok hw d ((DL_mem _ _).mp hd)
      have k3 := h13 w1
      have hdl := dict_len (K := K) (D := DL (tq vals)) (by omega) k3 hok
      have hbo : bodyB K 0 (DL (tq vals)) [] 0 = (DL (tq vals)).flatMap (plB K) := by
        unfold bodyB
        rw [if_pos rfl, if_neg k3]
      rw [e1, bdS5]
      have hm5 : up mm 5 (nI (DL (tq vals)).length) 5 = nI (DL (tq vals)).length := up_s
      have hmc : up mm 5 (nI (DL (tq vals)).length) c = nI vals.length := by rw [up_n (show c ≠ 5 by omega)]; exact hm
      obtain ⟨md2, mdd2, e2, g2⟩ := M_dplain_L (c := c) (mk := mk) (β := Nat) (kx := fun md_20 mdd_21 =>
            gd (inb (nI 5) 7) <|
            bd3 (p_X6_headed (nI 0) (nI 2) (up mm 5 (nI (DL (tq vals)).length) (ix (nI 5))) (nI 0) md_20 mdd_21 mbb) <| fun md_23 mdd_24 mbb_25 =>
            itr6 (p_X6_write_L124 (nI c) (nI way) (nI q) mk mo (up mm 5 (nI (DL (tq vals)).length)) mt1 mv1 mx1 mpl1 (fun md_42 mdd_43 mn_44 mst_45 mbb_46 =>
                if ap = nI 0 then
                  p_X6_write_J191 (nI 0) (up mm 5 (nI (DL (tq vals)).length)) mt1 mv1 mx1 mf (nI S) md_42 mdd_43 mn_44 mst_45 mpl1 mbb_46
                else
                  p_X6_write_J191 (nI S) (up mm 5 (nI (DL (tq vals)).length)) mt1 mv1 mx1 mf (nI S) md_42 mdd_43 mn_44 mst_45 mpl1 mbb_46)) fu (nI 0) md_23 mdd_24 mn mst mbb_25) hc hK (by omega) hm5 (by omega) gd1 hok (by rw [hbo] at hdl; omega) (DL (tq vals)).length fu 0 md (nI 0) (by omega) (by omega) (by rw [fu_eq]; omega) ⟨rfl, fun k h => by simp at h⟩
      have hhl := head_len 2 (bodyB K 0 (DL (tq vals)) [] 0).length (DL (tq vals)).length 0
      obtain ⟨md3, mdd3, mbb3, e3, g3⟩ := M_headed (L := []) (what := 2) (cnt := (DL (tq vals)).length) (code := 0) (mbb := mbb) (by omega) (by omega) (by omega) (b8L_body (K := K) (code := 0) (pls := []) (w := 0) (fun t ht => (hok t ht).2.1)) (by omega) (by simp only [List.length_nil]; omega) (by rw [hbo, List.nil_append]; exact g2)
      rw [List.nil_append] at g3
      have hwb : writeB K O vals way q = dictB K (DL (tq vals)) ++ pagesB K O (codeOf K way) vals (DL (tq vals)) q vals.length 0 := by
        unfold writeB
        rw [if_pos ⟨w1, h0⟩]
      obtain ⟨md4, mdd4, mn4, mst4, mbb4, e4, g4⟩ := M_pages_L (O := O) (mpl := mpl1) (kx := fun md_42 mdd_43 mn_44 mst_45 mbb_46 =>
                if ap = nI 0 then
                  p_X6_write_J191 (nI 0) (up mm 5 (nI (DL (tq vals)).length)) mt1 mv1 mx1 mf (nI S) md_42 mdd_43 mn_44 mst_45 mpl1 mbb_46
                else
                  p_X6_write_J191 (nI S) (up mm 5 (nI (DL (tq vals)).length)) mt1 mv1 mx1 mf (nI S) md_42 mdd_43 mn_44 mst_45 mpl1 mbb_46) hc hl hmc hK hK3 hO hO1 (gf1.col hv (by omega)) hw hway hq hq2 (fun _ => ⟨gp1, hm5⟩) vals.length fu 0 (dictB K (DL (tq vals))) md3 mdd3 mn mst mbb3 (by omega) (by omega) (by rw [fu_eq]; omega) g3 (by rw [hwb, List.length_append] at hwl; omega)
      rw [← hwb] at g4
      have := fin (up mm 5 (nI (DL (tq vals)).length)) mt1 mv1 mx1 md4 mdd4 mn4 mst4 mpl1 mbb4 g4 (fun j hj => up_n hj) gf1
      rw [← e4] at this
      have e5 := e2
      have e3' : p_X6_headed (nI 0) (nI 2) (nI (DL (tq vals)).length) (nI 0) md2 mdd2 mbb = some (md3, mdd3, mbb3) := e3
      rw [gdT (by decide), show ix (nI 5) = 5 from rfl, hm5, e3', bdS3] at e5
      rw [← e5] at this
      exact this
    · rw [if_neg (by rw [ltI (by omega) (by omega)]; exact h0)]
      obtain ⟨md1, mdd1, mn1, mst1, mbb1, e1, g1⟩ := nodict (fun h => h0 h.2) (fun _ => by omega)
      rw [e1]
      exact fin mm mt mv mx md1 mdd1 mn1 mst1 mpl mbb1 g1 (fun _ _ => rfl) MFr.rf
  · rw [if_neg (by rw [eqI (by omega) (by omega)]; exact w1)]
    obtain ⟨md1, mdd1, mn1, mst1, mbb1, e1, g1⟩ := nodict (fun h => w1 h.1) (fun h => absurd h w1)
    rw [e1]
    exact fin mm mt mv mx md1 mdd1 mn1 mst1 mpl mbb1 g1 (fun _ _ => rfl) MFr.rf
end
section
/-! what holds of both sides between two calls -/
def ColX (xk xo xc : Nat → Int32) (xt : Nat → Nat → Int32) (xn : Nat → Nat → Int64) (xl : Nat → Nat → Int32) (c K O : Nat) (vals : List AV) : Prop := xk c = nI K ∧ xo c = nI O ∧ xc c = nI vals.length ∧ ∀ (j : Nat) (h : j < vals.length), XV xt xn xl c j vals[j]
theorem ColX.k {xk xo xc : Nat → Int32} {xt : Nat → Nat → Int32} {xn : Nat → Nat → Int64} {xl : Nat → Nat → Int32} {c K O : Nat} {vals : List AV} (h : ColX xk xo xc xt xn xl c K O vals) : xk c = nI K := h.1
theorem ColX.o {xk xo xc : Nat → Int32} {xt : Nat → Nat → Int32} {xn : Nat → Nat → Int64} {xl : Nat → Nat → Int32} {c K O : Nat} {vals : List AV} (h : ColX xk xo xc xt xn xl c K O vals) : xo c = nI O := h.2.1
theorem ColX.n {xk xo xc : Nat → Int32} {xt : Nat → Nat → Int32} {xn : Nat → Nat → Int64} {xl : Nat → Nat → Int32} {c K O : Nat} {vals : List AV} (h : ColX xk xo xc xt xn xl c K O vals) : xc c = nI vals.length := h.2.2.1
theorem ColX.v {xk xo xc : Nat → Int32} {xt : Nat → Nat → Int32} {xn : Nat → Nat → Int64} {xl : Nat → Nat → Int32} {c K O : Nat} {vals : List AV} (h : ColX xk xo xc xt xn xl c K O vals) : ∀ (j : Nat) (h : j < vals.length), XV xt xn xl c j vals[j] := h.2.2.2
def ColM (mk mo mm mt : Nat → Int32) (mv : Nat → Int64) (mx : Nat → Int32) (c K O : Nat) (vals : List AV) : Prop := mk c = nI K ∧ mo c = nI O ∧ mm c = nI vals.length ∧ MCol mt mv mx c vals
theorem ColM.k {mk mo mm mt : Nat → Int32} {mv : Nat → Int64} {mx : Nat → Int32} {c K O : Nat} {vals : List AV} (h : ColM mk mo mm mt mv mx c K O vals) : mk c = nI K := h.1
theorem ColM.o {mk mo mm mt : Nat → Int32} {mv : Nat → Int64} {mx : Nat → Int32} {c K O : Nat} {vals : List AV} (h : ColM mk mo mm mt mv mx c K O vals) : mo c = nI O := h.2.1
theorem ColM.n {mk mo mm mt : Nat → Int32} {mv : Nat → Int64} {mx : Nat → Int32} {c K O : Nat} {vals : List AV} (h : ColM mk mo mm mt mv mx c K O vals) : mm c = nI vals.length := h.2.2.1
theorem ColM.v {mk mo mm mt : Nat → Int32} {mv : Nat → Int64} {mx : Nat → Int32} {c K O : Nat} {vals : List AV} (h : ColM mk mo mm mt mv mx c K O vals) : MCol mt mv mx c vals := h.2.2.2
def ColW (K O : Nat) (vals : List AV) : Prop := K ≤ 3 ∧ O ≤ 1 ∧ vals.length ≤ 200 ∧ ∀ a ∈ vals, wfv K a
theorem ColW.k {K O : Nat} {vals : List AV} (h : ColW K O vals) : K ≤ 3 := h.1
theorem ColW.o {K O : Nat} {vals : List AV} (h : ColW K O vals) : O ≤ 1 := h.2.1
theorem ColW.n {K O : Nat} {vals : List AV} (h : ColW K O vals) : vals.length ≤ 200 := h.2.2.1
theorem ColW.w {K O : Nat} {vals : List AV} (h : ColW K O vals) : ∀ a ∈ vals, wfv K a := h.2.2.2
def ColR (xk xo xc : Nat → Int32) (xt : Nat → Nat → Int32) (xn : Nat → Nat → Int64) (xl : Nat → Nat → Int32) (mk mo mm mt : Nat → Int32) (mv : Nat → Int64) (mx : Nat → Int32) (c : Nat) : Prop := ∃ K O vals, ColW K O vals ∧ ColX xk xo xc xt xn xl c K O vals ∧ ColM mk mo mm mt mv mx c K O vals
def FltR (xc : Nat → Int32) (str stp rwp : Int32) (mr mb mba mpg mdi : Int32) : Prop := (mr = nI 0 ∧ str = nI 0 ∧ stp = nI 0 ∧ rwp = nI 0 ∧ xc 5 = nI 0) ∨ (mr = nI 1 ∧ str = mb ∧ stp = mba ∧ rwp = mpg ∧ xc 5 = if mdi < nI 0 then nI 0 else mdi)
def Cols (xk xo xc : Nat → Int32) (xt : Nat → Nat → Int32) (xn : Nat → Nat → Int64) (xl : Nat → Nat → Int32) (mk mo mm mt : Nat → Int32) (mv : Nat → Int64) (mx : Nat → Int32) : Prop := ∀ c, c < 4 → ColR xk xo xc xt xn xl mk mo mm mt mv mx c
def Tape (rc rv : Nat → Int32) (rb : Nat → Nat → Int32) (mp : Nat → Int32) (mtd : Int32) : Prop := (∃ l, XRow rc rb 0 l ∧ MRow mp mtd 40 l) ∧ rv 0 = nI 0
def Filed (rc rv : Nat → Int32) (rb : Nat → Nat → Int32) (mf : Nat → Int32) (ms : Int32) : Prop := (∃ l, XRow rc rb 1 l ∧ MRow mf ms 12000 l) ∧ rv 1 = nI 0
theorem colAt (v : Int32) : (∃ c, c < 4 ∧ v = nI c ∧ p_X5_columnAt v = some (some c) ∧ p_X6_isColumn v = some (nI 1)) ∨ (p_X5_columnAt v = some none ∧ p_X6_isColumn v = some (nI 0)) := by
  have hm : (3 : Int64) = lN 3 := rfl
  rcases splitI v with h | ⟨j, hj, e⟩
  · right
    refine ⟨?_, ?_⟩
    · unfold p_X5_columnAt
      rw [if_pos h]
    · unfold p_X6_isColumn
      rw [M_in_neg h 0 _ (by omega), bdS1, gdT (by decide)]
  · subst e
    by_cases h4 : j < 4
    · left
      refine ⟨j, h4, rfl, ?_, ?_⟩
      · unfold p_X5_columnAt
        rw [if_neg (by rw [ltI (by omega) (by omega)]; omega), if_pos (by rw [ltI (by omega) (by omega)]; exact h4), inbI (by omega), gdD h4, ixI (by omega)]
      · unfold p_X6_isColumn
        rw [M_in_nat (by omega) (by omega) (by omega), bdS1, if_pos (show 0 ≤ j ∧ j ≤ 3 by omega), gdT (by decide)]
    · right
      refine ⟨?_, ?_⟩
      · unfold p_X5_columnAt
        rw [if_neg (by rw [ltI (by omega) (by omega)]; omega), if_neg (by rw [ltI (by omega) (by omega)]; exact h4)]
      · unfold p_X6_isColumn
        rw [M_in_nat (by omega) (by omega) (by omega), bdS1, if_neg (show ¬ (0 ≤ j ∧ j ≤ 3) by omega), gdT (by decide)]
/-- one column changes, the others stay -/
theorem ColX.oth {xk xo xc xk' xo' xc' : Nat → Int32} {xt xt' : Nat → Nat → Int32} {xn xn' : Nat → Nat → Int64} {xl xl' : Nat → Nat → Int32} {c K O : Nat} {vals : List AV} (h : ColX xk xo xc xt xn xl c K O vals) (h1 : xk' c = xk c) (h2 : xo' c = xo c) (h3 : xc' c = xc c) (h4 : xt' c = xt c) (h5 : xn' c = xn c) (h6 : xl' c = xl c) : ColX xk' xo' xc' xt' xn' xl' c K O vals :=
  ⟨h1.trans h.k, h2.trans h.o, h3.trans h.n, fun j hj => by
    obtain ⟨a, b, d⟩ := h.v j hj
    exact ⟨by rw [h4]; exact a, by rw [h5]; exact b, fun k hk => by rw [h6]; exact d k hk⟩⟩
theorem ColM.oth {mk mo mm mk' mo' mm' mt mt' : Nat → Int32} {mv mv' : Nat → Int64} {mx mx' : Nat → Int32} {c K O : Nat} {vals : List AV} (h : ColM mk mo mm mt mv mx c K O vals) (h1 : mk' c = mk c) (h2 : mo' c = mo c) (h3 : mm' c = mm c) (h4 : ∀ (j : Nat) (a : AV), j < vals.length → MV mt mv mx (200 * c + j) a → MV mt' mv' mx' (200 * c + j) a) : ColM mk' mo' mm' mt' mv' mx' c K O vals :=
  ⟨h1.trans h.k, h2.trans h.o, h3.trans h.n, fun j hj => h4 j _ hj (h.v j hj)⟩
theorem ColW.snoc {K O : Nat} {vals : List AV} {a : AV} (h : ColW K O vals) (hl : vals.length < 200) (ha : wfv K a) : ColW K O (vals ++ [a]) :=
  ⟨h.k, h.o, by rw [List.length_append]; exact hl, fun x hx => (List.mem_append.mp hx).elim (h.w x) (fun e => by rw [List.mem_singleton.mp e]; exact ha)⟩
theorem sn_get {vals : List AV} {a : AV} {j : Nat} (h : j < (vals ++ [a]).length) : (∃ h2 : j < vals.length, (vals ++ [a])[j] = vals[j]) ∨ (j = vals.length ∧ (vals ++ [a])[j] = a) := by
  by_cases hj : j < vals.length
  · exact Or.inl ⟨hj, List.getElem_append_left hj⟩
  · rw [List.length_append, List.length_cons, List.length_nil] at h
    have : j = vals.length := by omega
    subst this
    exact Or.inr ⟨rfl, by simp⟩
/-- a value more at a column's end -/
theorem ColX.snoc {xk xo xc : Nat → Int32} {xt : Nat → Nat → Int32} {xn : Nat → Nat → Int64} {xl : Nat → Nat → Int32} {c K O : Nat} {vals : List AV} (a : AV) (h : ColX xk xo xc xt xn xl c K O vals) {f : Nat → Int32} (hf1 : ∀ j, j < vals.length * 40 → f j = xl c j) (hf2 : ∀ (k : Nat) (h : k < (le a).length), f (vals.length * 40 + k) = (le a)[k]) (hle : ∀ x ∈ vals, (le x).length ≤ 40) : ColX xk xo (up xc c (nI (vals.length + 1))) (up xt c (up (xt c) vals.length (nI (th a)))) (up xn c (up (xn c) vals.length (nu a))) (up xl c f) c K O (vals ++ [a]) := by
  refine ⟨h.k, h.o, by rw [up_s, List.length_append]; rfl, fun j hj => ?_⟩
  rcases sn_get hj with ⟨h2, e⟩ | ⟨e1, e2⟩
  · obtain ⟨a1, b1, d1⟩ := h.v j h2
    rw [e]
    refine ⟨?_, ?_, fun k hk => ?_⟩
    · rw [up_s, up_n (by omega)]; exact a1
    · rw [up_s, up_n (by omega)]; exact b1
    · have := hle _ (List.getElem_mem h2)
      rw [up_s, hf1 _ (by omega)]; exact d1 k hk
  · subst e1
    rw [e2]
    refine ⟨?_, ?_, fun k hk => ?_⟩
    · rw [up_s, up_s]
    · rw [up_s, up_s]
    · rw [up_s]; exact hf2 k hk
theorem ColM.snoc {mk mo mm mt : Nat → Int32} {mv : Nat → Int64} {mx : Nat → Int32} {c K O : Nat} {vals : List AV} (a : AV) (h : ColM mk mo mm mt mv mx c K O vals) : ColM mk mo (up mm c (nI (vals.length + 1))) (up mt (200 * c + vals.length) (nI (th a))) (up mv (200 * c + vals.length) (nu a)) (wr mx (40 * (200 * c + vals.length)) (l40 (le a))) c K O (vals ++ [a]) := by
  refine ⟨h.k, h.o, by rw [up_s, List.length_append]; rfl, fun j hj => ?_⟩
  rcases sn_get hj with ⟨h2, e⟩ | ⟨e1, e2⟩
  · rw [e]
    exact MV_wr_n (by omega) (h.v j h2)
  · subst e1
    rw [e2]
    exact MV_wr a
end
section
theorem Cols.put {xk xo xc xk' xo' xc' : Nat → Int32} {xt xt' : Nat → Nat → Int32} {xn xn' : Nat → Nat → Int64} {xl xl' : Nat → Nat → Int32} {mk mo mm mt mk' mo' mm' mt' : Nat → Int32} {mv mv' : Nat → Int64} {mx mx' : Nat → Int32} {c : Nat} (h : Cols xk xo xc xt xn xl mk mo mm mt mv mx) (hc : ColR xk' xo' xc' xt' xn' xl' mk' mo' mm' mt' mv' mx' c) (h1 : ∀ d, d ≠ c → xk' d = xk d ∧ xo' d = xo d ∧ xc' d = xc d ∧ xt' d = xt d ∧ xn' d = xn d ∧ xl' d = xl d) (h2 : ∀ d, d ≠ c → mk' d = mk d ∧ mo' d = mo d ∧ mm' d = mm d) (h3 : ∀ d j a, d ≠ c → d < 4 → j < 200 → MV mt mv mx (200 * d + j) a → MV mt' mv' mx' (200 * d + j) a) : Cols xk' xo' xc' xt' xn' xl' mk' mo' mm' mt' mv' mx' := by
  intro d hd
  by_cases e : d = c
  · rw [e]; exact hc
  · obtain ⟨K, O, vals, w, x, m⟩ := h d hd
    obtain ⟨a1, a2, a3, a4, a5, a6⟩ := h1 d e
    obtain ⟨b1, b2, b3⟩ := h2 d e
    have hn := w.n
    exact ⟨K, O, vals, w, x.oth a1 a2 a3 a4 a5 a6, m.oth b1 b2 b3 (fun j a hj hv => h3 d j a e hd (by omega) hv)⟩
/-- the same, of a slot of the column c -/
theorem Cols.put1 {xk xo xc : Nat → Int32} {xt : Nat → Nat → Int32} {xn : Nat → Nat → Int64} {xl : Nat → Nat → Int32} {mk mo mm mt : Nat → Int32} {mv : Nat → Int64} {mx : Nat → Int32} {c K O : Nat} {vals : List AV} {f : Nat → Int32} (a : AV) (hl : vals.length < 200) (hw : ColW K O vals) (hx : ColX xk xo xc xt xn xl c K O vals) (hm : ColM mk mo mm mt mv mx c K O vals) (ha : wfv K a) (hf1 : ∀ j, j < vals.length * 40 → f j = xl c j) (hf2 : ∀ (k : Nat) (h : k < (le a).length), f (vals.length * 40 + k) = (le a)[k]) (h : Cols xk xo xc xt xn xl mk mo mm mt mv mx) : Cols xk xo (up xc c (nI (vals.length + 1))) (up xt c (up (xt c) vals.length (nI (th a)))) (up xn c (up (xn c) vals.length (nu a))) (up xl c f) mk mo (up mm c (nI (vals.length + 1))) (up mt (200 * c + vals.length) (nI (th a))) (up mv (200 * c + vals.length) (nu a)) (wr mx (40 * (200 * c + vals.length)) (l40 (le a))) :=
  h.put (c := c) ⟨K, O, vals ++ [a], hw.snoc hl ha, hx.snoc a hf1 hf2 (fun x hx => (hw.w x hx).1), hm.snoc a⟩ (fun d hd => ⟨rfl, rfl, up_n hd, up_n hd, up_n hd, up_n hd⟩) (fun d hd => ⟨rfl, rfl, up_n hd⟩) (fun d j b hd hd4 hj hv => MV_wr_n (by omega) hv)
theorem isB_c {x : Int32} (h : isB x = true) : ∃ O, O ≤ 1 ∧ x = nI O := by
  unfold isB at h
  rcases of_decide_eq_true h with e | e
  · exact ⟨0, by omega, e⟩
  · exact ⟨1, by omega, e⟩
abbrev S3 : Type := (Nat → Int32) × (Nat → Int32) × (Nat → Int32)
theorem sim_column {xk xo xc : Nat → Int32} {xt : Nat → Nat → Int32} {xn : Nat → Nat → Int64} {xl : Nat → Nat → Int32} {mk mo mm mt : Nat → Int32} {mv : Nat → Int64} {mx : Nat → Int32} (h : Cols xk xo xc xt xn xl mk mo mm mt mv mx) (v1 v2 v3 : Int32) (hB : isB v3 = true) : ∃ r xk' xo' xc' mk' mo' mm', p_X5_column v1 v2 v3 xk xo xc = some (r, xk', xo', xc') ∧ p_X6_column v1 v2 v3 mk mo mm = some (r, mk', mo', mm') ∧ Cols xk' xo' xc' xt xn xl mk' mo' mm' mt mv mx ∧ xc' 5 = xc 5 := by
  unfold p_X5_column p_X6_column
  rcases colAt v1 with ⟨c, hc, rfl, e1, e2⟩ | ⟨e1, e2⟩
  · rw [e1, e2, bdS1, bdS1, moS, gdD (by omega), if_neg (show ¬ nI 1 = nI 0 by decide)]
    rcases splitI v2 with hn | ⟨K, hK, rfl⟩
    · rw [if_pos hn, M_in_neg hn 0 _ (by omega), bdS1, if_pos rfl]
      exact ⟨_, _, _, _, _, _, _, rfl, rfl, h, rfl⟩
    · rw [if_neg (by rw [ltI (by omega) (by omega)]; omega), M_in_nat (by omega) (by omega) (by omega), bdS1]
      by_cases h3 : K ≤ 3
      · obtain ⟨O, hO, rfl⟩ := isB_c hB
        obtain ⟨K0, O0, vals, w, x, m⟩ := h c hc
        unfold p_X0_begin
        rw [if_neg (by rw [ltI (by omega) (by omega)]; omega), if_pos (show 0 ≤ K ∧ K ≤ 3 by omega), if_neg (by decide), gdT hB, gdT hB, bdS3, inbI (by omega), gdD (by omega), gdD (by omega), gdD (by omega), gdD (by omega), ixI (by omega), x.n, m.n]
        refine ⟨_, _, _, _, _, _, _, rfl, rfl, ?_, up_n (by omega)⟩
        exact h.put (c := c) ⟨K, O, [], ⟨h3, hO, by simp, by simp⟩, ⟨up_s, up_s, up_s, fun j hj => by simp at hj⟩, ⟨up_s, up_s, up_s, fun j hj => by simp at hj⟩⟩ (fun d hd => ⟨up_n hd, up_n hd, up_n hd, rfl, rfl, rfl⟩) (fun d hd => ⟨up_n hd, up_n hd, up_n hd⟩) (fun _ _ _ _ _ _ hv => hv)
      · rw [if_pos (by rw [ltI (by omega) (by omega)]; omega), if_neg (show ¬ (0 ≤ K ∧ K ≤ 3) by omega), if_pos rfl]
        exact ⟨_, _, _, _, _, _, _, rfl, rfl, h, rfl⟩
  · rw [e1, e2, bdS1, bdS1, moN, if_pos rfl]
    exact ⟨_, _, _, _, _, _, _, rfl, rfl, h, rfl⟩
def nvB (K : Nat) (v : Int64) : Int64 := if K = 0 then i2l (l2i v) else if K = 3 then (if v = lN 0 then lN 0 else lN 1) else v
theorem wfv_nv {K : Nat} {v : Int64} (h : K ≠ 2) : wfv K (some (v, [])) := ⟨by simp [le], by simp [le], fun _ => by rw [if_neg h]; rfl⟩
theorem X_pushNumber {c K n : Nat} {v : Int64} {xk xc : Nat → Int32} {xt : Nat → Nat → Int32} {xn : Nat → Nat → Int64} (hK : xk c = nI K) (hK3 : K ≤ 3) (hn : xc c = nI n) (h : n < 200) : p_X0_pushNumber c v xk xc xt xn = some (up xc c (nI (n + 1)), up xt c (up (xt c) n (nI 1)), up xn c (up (xn c) n (nvB K v))) := by
  unfold p_X0_pushNumber nvB
  simp only [p_X0_pushNumber_J68, hn, hK]
  by_cases k0 : K = 0
  · subst k0
    simp (disch := omega) only [ltI, eqI, addI, subI, mulI, divI, ixI, inbI, i2lI, l2iL, ltL, eqL, addL, mulL, subL, gdD, if_pos, if_neg, if_true, if_false, bdS1, bdS2, bdS3, bdS4, bdS5, bdS6, bdS7, bdS8, bdS9, bdS10, bdS11, bdS12, bdS13, moN, moS, h]
  · by_cases k3 : K = 3
    · subst k3
      by_cases v0 : v = lN 0
      · have v0' : v = 0 := v0
        subst v0'
        simp (disch := omega) only [ltI, eqI, addI, subI, mulI, divI, ixI, inbI, i2lI, l2iL, ltL, eqL, addL, mulL, subL, gdD, if_pos, if_neg, if_true, if_false, bdS1, bdS2, bdS3, bdS4, bdS5, bdS6, bdS7, bdS8, bdS9, bdS10, bdS11, bdS12, bdS13, moN, moS, h]
      · have v0' : ¬ v = 0 := v0
        simp (disch := omega) only [ltI, eqI, addI, subI, mulI, divI, ixI, inbI, i2lI, l2iL, ltL, eqL, addL, mulL, subL, gdD, if_pos, if_neg, if_true, if_false, bdS1, bdS2, bdS3, bdS4, bdS5, bdS6, bdS7, bdS8, bdS9, bdS10, bdS11, bdS12, bdS13, moN, moS, h, v0, v0']
    · simp (disch := omega) only [ltI, eqI, addI, subI, mulI, divI, ixI, inbI, i2lI, l2iL, ltL, eqL, addL, mulL, subL, gdD, if_pos, if_neg, if_true, if_false, bdS1, bdS2, bdS3, bdS4, bdS5, bdS6, bdS7, bdS8, bdS9, bdS10, bdS11, bdS12, bdS13, moN, moS, h, k0, k3]
theorem sim_add {xk xo xc : Nat → Int32} {xt : Nat → Nat → Int32} {xn : Nat → Nat → Int64} {xl : Nat → Nat → Int32} {mk mo mm mt : Nat → Int32} {mv : Nat → Int64} {mx : Nat → Int32} (h : Cols xk xo xc xt xn xl mk mo mm mt mv mx) (v1 : Int32) (v2 : Int64) : ∃ r xc' xt' xn' mm' mt' mv' mx', p_X5_add v1 v2 xk xc xt xn = some (r, xc', xt', xn') ∧ p_X6_add v1 v2 mk mm mt mv mx = some (r, mm', mt', mv', mx') ∧ Cols xk xo xc' xt' xn' xl mk mo mm' mt' mv' mx' ∧ xc' 5 = xc 5 := by
  unfold p_X5_add p_X6_add
  rcases colAt v1 with ⟨c, hc, rfl, e1, e2⟩ | ⟨e1, e2⟩
  · obtain ⟨K, O, vals, w, x, m⟩ := h c hc
    have hK3 := w.k
    have hn := w.n
    rw [e1, e2, bdS1, bdS1, moS, gdD (by omega), if_neg (show ¬ nI 1 = nI 0 by decide), inbI (by omega), gdD (by omega), gdD (by omega), gdD (by omega), gdD (by omega), ixI (by omega), x.k, m.k, x.n, m.n]
    by_cases k2 : K = 2
    · rw [if_pos (by rw [k2]), if_pos (by rw [k2])]
      exact ⟨_, _, _, _, _, _, _, _, rfl, rfl, h, rfl⟩
    · rw [if_neg (show ¬ nI K = nI 2 by rw [eqI (by omega) (by omega)]; exact k2), if_neg (show ¬ nI K = nI 2 by rw [eqI (by omega) (by omega)]; exact k2)]
      by_cases hl : vals.length < 200
      · have hput := h.put1 (some (nvB K v2, [])) hl w x m (wfv_nv k2) (f := xl c) (fun _ _ => rfl) (fun k hk => by simp [le] at hk)
        rw [up_id] at hput
        rw [if_pos (by rw [ltI (by omega) (by omega)]; exact hl), if_neg (by rw [eqI (by omega) (by omega)]; omega), X_pushNumber x.k hK3 x.n hl, bdS3, up_s, subI (by omega), Nat.add_sub_cancel]
        have hM : ∀ val, nvB K v2 = val → ∃ r xc' xt' xn' mm' mt' mv' mx', some (nI vals.length, up xc c (nI (vals.length + 1)), up xt c (up (xt c) vals.length (nI 1)), up xn c (up (xn c) vals.length (nvB K v2))) = some (r, xc', xt', xn') ∧ (bd5 (p_X6_adds (nI c) (nI 1) val mm mt mv mx) fun a_6 mm_7 mt_8 mv_9 mx_10 => some (a_6, mm_7, mt_8, mv_9, mx_10)) = some (r, mm', mt', mv', mx') ∧ Cols xk xo xc' xt' xn' xl mk mo mm' mt' mv' mx' ∧ xc' 5 = xc 5 := by
          intro val hval
          rw [M_adds (by omega) hl m.n (by omega), bdS5, ← hval]
          exact ⟨_, _, _, _, _, _, _, _, rfl, rfl, hput, up_n (by omega)⟩
        by_cases k0 : K = 0
        · rw [if_pos (by rw [k0])]
          exact hM _ (by unfold nvB; rw [if_pos k0])
        · rw [if_neg (by rw [eqI (by omega) (by omega)]; exact k0)]
          by_cases k3 : K = 3
          · rw [if_pos (by rw [k3])]
            by_cases v0 : v2 = lN 0
            · rw [if_pos v0]
              exact hM _ (by unfold nvB; rw [if_neg k0, if_pos k3, if_pos v0])
            · rw [if_neg v0]
              exact hM _ (by unfold nvB; rw [if_neg k0, if_pos k3, if_neg v0])
          · rw [if_neg (by rw [eqI (by omega) (by omega)]; exact k3)]
            exact hM _ (by unfold nvB; rw [if_neg k0, if_neg k3])
      · rw [if_neg (by rw [ltI (by omega) (by omega)]; exact hl), if_pos (by rw [eqI (by omega) (by omega)]; omega)]
        exact ⟨_, _, _, _, _, _, _, _, rfl, rfl, h, rfl⟩
  · rw [e1, e2, bdS1, bdS1, moN, if_pos rfl]
    exact ⟨_, _, _, _, _, _, _, _, rfl, rfl, h, rfl⟩
theorem sim_addNone {xk xo xc : Nat → Int32} {xt : Nat → Nat → Int32} {xn : Nat → Nat → Int64} {xl : Nat → Nat → Int32} {mk mo mm mt : Nat → Int32} {mv : Nat → Int64} {mx : Nat → Int32} (h : Cols xk xo xc xt xn xl mk mo mm mt mv mx) (v1 : Int32) : ∃ r xc' xt' xn' mm' mt' mv' mx', p_X5_addNone v1 xo xc xt xn = some (r, xc', xt', xn') ∧ p_X6_addNone v1 mo mm mt mv mx = some (r, mm', mt', mv', mx') ∧ Cols xk xo xc' xt' xn' xl mk mo mm' mt' mv' mx' ∧ xc' 5 = xc 5 := by
  unfold p_X5_addNone p_X6_addNone
  rcases colAt v1 with ⟨c, hc, rfl, e1, e2⟩ | ⟨e1, e2⟩
  · obtain ⟨K, O, vals, w, x, m⟩ := h c hc
    have hO := w.o
    have hn := w.n
    rw [e1, e2, bdS1, bdS1, moS, gdD (by omega), if_neg (show ¬ nI 1 = nI 0 by decide), inbI (by omega), gdD (by omega), gdD (by omega), ixI (by omega), x.o, m.o, x.n, m.n]
    by_cases k2 : O = 0
    · rw [if_pos (by rw [k2]), if_pos (by rw [k2])]
      exact ⟨_, _, _, _, _, _, _, _, rfl, rfl, h, rfl⟩
    · rw [if_neg (show ¬ nI O = nI 0 by rw [eqI (by omega) (by omega)]; exact k2), if_neg (show ¬ nI O = nI 0 by rw [eqI (by omega) (by omega)]; exact k2)]
      by_cases hl : vals.length < 200
      · have hput := h.put1 none hl w x m wfv_none (f := xl c) (fun _ _ => rfl) (fun k hk => by simp [le] at hk)
        rw [up_id] at hput
        have ex : p_X0_pushNone c xc xt xn = some (up xc c (nI (vals.length + 1)), up xt c (up (xt c) vals.length (nI 0)), up xn c (up (xn c) vals.length (lN 0))) := by
          unfold p_X0_pushNone p_X0_setNone
          simp only [x.n]
          simp (disch := omega) only [ltI, eqI, addI, subI, mulI, divI, ixI, inbI, i2lI, l2iL, ltL, eqL, addL, mulL, subL, gdD, if_pos, if_neg, if_true, if_false, bdS1, bdS2, bdS3, bdS4, bdS5, bdS6, bdS7, bdS8, bdS9, bdS10, bdS11, bdS12, bdS13, moN, moS, hl]
        rw [if_pos (by rw [ltI (by omega) (by omega)]; exact hl), if_neg (by rw [eqI (by omega) (by omega)]; omega), ex, bdS3, up_s, subI (by omega), Nat.add_sub_cancel, M_adds (by omega) hl m.n (by omega), bdS5]
        exact ⟨_, _, _, _, _, _, _, _, rfl, rfl, hput, up_n (by omega)⟩
      · rw [if_neg (by rw [ltI (by omega) (by omega)]; exact hl), if_pos (by rw [eqI (by omega) (by omega)]; omega)]
        exact ⟨_, _, _, _, _, _, _, _, rfl, rfl, h, rfl⟩
  · rw [e1, e2, bdS1, bdS1, moN, if_pos rfl]
    exact ⟨_, _, _, _, _, _, _, _, rfl, rfl, h, rfl⟩
end
section
theorem wr_l40 {f : Nat → Int32} {a : Nat} {l : List Int32} (h : l.length ≤ 40) : wr (wr f a (l40 [])) a l = wr f a (l40 l) := by
  funext j
  by_cases h1 : a ≤ j
  · by_cases h2 : j - a < l.length
    · rw [wr_in h1 h2, wr_in h1 (by rw [l40_len]; omega), l40_at, List.getElem?_eq_getElem h2]
      rfl
    · rw [wr_out (by omega)]
      by_cases h3 : j - a < 40
      · rw [wr_in h1 (by rw [l40_len]; omega), wr_in h1 (by rw [l40_len]; omega), l40_at, l40_at, List.getElem?_eq_none (show l.length ≤ j - a by omega)]
        rfl
      · rw [wr_out (by rw [l40_len]; omega), wr_out (by rw [l40_len]; omega)]
  · rw [wr_out (by omega), wr_out (by omega), wr_out (by omega)]
theorem X_pushText_L {c n0 : Nat} {xc rc : Nat → Int32} {xl : Nat → Nat → Int32} {rb : Nat → Nat → Int32} {l : List Int32} {kx : (Nat → Nat → Int32) → Option ((Nat → Int32) × (Nat → Nat → Int32) × (Nat → Nat → Int64) × (Nat → Nat → Int32))} (hn : xc c = nI n0) (h : n0 < 200) (hr : XRow rc rb 0 l) : ∀ (m n k : Nat), l.length - k = m → k ≤ l.length → m < n → itr2 (p_X0_pushText_L31 c 0 (nI 0) (nI l.length) xc rc rb kx) n (nI k) (up xl c (wr (xl c) (n0 * 40) (l.take k))) = kx (up xl c (wr (xl c) (n0 * 40) l)) := by
  have hl : l.length ≤ 40 := hr.2.1
  intro m
  induction m with
  | zero =>
    intro n k h1 h2 h3
    have : k = l.length := by omega
    subst this
    cases n with
    | zero => omega
    | succ n =>
      rw [List.take_length]
      show p_X0_pushText_L31 c 0 (nI 0) (nI l.length) xc rc rb kx _ (nI l.length) _ = _
      rw [p_X0_pushText_L31, if_neg (by rw [ltI (by omega) (by omega)]; omega)]
  | succ m ih =>
    intro n k h1 h2 h3
    cases n with
    | zero => omega
    | succ n =>
      have hk : k < l.length := by omega
      show p_X0_pushText_L31 c 0 (nI 0) (nI l.length) xc rc rb kx _ (nI k) _ = _
      rw [p_X0_pushText_L31, if_pos (by rw [ltI (by omega) (by omega)]; omega), addI, Nat.zero_add, X_get hr hk, bdS1, hn, mulI, addI, inbI (by omega), gdD (by omega), ixI (by omega), b8_and, hr.2.2.1 _ (List.getElem_mem hk), up_up, up_s, addI]
      have e2 : n0 * 40 + k = n0 * 40 + (l.take k).length := by rw [List.length_take]; omega
      rw [e2, wr_snoc, take_snoc hk]
      exact ih n (k + 1) (by omega) (by omega) (by omega)
theorem X_pushText {c n0 : Nat} {xc rc : Nat → Int32} {xt : Nat → Nat → Int32} {xn : Nat → Nat → Int64} {xl : Nat → Nat → Int32} {rb : Nat → Nat → Int32} {l : List Int32} (hn : xc c = nI n0) (h : n0 < 200) (hr : XRow rc rb 0 l) : p_X0_pushText c 0 (nI 0) (rc 0) xc xt xn xl rc rb = some (up xc c (nI (n0 + 1)), up xt c (up (xt c) n0 (nI 1)), up xn c (up (xn c) n0 (lN l.length)), up xl c (wr (xl c) (n0 * 40) l)) := by
  have hl : l.length ≤ 40 := hr.2.1
  have e := X_pushText_L (xl := xl) (kx := fun xl_4 => some (up xc c (nI (n0 + 1)), up xt c (up (xt c) n0 (nI 1)), up xn c (up (xn c) n0 (lN l.length)), xl_4)) hn h hr l.length fu 0 (by omega) (by omega) (by rw [fu_eq]; omega)
  rw [List.take_zero, wr_nil, up_id] at e
  unfold p_X0_pushText
  rw [hr.1]
  simp only [hn]
  simp (disch := omega) only [ltI, eqI, addI, subI, mulI, divI, ixI, inbI, i2lI, l2iL, ltL, eqL, addL, mulL, subL, gdD, if_pos, if_neg, if_true, if_false, bdS1, bdS2, bdS3, bdS4, bdS5, bdS6, bdS7, bdS8, bdS9, bdS10, bdS11, bdS12, bdS13, moN, moS, h]
  exact e
theorem M_addText_L {c n0 : Nat} {mm mt : Nat → Int32} {mv : Nat → Int64} {mx mp : Nat → Int32} {l : List Int32} (hc : c < 5) (hn : n0 < 200) (hl : l.length ≤ 40) (hb : b8L l) (hp : Seg mp l) : ∀ (m n k : Nat), l.length - k = m → k ≤ l.length → m < n → itr2 (p_X6_addText_L51 (nI c) (nI n0) mm mt mv mp (nI l.length)) n (nI k) (wr mx (40 * (200 * c + n0)) (l.take k)) = some (nI n0, mm, mt, mv, wr mx (40 * (200 * c + n0)) l, nI 0) := by
  intro m
  induction m with
  | zero =>
    intro n k h1 h2 h3
    have : k = l.length := by omega
    subst this
    cases n with
    | zero => omega
    | succ n =>
      rw [List.take_length]
      show p_X6_addText_L51 (nI c) (nI n0) mm mt mv mp (nI l.length) _ (nI l.length) _ = _
      rw [p_X6_addText_L51, if_neg (by rw [ltI (by omega) (by omega)]; omega)]
  | succ m ih =>
    intro n k h1 h2 h3
    cases n with
    | zero => omega
    | succ n =>
      have hk : k < l.length := by omega
      show p_X6_addText_L51 (nI c) (nI n0) mm mt mv mp (nI l.length) _ (nI k) _ = _
      rw [p_X6_addText_L51, if_pos (by rw [ltI (by omega) (by omega)]; omega), inbI (by omega), gdD (by omega), mulI, addI, mulI, addI, inbI (by omega), gdD (by omega), ixI (by omega), ixI (by omega), hp k hk, hb _ (List.getElem_mem hk), addI]
      have e2 : 40 * (200 * c + n0) + k = 40 * (200 * c + n0) + (l.take k).length := by rw [List.length_take]; omega
      rw [e2, wr_snoc, take_snoc hk]
      exact ih n (k + 1) (by omega) (by omega) (by omega)
theorem sim_addText {xk xo xc : Nat → Int32} {xt : Nat → Nat → Int32} {xn : Nat → Nat → Int64} {xl : Nat → Nat → Int32} {rc rv : Nat → Int32} {rb : Nat → Nat → Int32} {mk mo mm mt : Nat → Int32} {mv : Nat → Int64} {mx mp : Nat → Int32} {mtd : Int32} (h : Cols xk xo xc xt xn xl mk mo mm mt mv mx) (ht : Tape rc rv rb mp mtd) (v1 : Int32) : ∃ r xc' xt' xn' xl' rc' rv' mm' mt' mv' mx' mtd', p_X5_addText v1 xk xc xt xn xl rc rv rb = some (r, xc', xt', xn', xl', rc', rv') ∧ p_X6_addText v1 mk mm mt mv mx mp mtd = some (r, mm', mt', mv', mx', mtd') ∧ Cols xk xo xc' xt' xn' xl' mk mo mm' mt' mv' mx' ∧ Tape rc' rv' rb mp mtd' ∧ FrR 0 rc rv rb rc' rv' rb ∧ xc' 5 = xc 5 := by
  obtain ⟨⟨l, hx, hm⟩, hv⟩ := ht
  have hl : l.length ≤ 40 := hm.2.1
  unfold p_X5_addText p_X6_addText
  rcases colAt v1 with ⟨c, hc, rfl, e1, e2⟩ | ⟨e1, e2⟩
  · obtain ⟨K, O, vals, w, x, m⟩ := h c hc
    have hK3 := w.k
    have hn := w.n
    rw [e1, e2, bdS1, bdS1, moS, gdD (by omega), if_neg (show ¬ nI 1 = nI 0 by decide), inbI (by omega), gdD (by omega), gdD (by omega), ixI (by omega), x.k, m.k, x.n, m.n]
    by_cases k2 : K = 2
    · subst k2
      rw [if_pos (show nI 2 = nI 2 from rfl), if_pos (show nI 2 = nI 2 from rfl)]
      by_cases hlt : vals.length < 200
      · have hwf : wfv 2 (some (lN l.length, l)) := ⟨hl, hx.2.2.1, fun _ => by rw [if_pos rfl]; rfl⟩
        have hput := h.put1 (some (lN l.length, l)) hlt w x m hwf (f := wr (xl c) (vals.length * 40) l) (fun j hj => wr_out (by omega)) (fun k hk => by
          have hk' : k < l.length := hk
          rw [wr_in (by omega) (by omega)]
          show l[vals.length * 40 + k - vals.length * 40] = l[k]
          congr 1
          omega)
        obtain ⟨rc', rv', ec, gc, fc⟩ := X_clear (r := 0) (rc := rc) (rv := rv) (rb := rb)
        have eM := M_addText_L (mm := up mm c (nI (vals.length + 1))) (mt := up mt (200 * c + vals.length) (nI 1)) (mv := up mv (200 * c + vals.length) (lN l.length)) (mx := wr mx (40 * (200 * c + vals.length)) (l40 [])) (mp := mp) (show c < 5 by omega) hlt hl hx.2.2.1 hm.2.2 l.length fu 0 (by omega) (by omega) (by rw [fu_eq]; omega)
        rw [List.take_zero, wr_nil, wr_l40 hl] at eM
        rw [if_pos (by rw [ltI (by omega) (by omega)]; exact hlt), if_neg (by rw [eqI (by omega) (by omega)]; omega), X_pushText x.n hlt hx, bdS4, ec, bdS2, up_s, subI (by omega), Nat.add_sub_cancel, hm.1, i2lI (by omega), M_adds (by omega) hlt m.n (by omega), bdS5, eM]
        refine ⟨_, _, _, _, _, _, _, _, _, _, _, _, rfl, rfl, hput, ⟨⟨[], ?_, rfl, by simp, fun k hk => by simp at hk⟩, ?_⟩, fc, up_n (by omega)⟩
        · rcases gc with ⟨_, g2, _, _⟩ | ⟨g1, _⟩
          · exact ⟨g2, by simp, by simp, fun k hk => by simp at hk⟩
          · simp at g1
        · rcases gc with ⟨_, _, g3, _⟩ | ⟨g1, _⟩
          · exact g3
          · simp at g1
      · rw [if_neg (by rw [ltI (by omega) (by omega)]; exact hlt), if_pos (by rw [eqI (by omega) (by omega)]; omega)]
        exact ⟨_, _, _, _, _, _, _, _, _, _, _, _, rfl, rfl, h, ⟨⟨l, hx, hm⟩, hv⟩, FrR.rf, rfl⟩
    · rw [if_neg (show ¬ nI K = nI 2 by rw [eqI (by omega) (by omega)]; exact k2), if_neg (show ¬ nI K = nI 2 by rw [eqI (by omega) (by omega)]; exact k2)]
      exact ⟨_, _, _, _, _, _, _, _, _, _, _, _, rfl, rfl, h, ⟨⟨l, hx, hm⟩, hv⟩, FrR.rf, rfl⟩
  · rw [e1, e2, bdS1, bdS1, moN, if_pos rfl]
    exact ⟨_, _, _, _, _, _, _, _, _, _, _, _, rfl, rfl, h, ⟨⟨l, hx, hm⟩, hv⟩, FrR.rf, rfl⟩
/-- a loop that counts down: k - 1 stands at k still to do -/
def dn (k : Nat) : Int32 := nI k - nI 1
theorem dn_s (k : Nat) : dn (k + 1) = nI k := by
  unfold dn
  rw [subI (by omega), Nat.add_sub_cancel]
theorem dn_0 : dn 0 < nI 0 := by decide
theorem dn_d (k : Nat) : nI k + (-1 : Int32) = dn k := by
  unfold dn
  rw [Int32.sub_eq_add_neg]
  rfl
theorem XRow.out {rc rv : Nat → Int32} {rb : Nat → Nat → Int32} {r : Nat} {l : List Int32} (h : XRow rc rb r l) (hv : rv r = nI 0) : XOut rc rv rb r l := Or.inl ⟨h.2.1, h.1, hv, h.2.2.2⟩
theorem XOut.row {rc rv : Nat → Int32} {rb : Nat → Nat → Int32} {r : Nat} {l : List Int32} (h : XOut rc rv rb r l) (hl : l.length ≤ rlen r) (hb : b8L l) : XRow rc rb r l ∧ rv r = nI 0 := by
  rcases h with ⟨h1, h2, h3, h4⟩ | ⟨h1, _⟩
  · exact ⟨⟨h2, h1, hb, h4⟩, h3⟩
  · omega
theorem X_type_L {v : Int64} : ∀ (k n : Nat) (l : List Int32) (rc rv : Nat → Int32) (rb : Nat → Nat → Int32) (mp : Nat → Int32), k ≤ 8 → k < n → l.length + k ≤ 40 → Tape rc rv rb mp (nI l.length) → XRow rc rb 0 l → MRow mp (nI l.length) 40 l → ∃ r rc' rv' rb' mp' mtd', itr4 (p_X5_type_L35 v) n (dn k) rc rv rb = some (r, rc', rv', rb') ∧ itr3 (p_X6_type_L33 v) n (dn k) mp (nI l.length) = some (r, mp', mtd') ∧ Tape rc' rv' rb' mp' mtd' ∧ FrR 0 rc rv rb rc' rv' rb' := by
  intro k
  induction k with
  | zero =>
    intro n l rc rv rb mp h1 h2 h3 ht hx hm
    cases n with
    | zero => omega
    | succ n =>
      refine ⟨nI l.length, rc, rv, rb, mp, nI l.length, ?_, ?_, ht, FrR.rf⟩
      · show p_X5_type_L35 v _ (dn 0) rc rv rb = _
        rw [p_X5_type_L35, if_pos dn_0, hx.1]
      · show p_X6_type_L33 v _ (dn 0) mp (nI l.length) = _
        rw [p_X6_type_L33, if_pos dn_0]
  | succ k ih =>
    intro n l rc rv rb mp h1 h2 h3 ht hx hm
    cases n with
    | zero => omega
    | succ n =>
      obtain ⟨rc1, rv1, rb1, e1, g1, f1⟩ := XOut_push (l2i (lushr v (nI (8 * k)))) (hx.out ht.2)
      have hlen : (l ++ [b8 (l2i (lushr v (nI (8 * k))))]).length = l.length + 1 := by simp
      obtain ⟨r1, q1⟩ := g1.row (by rw [hlen]; show _ ≤ 40; omega) (b8L.app hx.2.2.1 (b8L.one _))
      have hm1 : MRow (up mp l.length (b8 (l2i (lushr v (nI (8 * k)))))) (nI (l.length + 1)) 40 (l ++ [b8 (l2i (lushr v (nI (8 * k))))]) := ⟨by rw [hlen], by rw [hlen]; omega, Seg.snoc hm.2.2 _⟩
      have := ih n (l ++ [b8 (l2i (lushr v (nI (8 * k))))]) rc1 rv1 rb1 (up mp l.length (b8 (l2i (lushr v (nI (8 * k)))))) (by omega) (by omega) (by omega) ⟨⟨_, r1, by rw [hlen]; exact hm1⟩, q1⟩ r1 (by rw [hlen]; exact hm1)
      obtain ⟨r, rc2, rv2, rb2, mp2, mtd2, e2, e3, t2, f2⟩ := this
      refine ⟨r, rc2, rv2, rb2, mp2, mtd2, ?_, ?_, t2, f1.tr f2⟩
      · show p_X5_type_L35 v _ (dn (k + 1)) rc rv rb = _
        rw [p_X5_type_L35, dn_s, if_neg (by rw [ltI (by omega) (by omega)]; omega), mulI, e1, bdS3, dn_d]
        exact e2
      · show p_X6_type_L33 v _ (dn (k + 1)) mp (nI l.length) = _
        rw [p_X6_type_L33, dn_s, if_neg (by rw [ltI (by omega) (by omega)]; omega), mulI, inbI (by omega), gdD (by omega), ixI (by omega), ← b8_sh v (by omega), addI, dn_d]
        rw [hlen] at e3
        exact e3
theorem sim_type {rc rv : Nat → Int32} {rb : Nat → Nat → Int32} {mp : Nat → Int32} {mtd : Int32} (h : Tape rc rv rb mp mtd) (v1 : Int64) (v3 : Int32) : ∃ r rc' rv' rb' mp' mtd', p_X5_type v1 v3 rc rv rb = some (r, rc', rv', rb') ∧ p_X6_type v1 v3 mp mtd = some (r, mp', mtd') ∧ Tape rc' rv' rb' mp' mtd' ∧ FrR 0 rc rv rb rc' rv' rb' := by
  obtain ⟨⟨l, hx, hm⟩, hv⟩ := h
  have hl : l.length ≤ 40 := hm.2.1
  have h' : Tape rc rv rb mp mtd := ⟨⟨l, hx, hm⟩, hv⟩
  have hmt := hm.1
  subst hmt
  unfold p_X5_type p_X6_type
  rcases splitI v3 with hn | ⟨N, hN, rfl⟩
  · rw [M_in_neg hn 1 _ (by omega), bdS1, if_pos rfl]
    rw [if_pos (Int32.lt_trans hn (by decide))]
    exact ⟨_, _, _, _, _, _, rfl, rfl, h', FrR.rf⟩
  · rw [M_in_nat (by omega) (by omega) (by omega), bdS1, hx.1, addI]
    by_cases h1 : N < 1
    · rw [if_pos (by rw [ltI (by omega) (by omega)]; exact h1), if_neg (show ¬ (1 ≤ N ∧ N ≤ 8) by omega), if_pos rfl]
      exact ⟨_, _, _, _, _, _, rfl, rfl, h', FrR.rf⟩
    · rw [if_neg (show ¬ nI N < nI 1 by rw [ltI (by omega) (by omega)]; exact h1)]
      by_cases h8 : 8 < N
      · rw [if_pos (by rw [ltI (by omega) (by omega)]; exact h8), if_neg (show ¬ (1 ≤ N ∧ N ≤ 8) by omega), if_pos rfl]
        exact ⟨_, _, _, _, _, _, rfl, rfl, h', FrR.rf⟩
      · rw [if_neg (show ¬ nI 8 < nI N by rw [ltI (by omega) (by omega)]; exact h8), if_pos (show 1 ≤ N ∧ N ≤ 8 by omega), if_neg (show ¬ nI 1 = nI 0 by decide)]
        by_cases h40 : 40 < l.length + N
        · rw [if_pos (by rw [ltI (by omega) (by omega)]; exact h40), if_pos (by rw [ltI (by omega) (by omega)]; exact h40)]
          exact ⟨_, _, _, _, _, _, rfl, rfl, h', FrR.rf⟩
        · rw [if_neg (by rw [ltI (by omega) (by omega)]; exact h40), if_neg (by rw [ltI (by omega) (by omega)]; exact h40)]
          exact X_type_L N fu l rc rv rb mp (by omega) (by rw [fu_eq]; omega) (by omega) h' hx hm
end
section
/-! the file's bytes: put and cut -/
theorem sim_cut {rc rv : Nat → Int32} {rb : Nat → Nat → Int32} {mf : Nat → Int32} {ms : Int32} (h : Filed rc rv rb mf ms) (v : Int32) : ∃ r rc' ms', p_X5_cut v rc = some (r, rc') ∧ p_X6_cut v ms = some (r, ms') ∧ Filed rc' rv rb mf ms' ∧ ∀ q, q ≠ 1 → rc' q = rc q := by
  obtain ⟨⟨l, hx, hm⟩, hv⟩ := h
  have hl : l.length ≤ 12000 := hm.2.1
  have h' : Filed rc rv rb mf ms := ⟨⟨l, hx, hm⟩, hv⟩
  unfold p_X5_cut p_X6_cut
  rw [hm.1, hx.1]
  rcases splitI v with hn | ⟨j, hj, rfl⟩
  · rw [M_in_neg hn 0 _ (by omega), bdS1, if_pos rfl, if_pos hn]
    exact ⟨_, _, _, rfl, rfl, by rw [← hm.1]; exact h', fun _ _ => rfl⟩
  · rw [i2lI (n := l.length) (by omega), M_in_nat (by omega) (by omega) (by omega), bdS1, if_neg (show ¬ nI j < nI 0 by rw [ltI (by omega) (by omega)]; omega)]
    by_cases hlt : l.length < j
    · rw [if_pos (by rw [ltI (by omega) (by omega)]; exact hlt), if_neg (show ¬ (0 ≤ j ∧ j ≤ l.length) by omega), if_pos rfl]
      exact ⟨_, _, _, rfl, rfl, by rw [← hm.1]; exact h', fun _ _ => rfl⟩
    · rw [if_neg (by rw [ltI (by omega) (by omega)]; exact hlt), if_pos (show 0 ≤ j ∧ j ≤ l.length by omega), if_neg (show ¬ nI 1 = nI 0 by decide)]
      have es : p_X3_shorten 1 (nI j) rc = some (up rc 1 (nI j)) := by
        unfold p_X3_shorten
        rw [hx.1, iminI (by omega) (by omega), imaxI (by omega) (by omega)]
        congr 2
        rw [show max 0 (min j l.length) = j by omega]
      rw [es, bdS1]
      have hlen : (l.take j).length = j := by rw [List.length_take]; omega
      refine ⟨_, _, _, rfl, rfl, ⟨⟨l.take j, ⟨by rw [up_s, hlen], by rw [hlen]; show j ≤ 12000; omega, fun x hx' => hx.2.2.1 x (List.mem_of_mem_take hx'), fun k hk => ?_⟩, ⟨by rw [hlen], by rw [hlen]; omega, fun k hk => ?_⟩⟩, hv⟩, fun q hq => up_n hq⟩
      · rw [List.getElem_take]; exact hx.2.2.2 k _
      · rw [List.getElem_take]; exact hm.2.2 k _
theorem M_put_L {v : Int64} {N : Nat} {l : List Int32} (hN : N ≤ 8) (hl : l.length + N ≤ 12000) : ∀ (m n k : Nat) (mf : Nat → Int32), N - k = m → k ≤ N → m < n → Seg mf (l ++ litB v k) → ∃ mf', itr3 (p_X6_put_L32 v (nI N)) n (nI k) mf (nI (l.length + k)) = some (nI (l.length + N), mf', nI (l.length + N)) ∧ Seg mf' (l ++ litB v N) := by
  intro m
  induction m with
  | zero =>
    intro n k mf h1 h2 h3 h
    have : k = N := by omega
    subst this
    cases n with
    | zero => omega
    | succ n =>
      refine ⟨mf, ?_, h⟩
      show p_X6_put_L32 v (nI k) _ (nI k) mf (nI (l.length + k)) = _
      rw [p_X6_put_L32, if_neg (by rw [ltI (by omega) (by omega)]; omega)]
  | succ m ih =>
    intro n k mf h1 h2 h3 h
    cases n with
    | zero => omega
    | succ n =>
      have hs := h.snoc (b8 (l2i (lshr v (nI (8 * k)))))
      rw [List.append_assoc, ← litB_succ, List.length_append, litB_len] at hs
      obtain ⟨mf', e, g⟩ := ih n (k + 1) _ (by omega) (by omega) (by omega) hs
      refine ⟨mf', ?_, g⟩
      show p_X6_put_L32 v (nI N) _ (nI k) mf (nI (l.length + k)) = _
      rw [p_X6_put_L32, if_pos (by rw [ltI (by omega) (by omega)]; omega), inbI (by omega), gdD (by omega), ixI (by omega), mulI, addI, addI]
      exact e
theorem sim_put {rc rv : Nat → Int32} {rb : Nat → Nat → Int32} {mf : Nat → Int32} {ms : Int32} (h : Filed rc rv rb mf ms) (v1 : Int64) (v3 : Int32) : ∃ r rc' rv' rb' mf' ms', p_X5_put v1 v3 rc rv rb = some (r, rc', rv', rb') ∧ p_X6_put v1 v3 mf ms = some (r, mf', ms') ∧ Filed rc' rv' rb' mf' ms' ∧ FrR 1 rc rv rb rc' rv' rb' := by
  obtain ⟨⟨l, hx, hm⟩, hv⟩ := h
  have hl : l.length ≤ 12000 := hm.2.1
  have h' : Filed rc rv rb mf ms := ⟨⟨l, hx, hm⟩, hv⟩
  have hmt := hm.1
  subst hmt
  unfold p_X5_put p_X6_put
  rcases splitI v3 with hn | ⟨N, hN, rfl⟩
  · rw [M_in_neg hn 1 _ (by omega), bdS1, if_pos rfl]
    rw [if_pos (Int32.lt_trans hn (by decide))]
    exact ⟨_, _, _, _, _, _, rfl, rfl, h', FrR.rf⟩
  · rw [M_in_nat (by omega) (by omega) (by omega), bdS1, hx.1, addI]
    by_cases h1 : N < 1
    · rw [if_pos (by rw [ltI (by omega) (by omega)]; exact h1), if_neg (show ¬ (1 ≤ N ∧ N ≤ 8) by omega), if_pos rfl]
      exact ⟨_, _, _, _, _, _, rfl, rfl, h', FrR.rf⟩
    · rw [if_neg (show ¬ nI N < nI 1 by rw [ltI (by omega) (by omega)]; exact h1)]
      by_cases h8 : 8 < N
      · rw [if_pos (by rw [ltI (by omega) (by omega)]; exact h8), if_neg (show ¬ (1 ≤ N ∧ N ≤ 8) by omega), if_pos rfl]
        exact ⟨_, _, _, _, _, _, rfl, rfl, h', FrR.rf⟩
      · rw [if_neg (show ¬ nI 8 < nI N by rw [ltI (by omega) (by omega)]; exact h8), if_pos (show 1 ≤ N ∧ N ≤ 8 by omega), if_neg (show ¬ nI 1 = nI 0 by decide)]
        by_cases h40 : 12000 < l.length + N
        · rw [if_pos (by rw [ltI (by omega) (by omega)]; exact h40), if_pos (by rw [ltI (by omega) (by omega)]; exact h40)]
          exact ⟨_, _, _, _, _, _, rfl, rfl, h', FrR.rf⟩
        · rw [if_neg (by rw [ltI (by omega) (by omega)]; exact h40), if_neg (by rw [ltI (by omega) (by omega)]; exact h40)]
          obtain ⟨rc1, rv1, rb1, e1, g1, f1⟩ := X_lit (r := 1) (N := N) (w := v1) (by omega) (hx.out hv)
          obtain ⟨mf1, e2, g2⟩ := M_put_L (v := v1) (N := N) (l := l) (by omega) (by omega) N fu 0 mf (by omega) (by omega) (by rw [fu_eq]; omega) (by simpa [litB] using (show Seg mf l from hm.2.2))
          have hlen : (l ++ litB v1 N).length = l.length + N := by rw [List.length_append, litB_len]
          obtain ⟨r1, q1⟩ := g1.row (by rw [hlen]; show _ ≤ 12000; omega) (b8L.app hx.2.2.1 (b8L_lit _ _))
          rw [e1, bdS3, r1.1, hlen]
          exact ⟨_, _, _, _, _, _, rfl, e2, ⟨⟨_, r1, by rw [hlen], by rw [hlen]; omega, g2⟩, q1⟩, f1⟩
theorem sim_fault {xc : Nat → Int32} {str stp rwp : Int32} {mr mb mba mpg mdi : Int32} (h : FltR xc str stp rwp mr mb mba mpg mdi) (v : Int32) : ∃ r, p_X5_fault v xc str stp rwp = some r ∧ p_X6_fault v mb mba mpg mdi mr = some r := by
  unfold p_X5_fault p_X6_fault
  rcases splitI v with hn | ⟨j, hj, rfl⟩
  · have hne : ∀ k, k < 2 ^ 31 → v ≠ nI k := fun k hk e => by
      rw [e, ltI (by omega) (by omega)] at hn
      omega
    rw [M_in_neg hn 0 _ (by omega), bdS1, if_pos rfl, if_neg (hne 0 (by omega)), if_neg (hne 1 (by omega)), if_neg (hne 2 (by omega)), if_neg (hne 3 (by omega))]
    exact ⟨_, rfl, rfl⟩
  · rw [M_in_nat (by omega) (by omega) (by omega), bdS1]
    by_cases h3 : j ≤ 3
    · rw [if_pos (show 0 ≤ j ∧ j ≤ 3 by omega), if_neg (show ¬ nI 1 = nI 0 by decide)]
      have hj4 : j = 0 ∨ j = 1 ∨ j = 2 ∨ j = 3 := by omega
      rcases h with ⟨h1, h2, h4, h5, h6⟩ | ⟨h1, h2, h4, h5, h6⟩
      · rw [if_pos h1, h2, h4, h5, h6]
        rcases hj4 with rfl | rfl | rfl | rfl <;> exact ⟨_, rfl, rfl⟩
      · rw [if_neg (show ¬ mr = nI 0 by rw [h1]; decide), h2, h4, h5, h6]
        rcases hj4 with rfl | rfl | rfl | rfl
        · exact ⟨_, rfl, rfl⟩
        · exact ⟨_, rfl, rfl⟩
        · exact ⟨_, rfl, rfl⟩
        · rw [if_neg (show ¬ nI 3 = nI 0 by decide), if_neg (show ¬ nI 3 = nI 1 by decide), if_neg (show ¬ nI 3 = nI 2 by decide), if_pos rfl, if_neg (show ¬ nI 3 = nI 0 by decide), if_neg (show ¬ nI 3 = nI 1 by decide), if_neg (show ¬ nI 3 = nI 2 by decide)]
          refine ⟨_, rfl, ?_⟩
          split <;> rfl
    · rw [if_neg (show ¬ (0 ≤ j ∧ j ≤ 3) by omega), if_pos rfl, if_neg (by rw [eqI (by omega) (by omega)]; omega), if_neg (by rw [eqI (by omega) (by omega)]; omega), if_neg (by rw [eqI (by omega) (by omega)]; omega), if_neg (by rw [eqI (by omega) (by omega)]; omega)]
      exact ⟨_, rfl, rfl⟩
theorem M_isValue {c n : Nat} {mm : Nat → Int32} (v2 : Int32) (hc : c < 4) (hn : mm c = nI n) (h : n ≤ 200) : (∃ i, i < n ∧ v2 = nI i ∧ p_X6_isValue (nI c) v2 mm = some (nI 1)) ∨ ((v2 < nI 0 ∨ ∃ i, i < 2 ^ 31 ∧ v2 = nI i ∧ n ≤ i) ∧ p_X6_isValue (nI c) v2 mm = some (nI 0)) := by
  unfold p_X6_isValue
  rcases colAt (nI c) with ⟨d, hd, e, e1, e2⟩ | ⟨e1, _⟩
  · rw [e2, bdS1, if_neg (show ¬ nI 1 = nI 0 by decide), inbI (by omega), gdD (by omega), ixI (by omega), hn]
    rcases splitI v2 with hneg | ⟨j, hj, rfl⟩
    · right
      refine ⟨Or.inl hneg, ?_⟩
      rw [M_in_neg hneg 0 _ (by omega), bdS1, if_pos rfl]
    · rw [M_in_lt hj (by omega), bdS1]
      by_cases hlt : j < n
      · left
        exact ⟨j, hlt, rfl, by rw [if_pos hlt, if_neg (show ¬ nI 1 = nI 0 by decide)]⟩
      · right
        exact ⟨Or.inr ⟨j, hj, rfl, by omega⟩, by rw [if_neg hlt, if_pos rfl]⟩
  · exfalso
    unfold p_X5_columnAt at e1
    rw [if_neg (by rw [ltI (by omega) (by omega)]; omega), if_pos (by rw [ltI (by omega) (by omega)]; exact hc), inbI (by omega), gdD hc] at e1
    cases e1
theorem X_holds_no {c n : Nat} {xc : Nat → Int32} {v2 : Int32} (hn : xc c = nI n) (h : n ≤ 200) (hv : v2 < nI 0 ∨ ∃ i, i < 2 ^ 31 ∧ v2 = nI i ∧ n ≤ i) : p_X0_holds c v2 xc = some (nI 0) := by
  rcases hv with hneg | ⟨i, hi, rfl, hle⟩
  · unfold p_X0_holds
    rw [if_pos hneg]
  · rw [X_holds hn h hi, if_neg (by omega)]
theorem isV_no {v1 : Int32} {v2 : Int32} {mm : Nat → Int32} (h : p_X6_isColumn v1 = some (nI 0)) : p_X6_isValue v1 v2 mm = some (nI 0) := by
  unfold p_X6_isValue
  rw [h, bdS1, if_pos rfl]
theorem sim_has {xk xo xc : Nat → Int32} {xt : Nat → Nat → Int32} {xn : Nat → Nat → Int64} {xl : Nat → Nat → Int32} {mk mo mm mt : Nat → Int32} {mv : Nat → Int64} {mx : Nat → Int32} (h : Cols xk xo xc xt xn xl mk mo mm mt mv mx) (v1 v2 : Int32) : ∃ r, p_X5_has v1 v2 xc xt = some r ∧ p_X6_has v1 v2 mm mt = some r := by
  unfold p_X5_has p_X6_has
  rcases colAt v1 with ⟨c, hc, rfl, e1, e2⟩ | ⟨e1, e2⟩
  · obtain ⟨K, O, vals, w, x, m⟩ := h c hc
    have hn := w.n
    rw [e1, bdS1, moS, gdD (by omega)]
    rcases M_isValue v2 hc m.n hn with ⟨i, hi, rfl, e3⟩ | ⟨hv, e3⟩
    · rw [e3, bdS1, X_holds x.n hn (by omega), bdS1, if_pos hi, if_neg (show ¬ nI 1 = nI 0 by decide), if_neg (show ¬ nI 1 = nI 0 by decide), X_isThere (x.v i hi).1 (th_le _) (by omega), bdS1, mulI, addI, inbI (by omega), gdD (by omega), ixI (by omega), (m.v i hi).1]
      by_cases h0 : nI (th vals[i]) = nI 0
      · rw [if_pos h0]; exact ⟨_, rfl, rfl⟩
      · rw [if_neg h0]; exact ⟨_, rfl, rfl⟩
    · rw [e3, bdS1, X_holds_no x.n hn hv, bdS1, if_pos rfl, if_pos rfl]
      exact ⟨_, rfl, rfl⟩
  · rw [e1, bdS1, moN, isV_no e2, bdS1, if_pos rfl]
    exact ⟨_, rfl, rfl⟩
theorem nu_no {a : AV} (h : nI (th a) = nI 0) : nu a = lN 0 := by
  cases a with
  | none => rfl
  | some q => exact absurd h (th1 q)
theorem sim_value {xk xo xc : Nat → Int32} {xt : Nat → Nat → Int32} {xn : Nat → Nat → Int64} {xl : Nat → Nat → Int32} {mk mo mm mt : Nat → Int32} {mv : Nat → Int64} {mx : Nat → Int32} (h : Cols xk xo xc xt xn xl mk mo mm mt mv mx) (v1 v2 : Int32) : ∃ r, p_X5_value v1 v2 xc xn = some r ∧ p_X6_value v1 v2 mm mt mv = some r := by
  unfold p_X5_value p_X6_value
  rcases colAt v1 with ⟨c, hc, rfl, e1, e2⟩ | ⟨e1, e2⟩
  · obtain ⟨K, O, vals, w, x, m⟩ := h c hc
    have hn := w.n
    rw [e1, bdS1, moS, gdD (by omega)]
    rcases M_isValue v2 hc m.n hn with ⟨i, hi, rfl, e3⟩ | ⟨hv, e3⟩
    · rw [e3, bdS1, X_holds x.n hn (by omega), bdS1, if_pos hi, if_neg (show ¬ nI 1 = nI 0 by decide), if_neg (show ¬ nI 1 = nI 0 by decide), X_numberAt (by omega), bdS1, mulI, addI, inbI (by omega), gdD (by omega), gdD (by omega), ixI (by omega), (m.v i hi).1, (m.v i hi).2.1, (x.v i hi).2.1]
      refine ⟨_, rfl, ?_⟩
      by_cases h0 : nI (th vals[i]) = nI 0
      · rw [if_pos h0, nu_no h0]
      · rw [if_neg h0]
    · rw [e3, bdS1, X_holds_no x.n hn hv, bdS1, if_pos rfl, if_pos rfl]
      exact ⟨_, rfl, rfl⟩
  · rw [e1, bdS1, moN, isV_no e2, bdS1, if_pos rfl]
    exact ⟨_, rfl, rfl⟩
end
section
theorem M_in_ltL {j n : Nat} (hj : j < 2 ^ 31) (hn : n ≤ 40) : p_X6_in (i2l (nI j)) (lN 0) (lN n - lN 1) = some (nI (if j < n then 1 else 0)) := by
  cases n with
  | zero =>
    rw [M_in, i2l_toInt, nI_toInt (by omega)]
    have e : (lN 0 - lN 1).toInt = -1 := by decide
    rw [e, if_neg (by omega), if_neg (by omega)]
  | succ n =>
    rw [subL (by omega), Nat.add_sub_cancel, M_in_nat (by omega) (by omega) (by omega)]
    congr 3
    exact propext ⟨fun h => by omega, fun h => by omega⟩
theorem sim_letter {xk xo xc : Nat → Int32} {xt : Nat → Nat → Int32} {xn : Nat → Nat → Int64} {xl : Nat → Nat → Int32} {mk mo mm mt : Nat → Int32} {mv : Nat → Int64} {mx : Nat → Int32} (h : Cols xk xo xc xt xn xl mk mo mm mt mv mx) (v1 v2 v3 : Int32) : ∃ r, p_X5_letter v1 v2 v3 xk xc xt xn xl = some r ∧ p_X6_letter v1 v2 v3 mk mm mt mv mx = some r := by
  have hno : p_X6_letter_J61 v1 v2 v3 mx = some (-1 : Int32) := by
    rw [p_X6_letter_J61, p_X6_letter_J62, if_pos rfl]
  unfold p_X5_letter p_X6_letter
  rw [hno]
  rcases colAt v1 with ⟨c, hc, rfl, e1, e2⟩ | ⟨e1, e2⟩
  · obtain ⟨K, O, vals, w, x, m⟩ := h c hc
    have hn := w.n
    have hK := w.k
    rw [e1, bdS1, moS, gdD (by omega), x.k]
    by_cases k2 : K = 2
    · subst k2
      rw [if_pos rfl]
      rcases M_isValue v2 hc m.n hn with ⟨i, hi, rfl, e3⟩ | ⟨hv, e3⟩
      · rw [e3, bdS1, X_holds x.n hn (by omega), bdS1, if_pos hi, if_neg (show ¬ nI 1 = nI 0 by decide), if_neg (show ¬ nI 1 = nI 0 by decide), X_isThere (x.v i hi).1 (th_le _) (by omega), bdS1, inbI (by omega), gdD (by omega), ixI (by omega), m.k, if_pos rfl, mulI, addI, inbI (by omega), gdD (by omega), gdD (by omega), ixI (by omega), (m.v i hi).1, (m.v i hi).2.1, X_numberAt (by omega), bdS1, (x.v i hi).2.1]
        by_cases h0 : nI (th vals[i]) = nI 0
        · rw [if_pos h0, if_pos h0]; exact ⟨_, rfl, rfl⟩
        · have hwf := w.w _ (List.getElem_mem hi)
          have hlen := hwf.1
          rw [if_neg h0, if_neg h0, wfv_num hwf]
          rcases splitI v3 with hneg | ⟨k, hk, rfl⟩
          · rw [if_pos hneg, M_in_neg hneg 0 _ (by omega), bdS1, if_pos rfl]
            exact ⟨_, rfl, rfl⟩
          · rw [if_neg (by rw [ltI (by omega) (by omega)]; omega), i2lI hk]
            have := M_in_ltL (j := k) (n := (le vals[i]).length) hk hlen
            rw [i2lI hk] at this
            rw [this, bdS1]
            by_cases hkl : k < (le vals[i]).length
            · rw [if_pos (by rw [ltL (by omega) (by omega)]; exact hkl), if_pos hkl, if_neg (show ¬ nI 1 = nI 0 by decide), X_letterAt (by omega) (by omega), bdS1, p_X6_letter_J62, if_neg (show ¬ nI 1 = nI 0 by decide), mulI, addI, mulI, addI, inbI (by omega), gdD (by omega), ixI (by omega), (x.v i hi).2.2 k hkl, (m.v i hi).2.2 k (by omega), List.getElem?_eq_getElem hkl]
              exact ⟨_, rfl, rfl⟩
            · rw [if_neg (by rw [ltL (by omega) (by omega)]; exact hkl), if_neg hkl, if_pos rfl]
              exact ⟨_, rfl, rfl⟩
      · rw [e3, bdS1, X_holds_no x.n hn hv, bdS1, if_pos rfl, if_pos rfl]
        exact ⟨_, rfl, rfl⟩
    · rw [if_neg (by rw [eqI (by omega) (by omega)]; exact k2)]
      rcases M_isValue v2 hc m.n hn with ⟨i, hi, rfl, e3⟩ | ⟨hv, e3⟩
      · rw [e3, bdS1, if_neg (show ¬ nI 1 = nI 0 by decide), inbI (by omega), gdD (by omega), ixI (by omega), m.k, if_neg (by rw [eqI (by omega) (by omega)]; exact k2)]
        exact ⟨_, rfl, rfl⟩
      · rw [e3, bdS1, if_pos rfl]
        exact ⟨_, rfl, rfl⟩
  · rw [e1, bdS1, moN, isV_no e2, bdS1, if_pos rfl]
    exact ⟨_, rfl, rfl⟩
/-! alike -/
theorem X_like_L {c d K n0 : Nat} {xk xc : Nat → Int32} {xt : Nat → Nat → Int32} {xn : Nat → Nat → Int64} {xl : Nat → Nat → Int32} {va vb : List AV} (hn : va.length = n0) (hn2 : vb.length = n0) (h200 : n0 ≤ 200) (hK : xk c = nI K) (hK3 : K ≤ 3) (hc : xc c = nI n0) (ha : ∀ (j : Nat) (h : j < va.length), XV xt xn xl c j va[j]) (hb : ∀ (j : Nat) (h : j < vb.length), XV xt xn xl d j vb[j]) (wa : ∀ a ∈ va, wfv K a) (wb : ∀ a ∈ vb, wfv K a) : ∀ (m n k : Nat), n0 - k = m → k ≤ n0 → m < n → (∀ (t : Nat) (h : t < va.length) (h2 : t < vb.length), t < k → va[t] = vb[t]) → itr1 (p_X0_isLike_L26 c d xk xc xt xn xl) n (nI k) = some (nI (if va = vb then 1 else 0)) := by
  intro m
  induction m with
  | zero =>
    intro n k h1 h2 h3 h4
    cases n with
    | zero => omega
    | succ n =>
      show p_X0_isLike_L26 c d xk xc xt xn xl _ (nI k) = _
      have e : va = vb := List.ext_getElem (by omega) (fun t p q => h4 t p q (by omega))
      rw [p_X0_isLike_L26, hc, if_neg (by rw [ltI (by omega) (by omega)]; omega), if_pos e]
  | succ m ih =>
    intro n k h1 h2 h3 h4
    cases n with
    | zero => omega
    | succ n =>
      show p_X0_isLike_L26 c d xk xc xt xn xl _ (nI k) = _
      have ka : k < va.length := by omega
      have kb : k < vb.length := by omega
      rw [p_X0_isLike_L26, hc, if_pos (by rw [ltI (by omega) (by omega)]; omega), X_isSame (by omega) (by omega) hK hK3 (ha k ka) (hb k kb) (wa _ (List.getElem_mem ka)) (wb _ (List.getElem_mem kb)), bdS1]
      by_cases e : va[k] = vb[k]
      · rw [if_pos e, if_neg (show ¬ nI 1 = nI 0 by decide), addI]
        refine ih n (k + 1) (by omega) (by omega) (by omega) (fun t p q ht => ?_)
        by_cases htk : t = k
        · subst htk; exact e
        · exact h4 t p q (by omega)
      · rw [if_neg e, if_pos rfl, if_neg (fun hh => e (by simp only [hh]))]
theorem M_like_L {c d K n0 : Nat} {mm mt : Nat → Int32} {mv : Nat → Int64} {mx : Nat → Int32} {va vb : List AV} {kx : Int32 → Option Int32} (hc4 : c < 4) (hd4 : d < 4) (hn : va.length = n0) (hn2 : vb.length = n0) (h200 : n0 ≤ 200) (hc : mm c = nI n0) (ha : MCol mt mv mx c va) (hb : MCol mt mv mx d vb) (wa : ∀ a ∈ va, wfv K a) (wb : ∀ a ∈ vb, wfv K a) : ∀ (m n k : Nat), n0 - k = m → k ≤ n0 → m + 1 < n → (∀ (t : Nat) (h : t < va.length) (h2 : t < vb.length), t < k → va[t] = vb[t]) → itr2 (p_X6_alike_L55 (nI c) (nI d) mm mt mv mx kx) n (nI 1) (nI k) = kx (nI (if va = vb then 1 else 0)) := by
  intro m
  induction m with
  | zero =>
    intro n k h1 h2 h3 h4
    cases n with
    | zero => omega
    | succ n =>
      show p_X6_alike_L55 (nI c) (nI d) mm mt mv mx kx _ (nI 1) (nI k) = _
      have e : va = vb := List.ext_getElem (by omega) (fun t p q => h4 t p q (by omega))
      rw [p_X6_alike_L55, inbI (by omega), gdD (by omega), ixI (by omega), hc, if_neg (by rw [ltI (by omega) (by omega)]; omega), if_pos e]
  | succ m ih =>
    intro n k h1 h2 h3 h4
    cases n with
    | zero => omega
    | succ n =>
      show p_X6_alike_L55 (nI c) (nI d) mm mt mv mx kx _ (nI 1) (nI k) = _
      have ka : k < va.length := by omega
      have kb : k < vb.length := by omega
      rw [p_X6_alike_L55, inbI (by omega), gdD (by omega), ixI (by omega), hc, if_pos (by rw [ltI (by omega) (by omega)]; omega), if_neg (show ¬ nI 1 = nI 0 by decide), mulI, addI, mulI, addI, M_areLike (by omega) (by omega) (wa _ (List.getElem_mem ka)) (wb _ (List.getElem_mem kb)) (ha k ka) (hb k kb), bdS1, addI]
      by_cases e : va[k] = vb[k]
      · rw [if_pos e]
        refine ih n (k + 1) (by omega) (by omega) (by omega) (fun t p q ht => ?_)
        by_cases htk : t = k
        · subst htk; exact e
        · exact h4 t p q (by omega)
      · rw [if_neg e, if_neg (fun hh => e (by simp only [hh]))]
        cases n with
        | zero => omega
        | succ n =>
          show p_X6_alike_L55 (nI c) (nI d) mm mt mv mx kx _ (nI 0) (nI (k + 1)) = _
          rw [p_X6_alike_L55, inbI (by omega), gdD (by omega), ixI (by omega), hc]
          by_cases h7 : k + 1 < n0
          · rw [if_pos (by rw [ltI (by omega) (by omega)]; exact h7), if_pos rfl]
          · rw [if_neg (by rw [ltI (by omega) (by omega)]; exact h7)]
theorem M_like_0 {c d n0 : Nat} {mm mt : Nat → Int32} {mv : Nat → Int64} {mx : Nat → Int32} {kx : Int32 → Option Int32} (hc4 : c < 4) (h200 : n0 ≤ 200) (hc : mm c = nI n0) : itr2 (p_X6_alike_L55 (nI c) (nI d) mm mt mv mx kx) fu (nI 0) (nI 0) = kx (nI 0) := by
  rw [fu_eq]
  show p_X6_alike_L55 (nI c) (nI d) mm mt mv mx kx _ (nI 0) (nI 0) = _
  rw [p_X6_alike_L55, inbI (by omega), gdD (by omega), ixI (by omega), hc]
  by_cases h7 : 0 < n0
  · rw [if_pos (by rw [ltI (by omega) (by omega)]; exact h7), if_pos rfl]
  · rw [if_neg (by rw [ltI (by omega) (by omega)]; exact h7)]
theorem sim_alike {xk xo xc : Nat → Int32} {xt : Nat → Nat → Int32} {xn : Nat → Nat → Int64} {xl : Nat → Nat → Int32} {mk mo mm mt : Nat → Int32} {mv : Nat → Int64} {mx : Nat → Int32} (h : Cols xk xo xc xt xn xl mk mo mm mt mv mx) (v1 v2 : Int32) : ∃ r, p_X5_alike v1 v2 xk xc xt xn xl = some r ∧ p_X6_alike v1 v2 mk mm mt mv mx = some r := by
  unfold p_X5_alike p_X6_alike
  rcases colAt v1 with ⟨c, hc, rfl, e1, e2⟩ | ⟨e1, e2⟩
  · rw [e1, e2, bdS1, bdS1, moS, gdD (by omega), if_neg (show ¬ nI 1 = nI 0 by decide)]
    rcases colAt v2 with ⟨d, hd, rfl, e3, e4⟩ | ⟨e3, e4⟩
    · obtain ⟨K, O, va, w, x, m⟩ := h c hc
      obtain ⟨K2, O2, vb, w2, x2, m2⟩ := h d hd
      have hn := w.n
      have hK := w.k
      have hn2 := w2.n
      have hK2 := w2.k
      rw [e3, e4, bdS1, bdS1, moS, gdD (by omega), if_neg (show ¬ nI 1 = nI 0 by decide), inbI (by omega), gdD (by omega), inbI (by omega), gdD (by omega), gdD (by omega), gdD (by omega), ixI (by omega), ixI (by omega), m.k, m2.k, m.n, m2.n]
      unfold p_X0_isLike
      rw [x.k, x2.k, x.n, x2.n]
      by_cases ek : K = K2
      · subst ek
        rw [if_pos rfl, if_pos rfl]
        by_cases en : va.length = vb.length
        · have eX := X_like_L (c := c) (d := d) (xk := xk) (xc := xc) (n0 := va.length) rfl en.symm hn x.k hK x.n x.v x2.v w.w w2.w va.length fu 0 (by omega) (by omega) (by rw [fu_eq]; omega) (fun t _ _ ht => by omega)
          have eM := M_like_L (c := c) (d := d) (n0 := va.length) (kx := fun v3_12 => p_X6_alike_J97 v3_12) hc hd rfl en.symm hn m.n m.v m2.v w.w w2.w va.length fu 0 (by omega) (by omega) (by rw [fu_eq]; omega) (fun t _ _ ht => by omega)
          rw [if_pos (by rw [en]), if_pos (by rw [en]), eX, eM, bdS1]
          by_cases e : va = vb
          · rw [if_pos e, if_neg (show ¬ nI 1 = nI 0 by decide)]
            exact ⟨_, rfl, by rw [p_X6_alike_J97, if_neg (show ¬ nI 1 = nI 0 by decide)]⟩
          · rw [if_neg e, if_pos rfl]
            exact ⟨_, rfl, by rw [p_X6_alike_J97, if_pos rfl]⟩
        · rw [if_neg (by rw [eqI (by omega) (by omega)]; exact en), if_neg (by rw [eqI (by omega) (by omega)]; exact en), bdS1, if_pos rfl, M_like_0 hc hn m.n]
          exact ⟨_, rfl, by rw [p_X6_alike_J97, if_pos rfl]⟩
      · rw [if_neg (by rw [eqI (by omega) (by omega)]; exact ek), if_neg (by rw [eqI (by omega) (by omega)]; exact ek), bdS1, if_pos rfl, M_like_0 hc hn m.n]
        exact ⟨_, rfl, by rw [p_X6_alike_J97, if_pos rfl]⟩
    · rw [e3, e4, bdS1, bdS1, moN, if_pos rfl]
      exact ⟨_, rfl, rfl⟩
  · rw [e1, e2, bdS1, bdS1, moN, if_pos rfl]
    rcases colAt v2 with ⟨d, hd, rfl, e3, e4⟩ | ⟨e3, e4⟩
    · rw [e3, bdS1, moS, gdD (by omega)]
      exact ⟨_, rfl, rfl⟩
    · rw [e3, bdS1, moN]
      exact ⟨_, rfl, rfl⟩
end
section
/-! told -/
def vat (vals : List AV) (i : Nat) : AV := vals[i]?.getD none
theorem vat_at {vals : List AV} {i : Nat} (h : i < vals.length) : vat vals i = vals[i] := by
  unfold vat
  rw [List.getElem?_eq_getElem h]
  rfl
def absF (vals : List AV) : Nat → Nat
  | 0 => 0
  | i + 1 => absF vals i + (1 - th (vat vals i))
def un (vals : List AV) (i : Nat) : Nat := if vat vals i = none ∨ vat vals i ∈ vals.take i then 0 else 1
def unF (vals : List AV) : Nat → Nat
  | 0 => 0
  | i + 1 => unF vals i + un vals i
theorem X_absent_L {c : Nat} {xc : Nat → Int32} {xt : Nat → Nat → Int32} {xn : Nat → Nat → Int64} {xl : Nat → Nat → Int32} {vals : List AV} (hl : vals.length ≤ 200) (hc : xc c = nI vals.length) (hv : ∀ (j : Nat) (h : j < vals.length), XV xt xn xl c j vals[j]) : ∀ (m n i : Nat), vals.length - i = m → i ≤ vals.length → m < n → itr2 (p_X0_countAbsent_L4 c xc xt) n (nI (absF vals i)) (nI i) = some (nI (absF vals vals.length)) := by
  intro m
  induction m with
  | zero =>
    intro n i h1 h2 h3
    have : i = vals.length := by omega
    subst this
    cases n with
    | zero => omega
    | succ n =>
      show p_X0_countAbsent_L4 c xc xt _ _ (nI vals.length) = _
      rw [p_X0_countAbsent_L4, hc, if_neg (by rw [ltI (by omega) (by omega)]; omega)]
  | succ m ih =>
    intro n i h1 h2 h3
    cases n with
    | zero => omega
    | succ n =>
      have hi : i < vals.length := by omega
      have := ih n (i + 1) (by omega) (by omega) (by omega)
      show p_X0_countAbsent_L4 c xc xt _ _ (nI i) = _
      rw [p_X0_countAbsent_L4, hc, if_pos (by rw [ltI (by omega) (by omega)]; omega), X_isThere (hv i hi).1 (th_le _) (by omega), bdS1, addI, addI, addI]
      rw [absF, vat_at hi] at this
      cases ha : vals[i] with
      | none => rw [ha] at this; rw [if_pos th0]; exact this
      | some q => rw [ha] at this; rw [if_neg (th1 q)]; exact this
theorem X_unl_L {c K : Nat} {xk xc : Nat → Int32} {xt : Nat → Nat → Int32} {xn : Nat → Nat → Int64} {xl : Nat → Nat → Int32} {vals : List AV} (hl : vals.length ≤ 200) (hc : xc c = nI vals.length) (hK : xk c = nI K) (hK3 : K ≤ 3) (hv : ∀ (j : Nat) (h : j < vals.length), XV xt xn xl c j vals[j]) (hw : ∀ a ∈ vals, wfv K a) : ∀ (m n i : Nat), vals.length - i = m → i ≤ vals.length → m < n → itr2 (p_X0_countUnlike_L4 c xk xc xt xn xl) n (nI (unF vals i)) (nI i) = some (nI (unF vals vals.length)) := by
  intro m
  induction m with
  | zero =>
    intro n i h1 h2 h3
    have : i = vals.length := by omega
    subst this
    cases n with
    | zero => omega
    | succ n =>
      show p_X0_countUnlike_L4 c xk xc xt xn xl _ _ (nI vals.length) = _
      rw [p_X0_countUnlike_L4, hc, if_neg (by rw [ltI (by omega) (by omega)]; omega)]
  | succ m ih =>
    intro n i h1 h2 h3
    cases n with
    | zero => omega
    | succ n =>
      have hi : i < vals.length := by omega
      have := ih n (i + 1) (by omega) (by omega) (by omega)
      rw [unF] at this
      unfold un at this
      rw [vat_at hi] at this
      show p_X0_countUnlike_L4 c xk xc xt xn xl _ _ (nI i) = _
      rw [p_X0_countUnlike_L4, hc, if_pos (by rw [ltI (by omega) (by omega)]; omega), X_isThere (hv i hi).1 (th_le _) (by omega), bdS1, addI, addI, addI]
      cases ha : vals[i] with
      | none =>
        rw [ha, if_pos (Or.inl rfl)] at this
        rw [if_pos th0]
        exact this
      | some q =>
        obtain ⟨j, hj, q1, q2, q3, q4⟩ := X_first hl hi hK hK3 hv hw
        rw [if_neg (th1 q), q1, bdS1]
        by_cases e : j = i
        · subst e
          rw [if_neg (by
            rintro (h | h)
            · rw [ha] at h; cases h
            · obtain ⟨t, ht, hti, e2⟩ := mem_take.mp h
              exact q4 t ht hti e2)] at this
          rw [if_pos rfl]
          exact this
        · rw [if_pos (Or.inr (mem_take.mpr ⟨j, hj, by omega, q3⟩))] at this
          rw [if_neg (by rw [eqI (by omega) (by omega)]; exact e)]
          exact this
theorem M_seen_L {c i K : Nat} {mt : Nat → Int32} {mv : Nat → Int64} {mx : Nat → Int32} {vals : List AV} {kx : Int32 → Option Int32} (hc : c < 4) (hl : vals.length ≤ 200) (hi : i < vals.length) (hv : MCol mt mv mx c vals) (hw : ∀ a ∈ vals, wfv K a) : ∀ (m n k : Nat), i - k = m → k ≤ i → m + 1 < n → (∀ (t : Nat) (h : t < vals.length), t < k → vals[t] ≠ vals[i]) → itr2 (p_X6_told_L127 (nI c) (nI i) (nI (200 * c + i)) mt mv mx kx) n (nI 1) (nI k) = kx (nI (if vals[i] ∈ vals.take i then 0 else 1)) := by
  intro m
  induction m with
  | zero =>
    intro n k h1 h2 h3 h4
    have : k = i := by omega
    subst this
    cases n with
    | zero => omega
    | succ n =>
      show p_X6_told_L127 (nI c) (nI k) (nI (200 * c + k)) mt mv mx kx _ (nI 1) (nI k) = _
      rw [p_X6_told_L127, if_neg (by rw [ltI (by omega) (by omega)]; omega), if_neg (by
        intro h
        obtain ⟨t, ht, hti, e2⟩ := mem_take.mp h
        exact h4 t ht hti e2)]
  | succ m ih =>
    intro n k h1 h2 h3 h4
    cases n with
    | zero => omega
    | succ n =>
      have hk : k < vals.length := by omega
      show p_X6_told_L127 (nI c) (nI i) (nI (200 * c + i)) mt mv mx kx _ (nI 1) (nI k) = _
      rw [p_X6_told_L127, if_pos (by rw [ltI (by omega) (by omega)]; omega), if_neg (show ¬ nI 1 = nI 0 by decide), mulI, addI, M_areLike (by omega) (by omega) (hw _ (List.getElem_mem hk)) (hw _ (List.getElem_mem hi)) (hv k hk) (hv i hi), bdS1, addI]
      by_cases e : vals[k] = vals[i]
      · rw [if_pos e, if_neg (show ¬ nI 1 = nI 0 by decide), if_pos (mem_take.mpr ⟨k, hk, by omega, e⟩)]
        cases n with
        | zero => omega
        | succ n =>
          show p_X6_told_L127 (nI c) (nI i) (nI (200 * c + i)) mt mv mx kx _ (nI 0) (nI (k + 1)) = _
          rw [p_X6_told_L127]
          by_cases h7 : k + 1 < i
          · rw [if_pos (by rw [ltI (by omega) (by omega)]; exact h7), if_pos rfl]
          · rw [if_neg (by rw [ltI (by omega) (by omega)]; exact h7)]
      · rw [if_neg e, if_pos rfl]
        refine ih n (k + 1) (by omega) (by omega) (by omega) (fun t p ht => ?_)
        by_cases htk : t = k
        · subst htk; exact e
        · exact h4 t p (by omega)
theorem M_told_L {c K : Nat} {mm mt : Nat → Int32} {mv : Nat → Int64} {mx : Nat → Int32} {vals : List AV} {kx : Int32 → Int32 → Option Int32} (hc : c < 4) (hl : vals.length ≤ 200) (hn : mm c = nI vals.length) (hv : MCol mt mv mx c vals) (hw : ∀ a ∈ vals, wfv K a) : ∀ (m n i : Nat), vals.length - i = m → i ≤ vals.length → m < n → itr3 (p_X6_told_L76 (nI c) mm mt mv mx kx) n (nI (absF vals i)) (nI (unF vals i)) (nI i) = kx (nI (absF vals vals.length)) (nI (unF vals vals.length)) := by
  intro m
  induction m with
  | zero =>
    intro n i h1 h2 h3
    have : i = vals.length := by omega
    subst this
    cases n with
    | zero => omega
    | succ n =>
      show p_X6_told_L76 (nI c) mm mt mv mx kx _ _ _ (nI vals.length) = _
      rw [p_X6_told_L76, inbI (by omega), gdD (by omega), ixI (by omega), hn, if_neg (by rw [ltI (by omega) (by omega)]; omega)]
  | succ m ih =>
    intro n i h1 h2 h3
    cases n with
    | zero => omega
    | succ n =>
      have hi : i < vals.length := by omega
      have := ih n (i + 1) (by omega) (by omega) (by omega)
      rw [unF, absF] at this
      unfold un at this
      rw [vat_at hi] at this
      show p_X6_told_L76 (nI c) mm mt mv mx kx _ _ _ (nI i) = _
      rw [p_X6_told_L76, inbI (by omega), gdD (by omega), ixI (by omega), hn, if_pos (by rw [ltI (by omega) (by omega)]; omega), mulI, addI, inbI (by omega), gdD (by omega), ixI (by omega), (hv i hi).1, p_X6_told_J113, p_X6_told_J113, inbI (by omega), gdD (by omega), gdD (by omega), ixI (by omega), (hv i hi).1, addI, addI]
      cases ha : vals[i] with
      | none =>
        rw [ha, if_pos (Or.inl rfl)] at this
        rw [if_pos th0]
        have e0 : ∀ kk : Int32 → Option Int32, itr2 (p_X6_told_L127 (nI c) (nI i) (nI (200 * c + i)) mt mv mx kk) fu (nI (th none)) (nI 0) = kk (nI 0) := by
          intro kk
          rw [fu_eq]
          show p_X6_told_L127 (nI c) (nI i) (nI (200 * c + i)) mt mv mx kk _ (nI 0) (nI 0) = _
          rw [p_X6_told_L127]
          by_cases h7 : 0 < i
          · rw [if_pos (by rw [ltI (by omega) (by omega)]; exact h7), if_pos rfl]
          · rw [if_neg (by rw [ltI (by omega) (by omega)]; exact h7)]
        rw [e0, p_X6_told_J169, if_pos rfl, addI, addI]
        exact this
      | some q =>
        have es := fun kk : Int32 → Option Int32 => M_seen_L (kx := kk) hc hl hi hv hw i fu 0 (by omega) (by omega) (by rw [fu_eq]; omega) (fun t _ ht => by omega)
        rw [ha] at this es
        rw [if_neg (th1 q), show nI (th (some q)) = nI 1 from rfl, es, p_X6_told_J169, addI, addI, addI]
        by_cases e : some q ∈ vals.take i
        · rw [if_pos (Or.inr e)] at this
          rw [if_pos e, if_pos rfl]
          exact this
        · rw [if_neg (by
            rintro (h | h)
            · cases h
            · exact e h)] at this
          rw [if_neg e, if_neg (show ¬ nI 1 = nI 0 by decide)]
          exact this
theorem sim_told {xk xo xc : Nat → Int32} {xt : Nat → Nat → Int32} {xn : Nat → Nat → Int64} {xl : Nat → Nat → Int32} {mk mo mm mt : Nat → Int32} {mv : Nat → Int64} {mx : Nat → Int32} (h : Cols xk xo xc xt xn xl mk mo mm mt mv mx) (v1 v2 : Int32) : ∃ r, p_X5_told v1 v2 xk xo xc xt xn xl = some r ∧ p_X6_told v1 v2 mk mo mm mt mv mx = some r := by
  unfold p_X5_told p_X6_told
  rcases colAt v1 with ⟨c, hc, rfl, e1, e2⟩ | ⟨e1, e2⟩
  · obtain ⟨K, O, vals, w, x, m⟩ := h c hc
    have hn := w.n
    have hO := w.o
    rw [e1, e2, bdS1, bdS1, moS, gdD (by omega), if_neg (show ¬ nI 1 = nI 0 by decide)]
    rcases splitI v2 with hneg | ⟨j, hj, rfl⟩
    · have hne : ∀ k, k < 2 ^ 31 → v2 ≠ nI k := fun k hk e => by
        rw [e, ltI (by omega) (by omega)] at hneg
        omega
      rw [M_in_neg hneg 0 _ (by omega), bdS1, if_pos rfl, if_neg (hne 0 (by omega)), if_neg (hne 1 (by omega)), if_neg (hne 2 (by omega)), if_neg (hne 3 (by omega)), if_neg (hne 4 (by omega))]
      exact ⟨_, rfl, rfl⟩
    · rw [M_in_nat (by omega) (by omega) (by omega), bdS1]
      by_cases h4 : j ≤ 4
      · have eA : p_X0_countAbsent c xc xt = some (nI (absF vals vals.length)) := X_absent_L (xl := xl) hn x.n x.v vals.length fu 0 (by omega) (by omega) (by rw [fu_eq]; omega)
        have eU : p_X0_countUnlike c xk xc xt xn xl = some (nI (unF vals vals.length)) := X_unl_L hn x.n x.k w.k x.v w.w vals.length fu 0 (by omega) (by omega) (by rw [fu_eq]; omega)
        have eM := fun kx : Int32 → Int32 → Option Int32 => M_told_L (kx := kx) hc hn m.n m.v w.w vals.length fu 0 (by omega) (by omega) (by rw [fu_eq]; omega)
        have eM' : ∀ kx : Int32 → Int32 → Option Int32, itr3 (p_X6_told_L76 (nI c) mm mt mv mx kx) fu (nI 0) (nI 0) (nI 0) = kx (nI (absF vals vals.length)) (nI (unF vals vals.length)) := eM
        rw [if_pos (show 0 ≤ j ∧ j ≤ 4 by omega), if_neg (show ¬ nI 1 = nI 0 by decide), eA, eU, eM', bdS1, bdS1, x.k, x.o, x.n, inbI (by omega), gdD (by omega), gdD (by omega), gdD (by omega), ixI (by omega), m.k, m.o, m.n]
        have hj5 : j = 0 ∨ j = 1 ∨ j = 2 ∨ j = 3 ∨ j = 4 := by omega
        rcases hj5 with rfl | rfl | rfl | rfl | rfl
        · exact ⟨_, rfl, rfl⟩
        · have hO2 : O = 0 ∨ O = 1 := by omega
          rcases hO2 with rfl | rfl
          · exact ⟨_, rfl, rfl⟩
          · exact ⟨_, rfl, rfl⟩
        · exact ⟨_, rfl, rfl⟩
        · exact ⟨_, rfl, rfl⟩
        · exact ⟨_, rfl, rfl⟩
      · rw [if_neg (show ¬ (0 ≤ j ∧ j ≤ 4) by omega), if_pos rfl, if_neg (by rw [eqI (by omega) (by omega)]; omega), if_neg (by rw [eqI (by omega) (by omega)]; omega), if_neg (by rw [eqI (by omega) (by omega)]; omega), if_neg (by rw [eqI (by omega) (by omega)]; omega), if_neg (by rw [eqI (by omega) (by omega)]; omega)]
        exact ⟨_, rfl, rfl⟩
  · rw [e1, e2, bdS1, bdS1, moN, if_pos rfl]
    exact ⟨_, rfl, rfl⟩
end
section
/-! repeat -/
def FrC (c : Nat) (xt : Nat → Nat → Int32) (xn : Nat → Nat → Int64) (xl : Nat → Nat → Int32) (xt' : Nat → Nat → Int32) (xn' : Nat → Nat → Int64) (xl' : Nat → Nat → Int32) : Prop := ∀ d, d ≠ c → xt' d = xt d ∧ xn' d = xn d ∧ xl' d = xl d
theorem FrC.rf {c : Nat} {xt : Nat → Nat → Int32} {xn : Nat → Nat → Int64} {xl : Nat → Nat → Int32} : FrC c xt xn xl xt xn xl := fun _ _ => ⟨rfl, rfl, rfl⟩
theorem FrC.tr {c : Nat} {xt xt1 xt2 : Nat → Nat → Int32} {xn xn1 xn2 : Nat → Nat → Int64} {xl xl1 xl2 : Nat → Nat → Int32} (h1 : FrC c xt xn xl xt1 xn1 xl1) (h2 : FrC c xt1 xn1 xl1 xt2 xn2 xl2) : FrC c xt xn xl xt2 xn2 xl2 := fun d hd => ⟨(h2 d hd).1.trans (h1 d hd).1, (h2 d hd).2.1.trans (h1 d hd).2.1, (h2 d hd).2.2.trans (h1 d hd).2.2⟩
theorem XV_set {xt : Nat → Nat → Int32} {xn : Nat → Nat → Int64} {xl : Nat → Nat → Int32} {c i : Nat} (a : AV) : XV (up xt c (up (xt c) i (nI (th a)))) (up xn c (up (xn c) i (nu a))) (up xl c (wr (xl c) (i * 40) (le a))) c i a := by
  refine ⟨by rw [up_s, up_s], by rw [up_s, up_s], fun k hk => ?_⟩
  rw [up_s, wr_in (by omega) (by omega)]
  congr 1
  omega
theorem XV_set_n {xt : Nat → Nat → Int32} {xn : Nat → Nat → Int64} {xl : Nat → Nat → Int32} {c i j : Nat} {a b : AV} (hj : j ≠ i) (ha : (le a).length ≤ 40) (hb : (le b).length ≤ 40) (h : XV xt xn xl c j b) : XV (up xt c (up (xt c) i (nI (th a)))) (up xn c (up (xn c) i (nu a))) (up xl c (wr (xl c) (i * 40) (le a))) c j b := by
  refine ⟨by rw [up_s, up_n hj]; exact h.1, by rw [up_s, up_n hj]; exact h.2.1, fun k hk => ?_⟩
  rw [up_s, wr_out (by omega)]
  exact h.2.2 k hk
def RX (vals : List AV) (Q N c p : Nat) (xt : Nat → Nat → Int32) (xn : Nat → Nat → Int64) (xl : Nat → Nat → Int32) : Prop := ∀ j, j < 200 → (p ≤ j → j < N → XV xt xn xl c j (vat vals (j / Q))) ∧ (j < p → j < vals.length → XV xt xn xl c j (vat vals j))
theorem X_rep_step {vals : List AV} {Q N c p K : Nat} {xk : Nat → Int32} {xt : Nat → Nat → Int32} {xn : Nat → Nat → Int64} {xl : Nat → Nat → Int32} (hK : xk c = nI K) (hK3 : K ≤ 3) (hw : ∀ i, wfv K (vat vals i)) (hN : N ≤ 200) (hp : p < N) (hQ : p / Q < vals.length) (h : RX vals Q N c (p + 1) xt xn xl) : ∃ xt' xn' xl', p_X0_setCopy c (nI p) c (nI (p / Q)) xk xt xn xl = some (xt', xn', xl') ∧ RX vals Q N c p xt' xn' xl' ∧ FrC c xt xn xl xt' xn' xl' := by
  have hle := Nat.div_le_self p Q
  refine ⟨_, _, _, X_setCopy (by omega) (by omega) hK hK3 (hw (p / Q)) ((h (p / Q) (by omega)).2 (by omega) hQ), ?_, fun d hd => ⟨up_n hd, up_n hd, up_n hd⟩⟩
  intro j hj
  refine ⟨fun h1 h2 => ?_, fun h1 h2 => ?_⟩
  · by_cases e : j = p
    · subst e
      exact XV_set _
    · exact XV_set_n e (hw _).1 (hw _).1 ((h j hj).1 (by omega) h2)
  · exact XV_set_n (by omega) (hw _).1 (hw _).1 ((h j hj).2 (by omega) h2)
theorem X_rep_in {vals : List AV} {Q N c i K : Nat} {xk : Nat → Int32} {kx : (Nat → Nat → Int32) → (Nat → Nat → Int64) → (Nat → Nat → Int32) → Option ((Nat → Int32) × (Nat → Nat → Int32) × (Nat → Nat → Int64) × (Nat → Nat → Int32))} (hK : xk c = nI K) (hK3 : K ≤ 3) (hw : ∀ i, wfv K (vat vals i)) (hN : N ≤ 200) (hi : i < vals.length) (hiN : i * Q + Q ≤ N) : ∀ (k n : Nat) (xt : Nat → Nat → Int32) (xn : Nat → Nat → Int64) (xl : Nat → Nat → Int32), k ≤ Q → k < n → RX vals Q N c (i * Q + k) xt xn xl → ∃ xt' xn' xl', itr4 (p_X0_multiply_L13 c (nI Q) (nI i) xk kx) n (dn k) xt xn xl = kx xt' xn' xl' ∧ RX vals Q N c (i * Q) xt' xn' xl' ∧ FrC c xt xn xl xt' xn' xl' := by
  intro k
  induction k with
  | zero =>
    intro n xt xn xl h1 h2 h
    cases n with
    | zero => omega
    | succ n =>
      refine ⟨xt, xn, xl, ?_, h, FrC.rf⟩
      show p_X0_multiply_L13 c (nI Q) (nI i) xk kx _ (dn 0) xt xn xl = _
      rw [p_X0_multiply_L13, if_pos dn_0]
  | succ k ih =>
    intro n xt xn xl h1 h2 h
    cases n with
    | zero => omega
    | succ n =>
      have hd : (i * Q + k) / Q = i := by rw [Nat.mul_comm, Nat.mul_add_div (by omega), Nat.div_eq_of_lt (by omega), Nat.add_zero]
      obtain ⟨xt1, xn1, xl1, e1, g1, f1⟩ := X_rep_step (p := i * Q + k) hK hK3 hw hN (by omega) (by rw [hd]; exact hi) h
      obtain ⟨xt2, xn2, xl2, e2, g2, f2⟩ := ih n xt1 xn1 xl1 (by omega) (by omega) g1
      rw [hd] at e1
      refine ⟨xt2, xn2, xl2, ?_, g2, f1.tr f2⟩
      show p_X0_multiply_L13 c (nI Q) (nI i) xk kx _ (dn (k + 1)) xt xn xl = _
      rw [p_X0_multiply_L13, dn_s, if_neg (by rw [ltI (by omega) (by omega)]; omega), mulI, addI, e1, bdS3, dn_d]
      exact e2
theorem X_rep_out {vals : List AV} {P Q N c K : Nat} {xk xc : Nat → Int32} (hK : xk c = nI K) (hK3 : K ≤ 3) (hw : ∀ i, wfv K (vat vals i)) (hN : N ≤ 200) (hP : P ≤ vals.length) (hl : vals.length ≤ 200) (hQ : Q ≤ 200) (hPQ : P * Q = N) : ∀ (i n : Nat) (xt : Nat → Nat → Int32) (xn : Nat → Nat → Int64) (xl : Nat → Nat → Int32), i ≤ P → i < n → RX vals Q N c (i * Q) xt xn xl → ∃ xt' xn' xl', itr4 (p_X0_multiply_L4 c (nI P) (nI Q) xk xc) n (dn i) xt xn xl = some (up xc c (nI N), xt', xn', xl') ∧ RX vals Q N c 0 xt' xn' xl' ∧ FrC c xt xn xl xt' xn' xl' := by
  intro i
  induction i with
  | zero =>
    intro n xt xn xl h1 h2 h
    cases n with
    | zero => omega
    | succ n =>
      rw [Nat.zero_mul] at h
      refine ⟨xt, xn, xl, ?_, h, FrC.rf⟩
      show p_X0_multiply_L4 c (nI P) (nI Q) xk xc _ (dn 0) xt xn xl = _
      rw [p_X0_multiply_L4, if_pos dn_0, mulI, hPQ]
  | succ i ih =>
    intro n xt xn xl h1 h2 h
    cases n with
    | zero => omega
    | succ n =>
      have hm : (i + 1) * Q ≤ P * Q := Nat.mul_le_mul_right _ h1
      rw [Nat.succ_mul] at hm h
      obtain ⟨xt1, xn1, xl1, e1, g1, f1⟩ := X_rep_in (kx := fun xt_5 xn_6 xl_7 => itr4 (p_X0_multiply_L4 c (nI P) (nI Q) xk xc) n (nI i + (-1 : Int32)) xt_5 xn_6 xl_7) hK hK3 hw hN (show i < vals.length by omega) (by omega) Q fu xt xn xl (by omega) (by rw [fu_eq]; omega) h
      obtain ⟨xt2, xn2, xl2, e2, g2, f2⟩ := ih n xt1 xn1 xl1 (by omega) (by omega) g1
      refine ⟨xt2, xn2, xl2, ?_, g2, f1.tr f2⟩
      show p_X0_multiply_L4 c (nI P) (nI Q) xk xc _ (dn (i + 1)) xt xn xl = _
      rw [p_X0_multiply_L4, dn_s, if_neg (by rw [ltI (by omega) (by omega)]; omega)]
      refine Eq.trans e1 ?_
      rw [dn_d]
      exact e2
def RM (vals : List AV) (Q N c p : Nat) (mt : Nat → Int32) (mv : Nat → Int64) (mx : Nat → Int32) : Prop := ∀ j, j < 200 → (p ≤ j → j < N → MV mt mv mx (200 * c + j) (vat vals (j / Q))) ∧ (j < p → j < vals.length → MV mt mv mx (200 * c + j) (vat vals j))
def FrM (c : Nat) (mt : Nat → Int32) (mv : Nat → Int64) (mx : Nat → Int32) (mt' : Nat → Int32) (mv' : Nat → Int64) (mx' : Nat → Int32) : Prop := ∀ s a, (s < 200 * c ∨ 200 * c + 200 ≤ s) → MV mt mv mx s a → MV mt' mv' mx' s a
theorem M_rep {vals : List AV} {Q N c K : Nat} {mm : Nat → Int32} (hc : c < 4) (hw : ∀ i, wfv K (vat vals i)) (hN : N ≤ 200) (hQ0 : 0 < Q) (hQ : Q < 2 ^ 31) (hl : ∀ p, p < N → p / Q < vals.length) : ∀ (p n : Nat) (mt : Nat → Int32) (mv : Nat → Int64) (mx : Nat → Int32), p ≤ N → p < n → RM vals Q N c p mt mv mx → ∃ mt' mv' mx', itr4 (p_X6_repeat_L65 (nI c) (nI Q) mm) n (dn p) mt mv mx = some (mm c, mm, mt', mv', mx') ∧ RM vals Q N c 0 mt' mv' mx' ∧ FrM c mt mv mx mt' mv' mx' := by
  intro p
  induction p with
  | zero =>
    intro n mt mv mx h1 h2 h
    cases n with
    | zero => omega
    | succ n =>
      refine ⟨mt, mv, mx, ?_, h, fun _ _ _ h => h⟩
      show p_X6_repeat_L65 (nI c) (nI Q) mm _ (dn 0) mt mv mx = _
      rw [p_X6_repeat_L65, if_pos dn_0, inbI (by omega), gdD (by omega), ixI (by omega)]
  | succ p ih =>
    intro n mt mv mx h1 h2 h
    cases n with
    | zero => omega
    | succ n =>
      have hle := Nat.div_le_self p Q
      have hpl := hl p (by omega)
      have e1 := M_copies (s1 := 200 * c + p) (s2 := 200 * c + p / Q) (by omega) (by omega) (hw (p / Q)).2.1 ((h (p / Q) (by omega)).2 (by omega) hpl)
      have hr : RM vals Q N c p (up mt (200 * c + p) (nI (th (vat vals (p / Q))))) (up mv (200 * c + p) (nu (vat vals (p / Q)))) (wr mx (40 * (200 * c + p)) (l40 (le (vat vals (p / Q))))) := by
        intro j hj
        refine ⟨fun h3 h4 => ?_, fun h3 h4 => ?_⟩
        · by_cases e : j = p
          · subst e
            exact MV_wr _
          · exact MV_wr_n (by omega) ((h j hj).1 (by omega) h4)
        · exact MV_wr_n (by omega) ((h j hj).2 (by omega) h4)
      obtain ⟨mt2, mv2, mx2, e2, g2, f2⟩ := ih n _ _ _ (by omega) (by omega) hr
      refine ⟨mt2, mv2, mx2, ?_, g2, fun s a hs hv => f2 s a hs (MV_wr_n (by omega) hv)⟩
      have hnz : nz (nI Q) = true := by
        unfold nz
        refine decide_eq_true ?_
        show nI Q ≠ nI 0
        intro e
        rw [eqI (by omega) (by omega)] at e
        omega
      show p_X6_repeat_L65 (nI c) (nI Q) mm _ (dn (p + 1)) mt mv mx = _
      rw [p_X6_repeat_L65, dn_s, if_neg (by rw [ltI (by omega) (by omega)]; omega), gdT hnz, mulI, divI (by omega) hQ0 hQ, addI, addI, e1, bdS3, dn_d]
      exact e2
theorem sim_repeat {xk xo xc : Nat → Int32} {xt : Nat → Nat → Int32} {xn : Nat → Nat → Int64} {xl : Nat → Nat → Int32} {mk mo mm mt : Nat → Int32} {mv : Nat → Int64} {mx : Nat → Int32} (h : Cols xk xo xc xt xn xl mk mo mm mt mv mx) (v1 v2 v3 : Int32) : ∃ r xc' xt' xn' xl' mm' mt' mv' mx', p_X5_repeat v1 v2 v3 xk xc xt xn xl = some (r, xc', xt', xn', xl') ∧ p_X6_repeat v1 v2 v3 mm mt mv mx = some (r, mm', mt', mv', mx') ∧ Cols xk xo xc' xt' xn' xl' mk mo mm' mt' mv' mx' ∧ xc' 5 = xc 5 := by
  unfold p_X5_repeat p_X6_repeat
  rcases colAt v1 with ⟨c, hc, rfl, e1, e2⟩ | ⟨e1, e2⟩
  · obtain ⟨K, O, vals, w, x, m⟩ := h c hc
    have hK3 := w.k
    have hn := w.n
    rw [e1, e2, bdS1, bdS1, moS, gdD (by omega), if_neg (show ¬ nI 1 = nI 0 by decide), inbI (by omega), gdD (by omega), gdD (by omega), ixI (by omega), x.n, m.n, i2lI (n := vals.length) (by omega)]
    rcases splitI v2 with hneg | ⟨P, hP, rfl⟩
    · rw [if_pos hneg, M_in_neg hneg 0 _ (by omega), bdS1, if_pos rfl]
      exact ⟨_, _, _, _, _, _, _, _, _, rfl, rfl, h, rfl⟩
    · rw [if_neg (show ¬ nI P < nI 0 by rw [ltI (by omega) (by omega)]; omega), M_in_nat (by omega) (by omega) (by omega), bdS1]
      by_cases hPl : P ≤ vals.length
      · rw [if_neg (show ¬ nI vals.length < nI P by rw [ltI (by omega) (by omega)]; omega), if_pos (show 0 ≤ P ∧ P ≤ vals.length by omega), if_neg (show ¬ nI 1 = nI 0 by decide)]
        rcases splitI v3 with hneg | ⟨Q, hQ, rfl⟩
        · rw [M_in_neg hneg 1 _ (by omega), bdS1, if_pos rfl, if_pos (Int32.lt_trans hneg (by decide))]
          exact ⟨_, _, _, _, _, _, _, _, _, rfl, rfl, h, rfl⟩
        · rw [M_in_nat (by omega) (by omega) (by omega), bdS1]
          by_cases hQ1 : 1 ≤ Q ∧ Q ≤ 200
          · have hmul : P * Q ≤ 200 * 200 := Nat.mul_le_mul (by omega) hQ1.2
            rw [if_neg (show ¬ nI Q < nI 1 by rw [ltI (by omega) (by omega)]; omega), if_neg (show ¬ nI 200 < nI Q by rw [ltI (by omega) (by omega)]; omega), if_pos hQ1, if_neg (show ¬ nI 1 = nI 0 by decide), mulI]
            by_cases hN : 200 < P * Q
            · rw [if_pos (by rw [ltI (by omega) (by omega)]; exact hN), if_pos (by rw [ltI (by omega) (by omega)]; exact hN)]
              exact ⟨_, _, _, _, _, _, _, _, _, rfl, rfl, h, rfl⟩
            · rw [if_neg (by rw [ltI (by omega) (by omega)]; exact hN), if_neg (by rw [ltI (by omega) (by omega)]; exact hN)]
              have hwv : ∀ i, wfv K (vat vals i) := by
                intro i
                by_cases hi : i < vals.length
                · rw [vat_at hi]; exact w.w _ (List.getElem_mem hi)
                · unfold vat
                  rw [List.getElem?_eq_none (by omega)]
                  exact wfv_none
              have hdiv : ∀ p, p < P * Q → p / Q < vals.length := fun p hp => by
                have : p / Q < P := Nat.div_lt_of_lt_mul (by rw [Nat.mul_comm]; exact hp)
                omega
              obtain ⟨xt1, xn1, xl1, q1, g1, f1⟩ := X_rep_out (xc := xc) (P := P) (Q := Q) (N := P * Q) (c := c) x.k hK3 hwv (by omega) hPl hn hQ1.2 rfl P fu xt xn xl (by omega) (by rw [fu_eq]; omega) (fun j hj => ⟨fun h1 h2 => by omega, fun h1 h2 => by rw [vat_at h2]; exact x.v j h2⟩)
              obtain ⟨mt1, mv1, mx1, q2, g2, f2⟩ := M_rep (mm := up mm c (nI (P * Q))) (Q := Q) (N := P * Q) hc hwv (by omega) (by omega) (by omega) hdiv (P * Q) fu mt mv mx (by omega) (by rw [fu_eq]; omega) (fun j hj => ⟨fun h1 h2 => by omega, fun h1 h2 => by rw [vat_at h2]; exact m.v j h2⟩)
              have em : p_X0_multiply c (nI P) (nI Q) xk xc xt xn xl = some (up xc c (nI (P * Q)), xt1, xn1, xl1) := q1
              rw [em, bdS4]
              refine ⟨_, _, _, _, _, up mm c (nI (P * Q)), mt1, mv1, mx1, rfl, ?_, ?_, up_n (by omega)⟩
              · have : dn (P * Q) = nI (P * Q) - nI 1 := rfl
                rw [this, up_s] at q2
                rw [up_s]
                exact q2
              · have hlen : ((List.range (P * Q)).map (fun j => vat vals (j / Q))).length = P * Q := by simp
                refine h.put (c := c) ⟨K, O, (List.range (P * Q)).map (fun j => vat vals (j / Q)), ⟨hK3, w.o, by rw [hlen]; omega, fun a ha => ?_⟩, ⟨x.k, x.o, by rw [up_s, hlen], fun j hj => ?_⟩, ⟨m.k, m.o, by rw [up_s, hlen], fun j hj => ?_⟩⟩ (fun d hd => ⟨rfl, rfl, up_n hd, (f1 d hd).1, (f1 d hd).2.1, (f1 d hd).2.2⟩) (fun d hd => ⟨rfl, rfl, up_n hd⟩) (fun d j a hd hd4 hj hv => f2 _ a (by omega) hv)
                · obtain ⟨j, _, rfl⟩ := List.mem_map.mp ha
                  exact hwv _
                · rw [hlen] at hj
                  rw [List.getElem_map, List.getElem_range]
                  exact (g1 j (by omega)).1 (by omega) hj
                · rw [hlen] at hj
                  rw [List.getElem_map, List.getElem_range]
                  exact (g2 j (by omega)).1 (by omega) hj
          · rw [if_neg hQ1, if_pos (show nI 0 = nI 0 from rfl)]
            by_cases q1 : Q < 1
            · rw [if_pos (by rw [ltI (by omega) (by omega)]; exact q1)]
              exact ⟨_, _, _, _, _, _, _, _, _, rfl, rfl, h, rfl⟩
            · rw [if_neg (by rw [ltI (by omega) (by omega)]; exact q1), if_pos (by rw [ltI (by omega) (by omega)]; omega)]
              exact ⟨_, _, _, _, _, _, _, _, _, rfl, rfl, h, rfl⟩
      · rw [if_pos (show nI vals.length < nI P by rw [ltI (by omega) (by omega)]; omega), if_neg (show ¬ (0 ≤ P ∧ P ≤ vals.length) by omega), if_pos rfl]
        exact ⟨_, _, _, _, _, _, _, _, _, rfl, rfl, h, rfl⟩
  · rw [e1, e2, bdS1, bdS1, moN, if_pos rfl]
    exact ⟨_, _, _, _, _, _, _, _, _, rfl, rfl, h, rfl⟩
end
section
/-! write -/
theorem Cols.frM {xk xo xc : Nat → Int32} {xt : Nat → Nat → Int32} {xn : Nat → Nat → Int64} {xl : Nat → Nat → Int32} {mk mo mm mt mm' mt' : Nat → Int32} {mv mv' : Nat → Int64} {mx mx' : Nat → Int32} (h : Cols xk xo xc xt xn xl mk mo mm mt mv mx) (h1 : ∀ j, j ≠ 5 → mm' j = mm j) (h2 : MFr 1000 mt mv mx mt' mv' mx') : Cols xk xo xc xt xn xl mk mo mm' mt' mv' mx' := by
  intro c hc
  obtain ⟨K, O, vals, w, x, m⟩ := h c hc
  have hn := w.n
  exact ⟨K, O, vals, w, x, m.oth rfl rfl (h1 c (by omega)) (fun j a hj hv => h2 _ (by omega) a hv)⟩
theorem X_J78 {s0 : Nat} {Z kept l : List Int32} {rc rv : Nat → Int32} {rb : Nat → Nat → Int32} {la : Nat → Nat → Int64} {wch : Nat → Int32} {wcc : Int32} {wpl : Nat → Int32} {wun : Int32} {mf : Nat → Int32} (hk : kept = [] ∨ kept = l) (hs : kept.length = s0) (hb : b8L Z) (hx : XRow rc rb 1 l) (hv : rv 1 = nI 0) (hm : MRow mf (nI l.length) 12000 l) (h : XOut rc rv rb 2 Z) : ∃ r rc' rv' rb', p_X5_write_J78 (nI s0) rc rv rb la wch wcc wpl wun = some (r, rc', rv', rb', la, wch, wcc, wpl, wun) ∧ (r, wr mf s0 Z, nI (s0 + Z.length)) = (r, wr mf s0 Z, nI (s0 + Z.length)) ∧ (if 12000 < s0 + Z.length then r = (-3 : Int32) ∧ Filed rc' rv' rb' mf (nI l.length) else r = nI (s0 + Z.length) ∧ Filed rc' rv' rb' (wr mf s0 Z) (nI (s0 + Z.length))) ∧ FrR 1 rc rv rb rc' rv' rb' := by
  have hl : l.length ≤ 12000 := hm.2.1
  have hsl : s0 ≤ l.length := by
    rcases hk with e | e
    · rw [← hs, e]; exact Nat.zero_le _
    · rw [← hs, e]; exact Nat.le_refl _
  have r2 : rlen 2 = 12000 := rfl
  have r1 : rlen 1 = 12000 := rfl
  rw [p_X5_write_J78]
  rcases h with ⟨h1, h2, h3, h4⟩ | ⟨h1, h2, _⟩
  · rw [if_pos h3, h2, addI]
    by_cases hf : 12000 < s0 + Z.length
    · rw [if_pos (by rw [ltI (by omega) (by omega)]; exact hf)]
      exact ⟨_, _, _, _, rfl, rfl, by rw [if_pos hf]; exact ⟨rfl, ⟨l, hx, hm⟩, hv⟩, FrR.rf⟩
    · have es : p_X3_shorten 1 (nI s0) rc = some (up rc 1 (nI s0)) := by
        unfold p_X3_shorten
        rw [hx.1, iminI (by omega) (by omega), imaxI (by omega) (by omega)]
        congr 2
        rw [show max 0 (min s0 l.length) = s0 by omega]
      have hkb : b8L kept := by
        rcases hk with e | e
        · rw [e]; exact b8L_nil
        · rw [e]; exact hx.2.2.1
      have hks : ∀ (k : Nat) (h : k < kept.length) , ∃ h2 : k < l.length, kept[k] = l[k] := by
        intro k hkk
        rcases hk with e | e
        · subst e; simp at hkk
        · subst e; exact ⟨hkk, rfl⟩
      have hko : XOut (up rc 1 (nI s0)) rv rb 1 kept := Or.inl ⟨by omega, by rw [up_s, hs], hv, fun k hkk => by
        obtain ⟨q1, q2⟩ := hks k hkk
        rw [q2]
        exact hx.2.2.2 k q1⟩
      have hzo : XOut (up rc 1 (nI s0)) rv rb 2 Z := Or.inl ⟨h1, by rw [up_n (by omega)]; exact h2, h3, h4⟩
      obtain ⟨rc1, rv1, rb1, e1, g1, f1⟩ := X_append (d := 1) (s := 2) (by omega) rfl hb hzo hko
      have hlen : (kept ++ Z).length = s0 + Z.length := by rw [List.length_append, hs]
      obtain ⟨q1, q2⟩ := g1.row (by omega) (hkb.app hb)
      rw [if_neg (by rw [ltI (by omega) (by omega)]; exact hf), es, bdS1, e1, bdS3]
      refine ⟨_, _, _, _, rfl, rfl, ?_, fun q hq => ⟨(f1 q hq).1.trans (up_n hq), (f1 q hq).2⟩⟩
      rw [if_neg hf]
      refine ⟨by rw [q1.1, hlen], ⟨⟨kept ++ Z, q1, by rw [hlen], by rw [hlen]; omega, fun k hkk => ?_⟩, q2⟩⟩
      by_cases hkk2 : k < kept.length
      · obtain ⟨q3, q4⟩ := hks k hkk2
        rw [wr_out (by omega), List.getElem_append_left hkk2, q4]
        exact hm.2.2 k q3
      · rw [hlen] at hkk
        rw [wr_in (by omega) (by omega), List.getElem_append_right (by omega)]
        congr 1
        omega
  · rw [if_neg (by rw [h2]; decide)]
    exact ⟨_, _, _, _, rfl, rfl, by rw [if_pos (by omega)]; exact ⟨rfl, ⟨l, hx, hm⟩, hv⟩, FrR.rf⟩
theorem sim_write {xk xo xc : Nat → Int32} {xt : Nat → Nat → Int32} {xn : Nat → Nat → Int64} {xl : Nat → Nat → Int32} {rc rv : Nat → Int32} {rb : Nat → Nat → Int32} {mk mo mm mt : Nat → Int32} {mv : Nat → Int64} {mx mf : Nat → Int32} {ms : Int32} (h : Cols xk xo xc xt xn xl mk mo mm mt mv mx) (hfl : Filed rc rv rb mf ms) (v1 v2 v3 v4 : Int32) (la : Nat → Nat → Int64) (wch : Nat → Int32) (wcc : Int32) (wpl : Nat → Int32) (wun : Int32) (md : Nat → Int32) (mdd : Int32) (mn mst : Nat → Int64) (mpl mbb : Nat → Int32) :
    ∃ r rc' rv' rb' la' wch' wcc' wpl' wun' mm' mt' mv' mx' mf' ms' md' mdd' mn' mst' mpl' mbb', p_X5_write v1 v2 v3 v4 xk xo xc xt xn xl rc rv rb la wch wcc wpl wun = some (r, rc', rv', rb', la', wch', wcc', wpl', wun') ∧ p_X6_write v1 v2 v3 v4 mk mo mm mt mv mx mf ms md mdd mn mst mpl mbb = some (r, mm', mt', mv', mx', mf', ms', md', mdd', mn', mst', mpl', mbb') ∧ Cols xk xo xc xt xn xl mk mo mm' mt' mv' mx' ∧ Filed rc' rv' rb' mf' ms' ∧ rc' 0 = rc 0 ∧ rv' 0 = rv 0 ∧ rb' 0 = rb 0 := by
  have hbad : ∃ r rc' rv' rb' la' wch' wcc' wpl' wun' mm' mt' mv' mx' mf' ms' md' mdd' mn' mst' mpl' mbb', (some ((-1 : Int32), rc, rv, rb, la, wch, wcc, wpl, wun) : Option (Int32 × (Nat → Int32) × (Nat → Int32) × (Nat → Nat → Int32) × (Nat → Nat → Int64) × (Nat → Int32) × Int32 × (Nat → Int32) × Int32)) = some (r, rc', rv', rb', la', wch', wcc', wpl', wun') ∧ (some ((-1 : Int32), mm, mt, mv, mx, mf, ms, md, mdd, mn, mst, mpl, mbb) : Option WR) = some (r, mm', mt', mv', mx', mf', ms', md', mdd', mn', mst', mpl', mbb') ∧ Cols xk xo xc xt xn xl mk mo mm' mt' mv' mx' ∧ Filed rc' rv' rb' mf' ms' ∧ rc' 0 = rc 0 ∧ rv' 0 = rv 0 ∧ rb' 0 = rb 0 :=
    ⟨_, _, _, _, _, _, _, _, _, _, _, _, _, _, _, _, _, _, _, _, _, rfl, rfl, h, hfl, rfl, rfl, rfl⟩
  unfold p_X5_write p_X6_write
  rcases colAt v1 with ⟨c, hc, rfl, e1, e2⟩ | ⟨e1, e2⟩
  · obtain ⟨K, O, vals, w, x, m⟩ := h c hc
    have hK3 := w.k
    have hn := w.n
    rw [e1, e2, bdS1, bdS1, moS, gdD (by omega), if_neg (show ¬ nI 1 = nI 0 by decide)]
    rcases splitI v2 with hneg | ⟨way, hway, rfl⟩
    · rw [if_pos hneg, M_in_neg hneg 0 _ (by omega), bdS1, if_pos rfl]
      exact hbad
    · rw [if_neg (show ¬ nI way < nI 0 by rw [ltI (by omega) (by omega)]; omega), M_in_nat (by omega) (by omega) (by omega), bdS1]
      by_cases hw2 : way ≤ 2
      · rw [if_neg (show ¬ nI 2 < nI way by rw [ltI (by omega) (by omega)]; omega), if_pos (show 0 ≤ way ∧ way ≤ 2 by omega), if_neg (show ¬ nI 1 = nI 0 by decide), inbI (by omega), gdD (by omega), ixI (by omega), x.k, m.k]
        -- a bad count of values for each page
        have badq : ¬ (∃ q, q < 2 ^ 31 ∧ v3 = nI q ∧ 1 ≤ q ∧ q ≤ 200) → p_X6_in (i2l v3) (lN 1) (lN 200) = some (nI 0) ∧ (v3 < nI 1 ∨ nI 200 < v3) := by
          intro hq
          rcases splitI v3 with hneg | ⟨q, hq3, rfl⟩
          · exact ⟨M_in_neg hneg 1 _ (by omega), Or.inl (Int32.lt_trans hneg (by decide))⟩
          · have hno : ¬ (1 ≤ q ∧ q ≤ 200) := fun hh => hq ⟨q, hq3, rfl, hh.1, hh.2⟩
            refine ⟨by rw [M_in_nat (by omega) (by omega) (by omega), if_neg hno], ?_⟩
            rw [ltI (by omega) (by omega), ltI (by omega) (by omega)]
            omega
        by_cases hq : ∃ q, q < 2 ^ 31 ∧ v3 = nI q ∧ 1 ≤ q ∧ q ≤ 200
        · obtain ⟨q, hq3, rfl, hq1, hq2⟩ := hq
          rw [if_neg (show ¬ nI q < nI 1 by rw [ltI (by omega) (by omega)]; omega), if_neg (show ¬ nI 200 < nI q by rw [ltI (by omega) (by omega)]; omega)]
          have main : (way = 1 → K ≠ 3) → ∃ r rc' rv' rb' la' wch' wcc' wpl' wun' mm' mt' mv' mx' mf' ms' md' mdd' mn' mst' mpl' mbb', p_X5_write_J51 (nI way) (nI q) v4 c xk xo xc xt xn xl rc rv rb la wch wcc wpl wun = some (r, rc', rv', rb', la', wch', wcc', wpl', wun') ∧ p_X6_write_J34 (nI c) (nI way) (nI q) v4 mk mo mm mt mv mx mf ms md mdd mn mst mpl mbb = some (r, mm', mt', mv', mx', mf', ms', md', mdd', mn', mst', mpl', mbb') ∧ Cols xk xo xc xt xn xl mk mo mm' mt' mv' mx' ∧ Filed rc' rv' rb' mf' ms' ∧ rc' 0 = rc 0 ∧ rv' 0 = rv 0 ∧ rb' 0 = rb 0 := by
            intro h13
            obtain ⟨⟨l, hx, hm⟩, hv⟩ := hfl
            have hl : l.length ≤ 12000 := hm.2.1
            have hmt := hm.1
            subst hmt
            obtain ⟨rc1, rv1, rb1, la1, wch1, wcc1, wpl1, wun1, eX, gX, fX⟩ := X_writePages (way := way) (q := q) (wch := wch) (wcc := wcc) (wpl := wpl) (wun := wun) (la := la) (rc := rc) (rv := rv) (rb := rb) hn x.n x.k hK3 x.o w.o x.v w.w hw2 hq1 hq2 h13
            obtain ⟨f1, f2, f3⟩ := fX 1 (by omega) (by omega)
            obtain ⟨f4, f5, f6⟩ := fX 0 (by omega) (by omega)
            have hx1 : XRow rc1 rb1 1 l := ⟨by rw [f1]; exact hx.1, hx.2.1, hx.2.2.1, fun k hk => by rw [f3]; exact hx.2.2.2 k hk⟩
            have hv1 : rv1 1 = nI 0 := f2.trans hv
            obtain ⟨mm', mt', mv', mx', md', mdd', mn', mst', mpl', mbb', eM, gm, gf⟩ := M_write_J34 (s0 := if v4 = nI 0 then 0 else l.length) (S := l.length) (ap := v4) (mf := mf) (md := md) (mdd := mdd) (mn := mn) (mst := mst) (mpl := mpl) (mbb := mbb) (show c < 5 by omega) hn m.n m.k hK3 m.o w.o m.v w.w hw2 hq1 hq2 h13 hl rfl
            have hbz := b8L_write (K := K) (O := O) (way := way) (q := q) w.w
            have hJ : ∃ r rc' rv' rb', p_X5_write_J78 (nI (if v4 = nI 0 then 0 else l.length)) rc1 rv1 rb1 la1 wch1 wcc1 wpl1 wun1 = some (r, rc', rv', rb', la1, wch1, wcc1, wpl1, wun1) ∧ (if 12000 < (if v4 = nI 0 then 0 else l.length) + (writeB K O vals way q).length then r = (-3 : Int32) ∧ Filed rc' rv' rb' mf (nI l.length) else r = nI ((if v4 = nI 0 then 0 else l.length) + (writeB K O vals way q).length) ∧ Filed rc' rv' rb' (wr mf (if v4 = nI 0 then 0 else l.length) (writeB K O vals way q)) (nI ((if v4 = nI 0 then 0 else l.length) + (writeB K O vals way q).length))) ∧ FrR 1 rc1 rv1 rb1 rc' rv' rb' := by
              by_cases hap : v4 = nI 0
              · rw [if_pos hap]
                obtain ⟨r, a, b, d, j1, _, j2, j3⟩ := X_J78 (kept := []) (la := la1) (wch := wch1) (wcc := wcc1) (wpl := wpl1) (wun := wun1) (Or.inl rfl) rfl hbz hx1 hv1 hm gX
                exact ⟨r, a, b, d, j1, j2, j3⟩
              · rw [if_neg hap]
                obtain ⟨r, a, b, d, j1, _, j2, j3⟩ := X_J78 (kept := l) (la := la1) (wch := wch1) (wcc := wcc1) (wpl := wpl1) (wun := wun1) (Or.inr rfl) rfl hbz hx1 hv1 hm gX
                exact ⟨r, a, b, d, j1, j2, j3⟩
            obtain ⟨r, rc2, rv2, rb2, j1, j2, j3⟩ := hJ
            have eX2 : p_X5_write_J51 (nI way) (nI q) v4 c xk xo xc xt xn xl rc rv rb la wch wcc wpl wun = some (r, rc2, rv2, rb2, la1, wch1, wcc1, wpl1, wun1) := by
              rw [p_X5_write_J51, eX, bdS8]
              by_cases hap : v4 = nI 0
              · rw [if_pos hap] at j1
                rw [if_pos hap]
                exact j1
              · rw [if_neg hap] at j1
                rw [if_neg hap, hx1.1]
                exact j1
            have hfr : rc2 0 = rc 0 ∧ rv2 0 = rv 0 ∧ rb2 0 = rb 0 := ⟨(j3 0 (by omega)).1.trans f4, (j3 0 (by omega)).2.1.trans f5, (j3 0 (by omega)).2.2.trans f6⟩
            rw [eX2, eM]
            by_cases hf : 12000 < (if v4 = nI 0 then 0 else l.length) + (writeB K O vals way q).length
            · rw [if_pos hf] at j2 ⊢
              obtain ⟨k1, k2⟩ := j2
              rw [k1]
              exact ⟨_, _, _, _, _, _, _, _, _, _, _, _, _, _, _, _, _, _, _, _, _, rfl, rfl, h.frM gm gf, k2, hfr⟩
            · rw [if_neg hf] at j2 ⊢
              obtain ⟨k1, k2⟩ := j2
              rw [k1]
              exact ⟨_, _, _, _, _, _, _, _, _, _, _, _, _, _, _, _, _, _, _, _, _, rfl, rfl, h.frM gm gf, k2, hfr⟩
          by_cases w1 : way = 1
          · rw [if_pos (show nI way = nI 1 by rw [w1]), if_pos (show nI way = nI 1 by rw [w1])]
            by_cases k3 : K = 3
            · rw [if_pos (show nI K = nI 3 by rw [k3]), if_pos (show nI K = nI 3 by rw [k3])]
              exact hbad
            · rw [if_neg (show ¬ nI K = nI 3 by rw [eqI (by omega) (by omega)]; exact k3), if_neg (show ¬ nI K = nI 3 by rw [eqI (by omega) (by omega)]; exact k3)]
              exact main (fun _ => k3)
          · rw [if_neg (show ¬ nI way = nI 1 by rw [eqI (by omega) (by omega)]; exact w1), if_neg (show ¬ nI way = nI 1 by rw [eqI (by omega) (by omega)]; exact w1)]
            exact main (fun hh => absurd hh w1)
        · obtain ⟨b1, b2⟩ := badq hq
          have eM : p_X6_write_J34 (nI c) (nI way) v3 v4 mk mo mm mt mv mx mf ms md mdd mn mst mpl mbb = some ((-1 : Int32), mm, mt, mv, mx, mf, ms, md, mdd, mn, mst, mpl, mbb) := by
            rw [p_X6_write_J34, b1, bdS1, if_pos rfl]
          have hM : ∃ X, X = some ((-1 : Int32), mm, mt, mv, mx, mf, ms, md, mdd, mn, mst, mpl, mbb) ∧ (if nI way = nI 1 then (if nI K = nI 3 then some ((-1 : Int32), mm, mt, mv, mx, mf, ms, md, mdd, mn, mst, mpl, mbb) else p_X6_write_J34 (nI c) (nI way) v3 v4 mk mo mm mt mv mx mf ms md mdd mn mst mpl mbb) else p_X6_write_J34 (nI c) (nI way) v3 v4 mk mo mm mt mv mx mf ms md mdd mn mst mpl mbb) = X := by
            refine ⟨_, ?_, rfl⟩
            rw [eM]
            split
            · split <;> rfl
            · rfl
          obtain ⟨X, hX1, hX2⟩ := hM
          rw [hX2, hX1]
          by_cases b3 : v3 < nI 1
          · rw [if_pos b3]
            exact hbad
          · rw [if_neg b3, if_pos (b2.resolve_left b3)]
            exact hbad
      · rw [if_pos (show nI 2 < nI way by rw [ltI (by omega) (by omega)]; omega), if_neg (show ¬ (0 ≤ way ∧ way ≤ 2) by omega), if_pos rfl]
        exact hbad
  · rw [e1, e2, bdS1, bdS1, moN, if_pos rfl]
    exact hbad
end
section
/-! the class after a fault: nothing moves, the fault stays -/
theorem d_next {rb : Nat → Nat → Int32} {srow : Option Nat} {ssp sen str stp : Int32} (hd : str ≠ nI 0) : p_X4_next rb srow ssp sen str stp = some (nI 0, ssp, str, stp) := by
  unfold p_X4_next
  rw [if_neg hd]
theorem d_demand {v1 v2 v3 str stp : Int32} (hd : str ≠ nI 0) : p_X4_demand v1 v2 v3 str stp = some (str, stp) := by
  unfold p_X4_demand
  rw [if_neg hd]
theorem d_sound {str : Int32} (hd : str ≠ nI 0) : p_X4_isSound str = some (nI 0) := by
  unfold p_X4_isSound
  rw [if_neg hd]
theorem d_nothing {ssp sen str stp : Int32} (hd : str ≠ nI 0) : p_X4_demandNothingLeft ssp sen str stp = some (str, stp) := by
  unfold p_X4_demandNothingLeft
  rw [d_demand hd, d_demand hd, bdS2, ite_self]
theorem d_nextVar {rb : Nat → Nat → Int32} {srow : Option Nat} {ssp sen str stp : Int32} (hd : str ≠ nI 0) : ∃ v, p_X4_nextVar rb srow ssp sen str stp = some (v, ssp, str, stp) := by
  unfold p_X4_nextVar
  rw [fu_eq]
  show ∃ v, p_X4_nextVar_L4 rb srow sen _ (lN 0) (nI 0) ssp str stp = some (v, ssp, str, stp)
  rw [p_X4_nextVar_L4, if_pos (by decide), d_next hd, bdS4, if_neg (by decide), p_X4_nextVar_J58, if_pos (by decide)]
  exact ⟨_, rfl⟩
theorem d_little_L {rb : Nat → Nat → Int32} {srow : Option Nat} {ssp sen str stp : Int32} {N : Nat} (hd : str ≠ nI 0) (hN : N < 2 ^ 30) : ∀ (m n k : Nat) (v : Int64), N - k = m → k ≤ N → m < n → ∃ v', itr5 (p_X4_nextLittle_L5 (nI N) rb srow sen) n v (nI k) ssp str stp = some (v', ssp, str, stp) := by
  intro m
  induction m with
  | zero =>
    intro n k v h1 h2 h3
    cases n with
    | zero => omega
    | succ n =>
      refine ⟨v, ?_⟩
      show p_X4_nextLittle_L5 (nI N) rb srow sen _ v (nI k) ssp str stp = _
      rw [p_X4_nextLittle_L5, if_neg (by rw [ltI (by omega) (by omega)]; omega)]
  | succ m ih =>
    intro n k v h1 h2 h3
    cases n with
    | zero => omega
    | succ n =>
      obtain ⟨v', e⟩ := ih n (k + 1) (v ||| (lshl (i2l (nI 0)) (nI (8 * k)))) (by omega) (by omega) (by omega)
      refine ⟨v', ?_⟩
      show p_X4_nextLittle_L5 (nI N) rb srow sen _ v (nI k) ssp str stp = _
      rw [p_X4_nextLittle_L5, if_pos (by rw [ltI (by omega) (by omega)]; omega), d_next hd, bdS4, mulI, addI]
      exact e
theorem d_little {rb : Nat → Nat → Int32} {srow : Option Nat} {ssp sen str stp : Int32} {N : Nat} (hd : str ≠ nI 0) (hN : N ≤ 8) : ∃ v', p_X4_nextLittle (nI N) rb srow ssp sen str stp = some (v', ssp, str, stp) :=
  d_little_L hd (by omega) N fu 0 (lN 0) (by omega) (by omega) (by rw [fu_eq]; omega)
theorem d_packed {v1 : Nat} {v2 v3 v4 v5 : Int32} {rb : Nat → Nat → Int32} {la : Nat → Nat → Int64} {srow : Option Nat} {ssp sen str stp : Int32} (hd : str ≠ nI 0) : p_X4_nextPacked v1 v2 v3 v4 v5 rb la srow ssp sen str stp = some (la, ssp, str, stp) := by
  unfold p_X4_nextPacked
  rw [fu_eq]
  show p_X4_nextPacked_L9 v1 v2 v3 v4 v5 rb srow sen _ _ _ v2 la ssp str stp = _
  rw [p_X4_nextPacked_L9, if_neg hd, ite_self]
theorem d_runs {v1 : Nat} {v2 v3 : Int32} {rb : Nat → Nat → Int32} {la : Nat → Nat → Int64} {srow : Option Nat} {ssp sen str stp : Int32} (hd : str ≠ nI 0) : p_X4_nextRuns v1 v2 v3 rb la srow ssp sen str stp = some (la, ssp, str, stp) := by
  unfold p_X4_nextRuns
  rw [fu_eq]
  show p_X4_nextRuns_L6 v1 v2 v3 rb srow sen _ _ _ la ssp str stp = _
  rw [p_X4_nextRuns_L6, if_neg hd, ite_self, ite_self]
theorem d_widths_L {v1 v2 : Int32} {rb : Nat → Nat → Int32} {srow : Option Nat} {ssp sen str stp : Int32} (hd : str ≠ nI 0) : ∀ (m n k : Nat) (swd : Nat → Int32), 4 - k = m → k ≤ 4 → m < n → ∃ swd', itr5 (p_X4_nextWidths_L2 v1 v2 rb srow sen) n (nI k) ssp str stp swd = some (ssp, str, stp, swd') := by
  intro m
  induction m with
  | zero =>
    intro n k swd h1 h2 h3
    cases n with
    | zero => omega
    | succ n =>
      refine ⟨swd, ?_⟩
      show p_X4_nextWidths_L2 v1 v2 rb srow sen _ (nI k) ssp str stp swd = _
      rw [p_X4_nextWidths_L2, if_neg (by rw [ltI (by omega) (by omega)]; omega)]
  | succ m ih =>
    intro n k swd h1 h2 h3
    cases n with
    | zero => omega
    | succ n =>
      obtain ⟨swd', e⟩ := ih n (k + 1) (up swd k (nI 0)) (by omega) (by omega) (by omega)
      refine ⟨swd', ?_⟩
      have e43 : ∀ (a b c : Int32) (kx : Int32 → Int32 → Int32 → Int32 → (Nat → Int32) → Option (Int32 × Int32 × Int32 × (Nat → Int32))), p_X4_nextWidths_J43 (nI k) a b c ssp str stp swd kx = kx (nI (k + 1)) ssp str stp (up swd k (nI 0)) := by
        intro a b c kx
        rw [p_X4_nextWidths_J43, d_demand hd, bdS2, if_neg hd, inbI (by omega), gdD (by omega), ixI (by omega), addI]
      have e35 : ∀ (a b c d : Int32) (kx : Int32 → Int32 → Int32 → Int32 → (Nat → Int32) → Option (Int32 × Int32 × Int32 × (Nat → Int32))), p_X4_nextWidths_J35 (nI k) a b c d ssp str stp swd kx = kx (nI (k + 1)) ssp str stp (up swd k (nI 0)) := by
        intro a b c d kx
        rw [p_X4_nextWidths_J35, e43, e43, ite_self]
      show p_X4_nextWidths_L2 v1 v2 rb srow sen _ (nI k) ssp str stp swd = _
      rw [p_X4_nextWidths_L2, if_pos (by rw [ltI (by omega) (by omega)]; omega), d_next hd, bdS4, e35, e35, ite_self]
      exact e
theorem d_widths {v1 v2 : Int32} {rb : Nat → Nat → Int32} {srow : Option Nat} {ssp sen str stp : Int32} {swd : Nat → Int32} (hd : str ≠ nI 0) : ∃ swd', p_X4_nextWidths v1 v2 rb srow ssp sen str stp swd = some (ssp, str, stp, swd') :=
  d_widths_L hd 4 fu 0 swd (by omega) (by omega) (by rw [fu_eq]; omega)
theorem d_diffs_L {v1 : Nat} {v2 v3 : Int32} {rb : Nat → Nat → Int32} {la : Nat → Nat → Int64} {srow : Option Nat} {ssp sen str stp : Int32} {swd : Nat → Int32} (hd : str ≠ nI 0) (k : Int32) : itr6 (p_X4_nextDifferences_L111 v1 v2 v3 rb srow sen) fu k la ssp str stp swd = some (la, ssp, str, stp, swd) := by
  rw [fu_eq]
  show p_X4_nextDifferences_L111 v1 v2 v3 rb srow sen _ k la ssp str stp swd = _
  rw [p_X4_nextDifferences_L111, if_neg hd, ite_self]
theorem d_J68 {v1 : Nat} {v2 v3 v4 s1 : Int32} {rb : Nat → Nat → Int32} {la : Nat → Nat → Int64} {srow : Option Nat} {ssp sen str stp : Int32} {swd : Nat → Int32} (hd : str ≠ nI 0) : ∃ la', p_X4_nextDifferences_J68 v1 v2 v3 v4 s1 rb la srow ssp sen str stp swd = some (la', ssp, str, stp, swd) := by
  obtain ⟨v, e⟩ := d_nextVar (rb := rb) (srow := srow) (ssp := ssp) (sen := sen) (stp := stp) hd
  rw [p_X4_nextDifferences_J68, d_demand hd, bdS2, e, bdS4]
  unfold p_X5_unzigged
  rw [bdS1, gdT (by decide), gdT (by decide)]
  simp only [d_diffs_L hd]
  split
  · split
    · split
      · exact ⟨_, rfl⟩
      · exact ⟨_, rfl⟩
    · exact ⟨_, rfl⟩
  · exact ⟨_, rfl⟩
theorem d_J46 {v1 : Nat} {v2 v3 v4 s1 : Int32} {rb : Nat → Nat → Int32} {la : Nat → Nat → Int64} {srow : Option Nat} {ssp sen str stp : Int32} {swd : Nat → Int32} (hd : str ≠ nI 0) : ∃ la', p_X4_nextDifferences_J46 v1 v2 v3 v4 s1 rb la srow ssp sen str stp swd = some (la', ssp, str, stp, swd) := by
  obtain ⟨v, e⟩ := d_nextVar (rb := rb) (srow := srow) (ssp := ssp) (sen := sen) (stp := stp) hd
  rw [p_X4_nextDifferences_J46, d_demand hd, bdS2, e, bdS4]
  split
  · exact d_J68 hd
  · exact d_J68 hd
theorem d_J23 {v1 : Nat} {v2 v3 v4 s1 : Int32} {rb : Nat → Nat → Int32} {la : Nat → Nat → Int64} {srow : Option Nat} {ssp sen str stp : Int32} {swd : Nat → Int32} (hd : str ≠ nI 0) : ∃ la', p_X4_nextDifferences_J23 v1 v2 v3 v4 s1 rb la srow ssp sen str stp swd = some (la', ssp, str, stp, swd) := by
  obtain ⟨v, e⟩ := d_nextVar (rb := rb) (srow := srow) (ssp := ssp) (sen := sen) (stp := stp) hd
  rw [p_X4_nextDifferences_J23, d_demand hd, bdS2, e, bdS4]
  split
  · exact d_J46 hd
  · exact d_J46 hd
theorem d_diffs {v1 : Nat} {v2 v3 : Int32} {rb : Nat → Nat → Int32} {la : Nat → Nat → Int64} {srow : Option Nat} {ssp sen str stp : Int32} {swd : Nat → Int32} (hd : str ≠ nI 0) : ∃ la', p_X4_nextDifferences v1 v2 v3 rb la srow ssp sen str stp swd = some (la', ssp, str, stp, swd) := by
  obtain ⟨v, e⟩ := d_nextVar (rb := rb) (srow := srow) (ssp := ssp) (sen := sen) (stp := stp) hd
  unfold p_X4_nextDifferences
  rw [e, bdS4]
  split
  · exact d_J23 hd
  · exact d_J23 hd
theorem d_text {v1 : Nat} {v2 : Int32} {xc : Nat → Int32} {xt : Nat → Nat → Int32} {xn : Nat → Nat → Int64} {xl : Nat → Nat → Int32} {rc : Nat → Int32} {rb : Nat → Nat → Int32} {srow : Option Nat} {ssp sen str : Int32} (hd : str ≠ nI 0) : p_X4_nextText v1 v2 xc xt xn xl rc rb srow ssp sen str = some (xc, xt, xn, xl, ssp) := by
  unfold p_X4_nextText
  rw [if_neg hd]
theorem d_expect {v1 : Int32} {rb : Nat → Nat → Int32} {srow : Option Nat} {ssp sen str stp : Int32} (hd : str ≠ nI 0) : p_X4_expect v1 rb srow ssp sen str stp = some (ssp, str, stp) := by
  unfold p_X4_expect
  rw [d_next hd, bdS4, d_demand hd, d_demand hd, bdS2, ite_self]
theorem d_zig {rb : Nat → Nat → Int32} {srow : Option Nat} {ssp sen str stp rzp : Int32} (hd : str ≠ nI 0) : ∃ a, p_X1_nextZigField rb srow ssp sen str stp rzp = some (a, ssp, str, stp, ssp) := by
  obtain ⟨v, e⟩ := d_nextVar (rb := rb) (srow := srow) (ssp := ssp) (sen := sen) (stp := stp) hd
  unfold p_X1_nextZigField p_X5_unzigged
  rw [d_expect hd, bdS3, e, bdS4, bdS1]
  exact ⟨_, rfl⟩
theorem d_ones {n0 : Nat} {la : Nat → Nat → Int64} {str : Int32} (hd : str ≠ nI 0) (hn : n0 ≤ 200) : p_X1_countOnes (nI n0) la str = some (nI 0) := by
  have key : ∀ (m n k : Nat), n0 - k = m → k ≤ n0 → m < n → itr2 (p_X1_countOnes_L4 (nI n0) la str) n (nI 0) (nI k) = some (nI 0) := by
    intro m
    induction m with
    | zero =>
      intro n k h1 h2 h3
      cases n with
      | zero => omega
      | succ n =>
        show p_X1_countOnes_L4 (nI n0) la str _ (nI 0) (nI k) = _
        rw [p_X1_countOnes_L4, if_neg (by rw [ltI (by omega) (by omega)]; omega)]
    | succ m ih =>
      intro n k h1 h2 h3
      cases n with
      | zero => omega
      | succ n =>
        show p_X1_countOnes_L4 (nI n0) la str _ (nI 0) (nI k) = _
        rw [p_X1_countOnes_L4, if_pos (by rw [ltI (by omega) (by omega)]; omega), if_pos (by rw [ltI (by omega) (by omega)]; omega), d_sound hd, bdS1, if_pos rfl, addI, addI]
        exact ih n (k + 1) (by omega) (by omega) (by omega)
  exact key n0 fu 0 (by omega) (by omega) (by rw [fu_eq]; omega)
theorem d_push {v1 : Int32} {xk xc : Nat → Int32} {xt : Nat → Nat → Int32} {xn : Nat → Nat → Int64} {la : Nat → Nat → Int64} {str : Int32} (hd : str ≠ nI 0) : p_X1_pushNumbers v1 xk xc xt xn la str = some (xc, xt, xn) := by
  unfold p_X1_pushNumbers
  rw [fu_eq]
  show p_X1_pushNumbers_L2 v1 xk la str _ _ xc xt xn = _
  rw [p_X1_pushNumbers_L2, d_sound hd, bdS1, if_pos rfl, ite_self, ite_self]
theorem d_plain {v1 : Nat} {v2 : Int32} {xk xc : Nat → Int32} {xt : Nat → Nat → Int32} {xn : Nat → Nat → Int64} {xl : Nat → Nat → Int32} {rc : Nat → Int32} {rb : Nat → Nat → Int32} {la : Nat → Nat → Int64} {srow : Option Nat} {ssp sen str stp : Int32} (hd : str ≠ nI 0) : p_X1_readPlain v1 v2 xk xc xt xn xl rc rb la srow ssp sen str stp = some (xc, xt, xn, xl, la, ssp, str, stp) := by
  unfold p_X1_readPlain p_X5_wholeGroups
  rw [bdS1, d_packed hd, bdS4, d_push hd, bdS3, fu_eq]
  have e : itr8 (p_X1_readPlain_L37 v1 v2 xk rc rb la srow sen) 1048576 (nI 0) xc xt xn xl ssp str stp = some (xc, xt, xn, xl, la, ssp, str, stp) := by
    show p_X1_readPlain_L37 v1 v2 xk rc rb la srow sen _ _ xc xt xn xl ssp str stp = _
    rw [p_X1_readPlain_L37, d_sound hd, bdS1, if_pos rfl, ite_self]
  rw [e, ite_self]
theorem d_places {n0 : Nat} {xk xc : Nat → Int32} {xt : Nat → Nat → Int32} {xn : Nat → Nat → Int64} {xl : Nat → Nat → Int32} {rb : Nat → Nat → Int32} {la : Nat → Nat → Int64} {srow : Option Nat} {ssp sen str stp : Int32} (hd : str ≠ nI 0) (hn : n0 ≤ 200) : p_X1_readPlaces (nI n0) xk xc xt xn xl rb la srow ssp sen str stp = some (xc, xt, xn, xl, la, ssp, str, stp) := by
  have key : ∀ (kx : Int32 → Int32 → Option ((Nat → Int32) × (Nat → Nat → Int32) × (Nat → Nat → Int64) × (Nat → Nat → Int32) × (Nat → Nat → Int64) × Int32 × Int32 × Int32)) (m n k : Nat), n0 - k = m → k ≤ n0 → m < n → itr3 (p_X1_readPlaces_L62 (nI n0) ssp xc la kx) n (nI k) str stp = kx str stp := by
    intro kx m
    induction m with
    | zero =>
      intro n k h1 h2 h3
      cases n with
      | zero => omega
      | succ n =>
        show p_X1_readPlaces_L62 (nI n0) ssp xc la kx _ (nI k) str stp = _
        rw [p_X1_readPlaces_L62, if_neg (by rw [ltI (by omega) (by omega)]; omega)]
    | succ m ih =>
      intro n k h1 h2 h3
      cases n with
      | zero => omega
      | succ n =>
        show p_X1_readPlaces_L62 (nI n0) ssp xc la kx _ (nI k) str stp = _
        rw [p_X1_readPlaces_L62, if_pos (by rw [ltI (by omega) (by omega)]; omega), if_pos (by rw [ltI (by omega) (by omega)]; omega), inbI (by omega), gdD (by omega), d_demand hd, d_demand hd, bdS2, ite_self, addI]
        exact ih n (k + 1) (by omega) (by omega) (by omega)
  have e31 : ∀ a b, p_X1_readPlaces_J31 (nI n0) ssp a b xk xc xt xn xl rb la srow ssp sen str stp = some (xc, xt, xn, xl, la, ssp, str, stp) := by
    intro a b
    rw [p_X1_readPlaces_J31, d_demand hd, bdS2, d_runs hd, bdS4]
    refine (key _ n0 fu 0 (by omega) (by omega) (by rw [fu_eq]; omega)).trans ?_
    rw [fu_eq]
    show p_X1_readPlaces_L122 (nI n0) xk la ssp str stp _ _ xc xt xn xl = _
    rw [p_X1_readPlaces_L122, d_sound hd, bdS1, if_pos rfl, ite_self, ite_self]
  unfold p_X1_readPlaces
  rw [d_next hd, bdS4, e31, e31, ite_self]
theorem d_own {v1 : Nat} {v2 : Int32} {rb : Nat → Nat → Int32} {la : Nat → Nat → Int64} {srow : Option Nat} {ssp sen str stp : Int32} (hd : str ≠ nI 0) : p_X1_readOwnRuns v1 v2 rb la srow ssp sen str stp = some (la, ssp, sen, str, stp) := by
  have e45 : ∀ a b c, p_X1_readOwnRuns_J45 v1 v2 a b c rb la srow ssp sen str stp = some (la, ssp, sen, str, stp) := by
    intro a b c
    rw [p_X1_readOwnRuns_J45, d_demand hd, bdS2, d_sound hd, bdS1, if_pos rfl]
  obtain ⟨v, e⟩ := d_little (rb := rb) (srow := srow) (ssp := ssp) (sen := sen) (stp := stp) (N := 4) hd (by omega)
  unfold p_X1_readOwnRuns p_X4_left
  rw [e, bdS4, bdS1]
  simp only [p_X1_readOwnRuns_J44, e45, ite_self]
theorem d_lengths {n0 : Nat} {xc : Nat → Int32} {xt : Nat → Nat → Int32} {xn : Nat → Nat → Int64} {xl : Nat → Nat → Int32} {rc : Nat → Int32} {rb : Nat → Nat → Int32} {la : Nat → Nat → Int64} {srow : Option Nat} {ssp sen str stp : Int32} {swd : Nat → Int32} (hd : str ≠ nI 0) (hn : n0 ≤ 200) : ∃ la', p_X1_readLengths (nI n0) xc xt xn xl rc rb la srow ssp sen str stp swd = some (xc, xt, xn, xl, la', ssp, str, stp, swd) := by
  obtain ⟨la1, e1⟩ := d_diffs (v1 := 2) (v2 := nI n0) (v3 := nI 1) (rb := rb) (la := la) (srow := srow) (ssp := ssp) (sen := sen) (stp := stp) (swd := swd) hd
  have e133 : itr6 (p_X1_readLengths_L133 (nI n0) rc rb la1 srow sen str stp swd) fu (nI 0) xc xt xn xl ssp = some (xc, xt, xn, xl, la1, ssp, str, stp, swd) := by
    rw [fu_eq]
    show p_X1_readLengths_L133 (nI n0) rc rb la1 srow sen str stp swd _ _ xc xt xn xl ssp = _
    rw [p_X1_readLengths_L133, d_sound hd, bdS1, if_pos rfl, ite_self, ite_self]
  have e91 : ∀ a b, p_X1_readLengths_J91 (nI n0) a b xc xt xn xl rc rb la1 srow ssp sen str stp swd = some (xc, xt, xn, xl, la1, ssp, str, stp, swd) := by
    intro a b
    rw [p_X1_readLengths_J91]
    unfold p_X4_left
    rw [d_demand hd, d_demand hd, bdS2, bdS1, e133, ite_self, ite_self]
  have key : ∀ (m n k : Nat) (a : Int64) (b : Int32), n0 - k = m → k ≤ n0 → m < n → itr3 (p_X1_readLengths_L21 (nI n0) la1 (fun v2_10 v4_11 => p_X1_readLengths_J91 (nI n0) v2_10 v4_11 xc xt xn xl rc rb la1 srow ssp sen str stp swd)) n a b (nI k) = some (xc, xt, xn, xl, la1, ssp, str, stp, swd) := by
    intro m
    induction m with
    | zero =>
      intro n k a b h1 h2 h3
      cases n with
      | zero => omega
      | succ n =>
        show p_X1_readLengths_L21 (nI n0) la1 (fun v2_10 v4_11 => p_X1_readLengths_J91 (nI n0) v2_10 v4_11 xc xt xn xl rc rb la1 srow ssp sen str stp swd) _ a b (nI k) = _
        rw [p_X1_readLengths_L21, if_neg (by rw [ltI (by omega) (by omega)]; omega)]
        exact e91 a b
    | succ m ih =>
      intro n k a b h1 h2 h3
      cases n with
      | zero => omega
      | succ n =>
        show p_X1_readLengths_L21 (nI n0) la1 (fun v2_10 v4_11 => p_X1_readLengths_J91 (nI n0) v2_10 v4_11 xc xt xn xl rc rb la1 srow ssp sen str stp swd) _ a b (nI k) = _
        have hi := fun a b => ih n (k + 1) a b (by omega) (by omega) (by omega)
        rw [p_X1_readLengths_L21, if_pos (by rw [ltI (by omega) (by omega)]; omega), if_pos (by rw [ltI (by omega) (by omega)]; omega), p_X1_readLengths_J72, p_X1_readLengths_J73, p_X1_readLengths_J73, inbI (by omega), gdD (by omega), gdD (by omega), gdD (by omega), gdD (by omega), addI]
        split
        · exact hi _ _
        · split
          · exact hi _ _
          · split
            · exact hi _ _
            · exact hi _ _
  unfold p_X1_readLengths
  rw [show (2 : Nat) = 2 from rfl, e1, bdS5]
  exact ⟨la1, key n0 fu 0 _ _ (by omega) (by omega) (by rw [fu_eq]; omega)⟩
end
section
/-! both readers while no fault is there -/
def Src (rb : Nat → Nat → Int32) (mf : Nat → Int32) (e : Nat) : Prop := e ≤ 12000 ∧ ∀ k, k < e → rb 1 k = mf k
def Oc {α : Type} (p e : Nat) (x m : Option (α × Int32 × Int32 × Int32)) : Prop :=
  (∃ v p', p ≤ p' ∧ p' ≤ e ∧ x = some (v, nI p', nI 0, nI 0) ∧ m = some (v, nI p', nI 0, nI 0)) ∨ (∃ vx sx vm sm d q, d ≠ nI 0 ∧ x = some (vx, sx, d, q) ∧ m = some (vm, sm, d, q))
theorem b255 (x : Int32) : ∃ m, m < 256 ∧ x &&& nI 255 = nI m := by
  refine ⟨(x &&& nI 255).toNatClampNeg, ?_, ?_⟩
  · have : ∀ y : BitVec 32, (y &&& 255#32).toInt.toNat < 256 := by
      intro y
      have h : (y &&& 255#32).toNat ≤ 255 := by
        rw [BitVec.toNat_and]
        exact Nat.and_le_right
      have h2 : (y &&& 255#32).toInt = (y &&& 255#32).toNat := BitVec.toInt_eq_toNat_of_lt (by omega)
      rw [h2]
      omega
    exact this x.toBitVec
  · apply Int32.toBitVec_inj.mp
    have h : (x.toBitVec &&& 255#32).toNat ≤ 255 := by
      rw [BitVec.toNat_and]
      exact Nat.and_le_right
    have h2 : (x.toBitVec &&& 255#32).toInt = (x.toBitVec &&& 255#32).toNat := BitVec.toInt_eq_toNat_of_lt (by omega)
    show x.toBitVec &&& 255#32 = BitVec.ofNat 32 ((x.toBitVec &&& 255#32).toInt.toNat)
    rw [h2]
    apply BitVec.eq_of_toNat_eq
    rw [BitVec.toNat_ofNat, Nat.mod_eq_of_lt (by omega)]
    rfl
theorem L_next {rb : Nat → Nat → Int32} {mf : Nat → Int32} {p e : Nat} (hs : Src rb mf e) (hp : p ≤ e) : (∃ b, b < 256 ∧ p < e ∧ p_X4_next rb (some 1) (nI p) (nI e) (nI 0) (nI 0) = some (nI b, nI (p + 1), nI 0, nI 0) ∧ p_X6_next mf (nI p) (nI e) (nI 0) (nI 0) = some (nI b, nI (p + 1), nI 0, nI 0)) ∨ (p = e ∧ p_X4_next rb (some 1) (nI p) (nI e) (nI 0) (nI 0) = some (nI 0, nI p, nI 1, nI p) ∧ p_X6_next mf (nI p) (nI e) (nI 0) (nI 0) = some (nI 0, nI p, nI 1, nI p)) := by
  obtain ⟨he, hs⟩ := hs
  unfold p_X4_next p_X6_next
  have r1 : rlen 1 = 12000 := rfl
  rw [if_pos rfl, moS, gdD (by omega), if_neg (by rw [ltI (by omega) (by omega)]; omega), r1]
  by_cases h : p < e
  · left
    obtain ⟨b, hb, e1⟩ := b255 (mf p)
    refine ⟨b, hb, h, ?_, ?_⟩
    · rw [if_pos (by rw [ltI (by omega) (by omega)]; exact h), if_pos (by rw [ltI (by omega) (by omega)]; omega), inbI (by omega), gdD (by omega), ixI (by omega), hs p h, e1, addI]
    · rw [if_pos (by rw [ltI (by omega) (by omega)]; exact h), addI, subI (by omega), Nat.add_sub_cancel, inbI (by omega), gdD (by omega), ixI (by omega), e1]
  · right
    have : p = e := by omega
    subst this
    refine ⟨rfl, ?_, ?_⟩
    · rw [if_neg (by rw [ltI (by omega) (by omega)]; exact h)]
      rfl
    · rw [if_neg (by rw [ltI (by omega) (by omega)]; exact h)]
      rfl
theorem demT {c q str stp : Int32} : p_X4_demand (nI 1) c q str stp = some (str, stp) := by
  unfold p_X4_demand
  rw [if_neg (show ¬ nI 1 = nI 0 by decide), ite_self]
theorem demF {c q stp : Int32} : p_X4_demand (nI 0) c q (nI 0) stp = some (c, q) := by
  unfold p_X4_demand
  rw [if_pos rfl, if_pos rfl]
theorem L_var_L {rb : Nat → Nat → Int32} {mf : Nat → Int32} {e : Nat} (hs : Src rb mf e) : ∀ (m n k p : Nat) (v : Int64), 9 - k = m → k ≤ 9 → m + 1 < n → p ≤ e → Oc (p + 1) e (itr5 (p_X4_nextVar_L4 rb (some 1) (nI e)) n v (nI k) (nI p) (nI 0) (nI 0)) (itr5 (p_X6_readVar_L4 mf (nI e)) n v (nI k) (nI p) (nI 0) (nI 0)) := by
  have he := hs.1
  intro m
  induction m with
  | zero =>
    intro n k p v h1 h2 h3 hp
    have : k = 9 := by omega
    subst this
    cases n with
    | zero => omega
    | succ n =>
      show Oc (p + 1) e (p_X4_nextVar_L4 rb (some 1) (nI e) _ v (nI 9) (nI p) (nI 0) (nI 0)) (p_X6_readVar_L4 mf (nI e) _ v (nI 9) (nI p) (nI 0) (nI 0))
      rw [p_X4_nextVar_L4, p_X6_readVar_L4, if_pos (show nI 9 < nI 10 by decide), if_pos (show nI 9 < nI 10 by decide)]
      rcases L_next hs hp with ⟨b, hb, hlt, e1, e2⟩ | ⟨rfl, e1, e2⟩
      · rw [e1, e2, bdS4, bdS4, if_pos (show nI 9 = nI 9 from rfl), if_pos (show nI 0 = nI 0 from rfl), if_pos (show nI 9 = nI 9 from rfl)]
        by_cases h : 1 < b
        · rw [if_pos (show nI 1 < nI b by rw [ltI (by omega) (by omega)]; exact h), if_pos (show nI 1 < nI b by rw [ltI (by omega) (by omega)]; exact h), p_X4_nextVar_J48, demF, bdS2, p_X4_nextVar_J58, subI (by omega), Nat.add_sub_cancel]
          right
          cases n with
          | zero => omega
          | succ n =>
            by_cases h128 : b < 128
            · rw [if_pos (by rw [ltI (by omega) (by omega)]; exact h128)]
              exact ⟨_, _, _, _, nI 2, nI p, by decide, rfl, rfl⟩
            · rw [if_neg (by rw [ltI (by omega) (by omega)]; exact h128)]
              refine ⟨v ||| lshl (i2l (nI b &&& nI 127)) (nI 7 * nI 9), nI (p + 1), _, _, nI 2, nI p, by decide, ?_, rfl⟩
              show p_X4_nextVar_L4 rb (some 1) (nI e) _ _ (nI 10) _ _ _ = _
              rw [p_X4_nextVar_L4, if_neg (by decide)]
        · rw [if_neg (show ¬ nI 1 < nI b by rw [ltI (by omega) (by omega)]; exact h), if_neg (show ¬ nI 1 < nI b by rw [ltI (by omega) (by omega)]; exact h), p_X4_nextVar_J48, demT, bdS2, p_X4_nextVar_J58, p_X6_readVar_J54, if_pos (show nI b < nI 128 by rw [ltI (by omega) (by omega)]; omega), if_pos (show nI b < nI 128 by rw [ltI (by omega) (by omega)]; omega)]
          exact Or.inl ⟨_, p + 1, by omega, by omega, rfl, rfl⟩
      · rw [e1, e2, bdS4, bdS4, if_pos (show nI 9 = nI 9 from rfl), if_neg (show ¬ nI 1 = nI 0 by decide), if_neg (show ¬ nI 1 < nI 0 by decide), p_X4_nextVar_J48, demT, bdS2, p_X4_nextVar_J58, if_pos (show nI 0 < nI 128 by decide)]
        exact Or.inr ⟨_, _, _, _, nI 1, nI p, by decide, rfl, rfl⟩
  | succ m ih =>
    intro n k p v h1 h2 h3 hp
    cases n with
    | zero => omega
    | succ n =>
      show Oc (p + 1) e (p_X4_nextVar_L4 rb (some 1) (nI e) _ v (nI k) (nI p) (nI 0) (nI 0)) (p_X6_readVar_L4 mf (nI e) _ v (nI k) (nI p) (nI 0) (nI 0))
      rw [p_X4_nextVar_L4, p_X6_readVar_L4, if_pos (show nI k < nI 10 by rw [ltI (by omega) (by omega)]; omega), if_pos (show nI k < nI 10 by rw [ltI (by omega) (by omega)]; omega)]
      rcases L_next hs hp with ⟨b, hb, hlt, e1, e2⟩ | ⟨rfl, e1, e2⟩
      · rw [e1, e2, bdS4, bdS4, if_neg (show ¬ nI k = nI 9 by rw [eqI (by omega) (by omega)]; omega), if_pos (show nI 0 = nI 0 from rfl), if_neg (show ¬ nI k = nI 9 by rw [eqI (by omega) (by omega)]; omega), p_X4_nextVar_J58, p_X6_readVar_J54]
        by_cases h128 : b < 128
        · rw [if_pos (show nI b < nI 128 by rw [ltI (by omega) (by omega)]; exact h128), if_pos (show nI b < nI 128 by rw [ltI (by omega) (by omega)]; exact h128)]
          exact Or.inl ⟨_, p + 1, by omega, by omega, rfl, rfl⟩
        · rw [if_neg (show ¬ nI b < nI 128 by rw [ltI (by omega) (by omega)]; exact h128), if_neg (show ¬ nI b < nI 128 by rw [ltI (by omega) (by omega)]; exact h128), addI]
          rcases ih n (k + 1) (p + 1) (v ||| lshl (i2l (nI b &&& nI 127)) (nI 7 * nI k)) (by omega) (by omega) (by omega) (by omega) with ⟨v', p', q1, q2, q3, q4⟩ | hd
          · exact Or.inl ⟨v', p', by omega, q2, q3, q4⟩
          · exact Or.inr hd
      · rw [e1, e2, bdS4, bdS4, if_neg (show ¬ nI k = nI 9 by rw [eqI (by omega) (by omega)]; omega), if_neg (show ¬ nI 1 = nI 0 by decide), p_X4_nextVar_J58, if_pos (show nI 0 < nI 128 by decide)]
        exact Or.inr ⟨_, _, _, _, nI 1, nI p, by decide, rfl, rfl⟩
theorem L_var {rb : Nat → Nat → Int32} {mf : Nat → Int32} {p e : Nat} (hs : Src rb mf e) (hp : p ≤ e) : Oc (p + 1) e (p_X4_nextVar rb (some 1) (nI p) (nI e) (nI 0) (nI 0)) (p_X6_readVar mf (nI p) (nI e) (nI 0) (nI 0)) :=
  L_var_L hs 9 fu 0 p (lN 0) (by omega) (by omega) (by rw [fu_eq]; omega) hp
def unz (v : Int64) : Int64 := lushr v (nI 1) ^^^ -(v &&& lN 1)
theorem X_unz (v : Int64) : p_X5_unzigged v = some (unz v) := rfl
theorem L_zig {rb : Nat → Nat → Int32} {mf : Nat → Int32} {p e : Nat} (hs : Src rb mf e) (hp : p ≤ e) : (∃ v p', p + 1 ≤ p' ∧ p' ≤ e ∧ p_X4_nextVar rb (some 1) (nI p) (nI e) (nI 0) (nI 0) = some (v, nI p', nI 0, nI 0) ∧ p_X6_readZig mf (nI p) (nI e) (nI 0) (nI 0) = some (unz v, nI p', nI 0, nI 0)) ∨ (∃ vx sx vm sm d q, d ≠ nI 0 ∧ p_X4_nextVar rb (some 1) (nI p) (nI e) (nI 0) (nI 0) = some (vx, sx, d, q) ∧ p_X6_readZig mf (nI p) (nI e) (nI 0) (nI 0) = some (vm, sm, d, q)) := by
  unfold p_X6_readZig
  rcases L_var hs hp with ⟨v, p', q1, q2, q3, q4⟩ | ⟨vx, sx, vm, sm, d, q, h1, h2, h3⟩
  · left
    refine ⟨v, p', q1, q2, q3, ?_⟩
    rw [q4, bdS4]
    unfold unz
    rw [← Int64.zero_sub]
    rfl
  · right
    exact ⟨vx, sx, _, sm, d, q, h1, h2, by rw [h3, bdS4]⟩
theorem L_little_L {rb : Nat → Nat → Int32} {mf : Nat → Int32} {e N : Nat} (hs : Src rb mf e) (hN : N ≤ 8) : ∀ (m n k p : Nat) (v : Int64), N - k = m → k ≤ N → m + 1 < n → p ≤ e → Oc p e (itr5 (p_X4_nextLittle_L5 (nI N) rb (some 1) (nI e)) n v (nI k) (nI p) (nI 0) (nI 0)) (itr5 (p_X6_readBytes_L5 (nI N) mf (nI e)) n v (nI k) (nI p) (nI 0) (nI 0)) := by
  have he := hs.1
  intro m
  induction m with
  | zero =>
    intro n k p v h1 h2 h3 hp
    cases n with
    | zero => omega
    | succ n =>
      show Oc p e (p_X4_nextLittle_L5 (nI N) rb (some 1) (nI e) _ v (nI k) (nI p) (nI 0) (nI 0)) (p_X6_readBytes_L5 (nI N) mf (nI e) _ v (nI k) (nI p) (nI 0) (nI 0))
      rw [p_X4_nextLittle_L5, p_X6_readBytes_L5, if_neg (show ¬ nI k < nI N by rw [ltI (by omega) (by omega)]; omega), if_neg (show ¬ nI k < nI N by rw [ltI (by omega) (by omega)]; omega)]
      exact Or.inl ⟨v, p, by omega, hp, rfl, rfl⟩
  | succ m ih =>
    intro n k p v h1 h2 h3 hp
    cases n with
    | zero => omega
    | succ n =>
      show Oc p e (p_X4_nextLittle_L5 (nI N) rb (some 1) (nI e) _ v (nI k) (nI p) (nI 0) (nI 0)) (p_X6_readBytes_L5 (nI N) mf (nI e) _ v (nI k) (nI p) (nI 0) (nI 0))
      rw [p_X4_nextLittle_L5, p_X6_readBytes_L5, if_pos (show nI k < nI N by rw [ltI (by omega) (by omega)]; omega), if_pos (show nI k < nI N by rw [ltI (by omega) (by omega)]; omega), if_pos (show nI 0 = nI 0 from rfl)]
      rcases L_next hs hp with ⟨b, hb, hlt, e1, e2⟩ | ⟨rfl, e1, e2⟩
      · rw [e1, e2, bdS4, bdS4, addI]
        rcases ih n (k + 1) (p + 1) (v ||| lshl (i2l (nI b)) (nI 8 * nI k)) (by omega) (by omega) (by omega) (by omega) with ⟨v', p', q1, q2, q3, q4⟩ | hd
        · exact Or.inl ⟨v', p', by omega, q2, q3, q4⟩
        · exact Or.inr hd
      · rw [e1, e2, bdS4, bdS4, addI]
        obtain ⟨v', e3⟩ := d_little_L (rb := rb) (srow := some 1) (ssp := nI p) (sen := nI p) (str := nI 1) (stp := nI p) (N := N) (by decide) (by omega) (N - (k + 1)) n (k + 1) (v ||| lshl (i2l (nI 0)) (nI 8 * nI k)) rfl (by omega) (by omega)
        right
        cases n with
        | zero => omega
        | succ n =>
          refine ⟨v', nI p, v ||| lshl (i2l (nI 0)) (nI 8 * nI k), nI p, nI 1, nI p, by decide, e3, ?_⟩
          show p_X6_readBytes_L5 (nI N) mf (nI p) _ _ (nI (k + 1)) (nI p) (nI 1) (nI p) = _
          rw [p_X6_readBytes_L5, if_neg (show ¬ nI 1 = nI 0 by decide), ite_self]
theorem L_little {rb : Nat → Nat → Int32} {mf : Nat → Int32} {p e N : Nat} (hs : Src rb mf e) (hp : p ≤ e) (hN : N ≤ 8) : Oc p e (p_X4_nextLittle (nI N) rb (some 1) (nI p) (nI e) (nI 0) (nI 0)) (p_X6_readBytes (nI N) mf (nI p) (nI e) (nI 0) (nI 0)) :=
  L_little_L hs hN N fu 0 p (lN 0) (by omega) (by omega) (by rw [fu_eq]; omega) hp
theorem L_expect {c : Int32} {rb : Nat → Nat → Int32} {mf : Nat → Int32} {p e : Nat} (hs : Src rb mf e) (hp : p ≤ e) : (p < e ∧ p_X4_expect c rb (some 1) (nI p) (nI e) (nI 0) (nI 0) = some (nI (p + 1), nI 0, nI 0) ∧ p_X6_field c mf (nI p) (nI e) (nI 0) (nI 0) = some (nI 1, nI (p + 1), nI 0, nI 0)) ∨ (∃ sx sm d q, d ≠ nI 0 ∧ p_X4_expect c rb (some 1) (nI p) (nI e) (nI 0) (nI 0) = some (sx, d, q) ∧ p_X6_field c mf (nI p) (nI e) (nI 0) (nI 0) = some (nI 0, sm, d, q)) := by
  unfold p_X4_expect p_X6_field
  rcases L_next hs hp with ⟨b, hb, hlt, e1, e2⟩ | ⟨rfl, e1, e2⟩
  · rw [e1, e2, bdS4, bdS4, if_pos (show nI 0 = nI 0 from rfl), demT, demF, bdS2, bdS2]
    by_cases h : nI b = c
    · rw [if_pos h, if_pos h]
      exact Or.inl ⟨hlt, rfl, rfl⟩
    · rw [if_neg h, if_neg h]
      exact Or.inr ⟨_, nI (p + 1), nI 7, nI p, by decide, rfl, rfl⟩
  · rw [e1, e2, bdS4, bdS4, if_neg (show ¬ nI 1 = nI 0 by decide), demT, bdS2, d_demand (by decide), bdS2, ite_self]
    exact Or.inr ⟨_, _, nI 1, nI p, by decide, rfl, rfl⟩
/-- a field with a zigzag number: 21, then the number -/
theorem L_zf {rb : Nat → Nat → Int32} {mf : Nat → Int32} {p e : Nat} {rzp mz : Int32} (hs : Src rb mf e) (hp : p ≤ e) :
    (∃ a p', p + 2 ≤ p' ∧ p' ≤ e ∧ p_X1_nextZigField rb (some 1) (nI p) (nI e) (nI 0) (nI 0) rzp = some (a, nI p', nI 0, nI 0, nI (p + 1)) ∧ p_X6_field (nI 21) mf (nI p) (nI e) (nI 0) (nI 0) = some (nI 1, nI (p + 1), nI 0, nI 0) ∧ p_X6_fieldZig mf (nI (p + 1)) (nI e) (nI 0) (nI 0) mz = some (a, nI p', nI 0, nI 0, nI (p + 1))) ∨
    (∃ a sx z sm d q, d ≠ nI 0 ∧ p_X1_nextZigField rb (some 1) (nI p) (nI e) (nI 0) (nI 0) rzp = some (a, sx, d, q, z) ∧ p_X6_field (nI 21) mf (nI p) (nI e) (nI 0) (nI 0) = some (nI 0, sm, d, q)) ∨
    (∃ a sx z am sm zm d q, d ≠ nI 0 ∧ p_X1_nextZigField rb (some 1) (nI p) (nI e) (nI 0) (nI 0) rzp = some (a, sx, d, q, z) ∧ p_X6_field (nI 21) mf (nI p) (nI e) (nI 0) (nI 0) = some (nI 1, nI (p + 1), nI 0, nI 0) ∧ p_X6_fieldZig mf (nI (p + 1)) (nI e) (nI 0) (nI 0) mz = some (am, sm, d, q, zm)) := by
  unfold p_X1_nextZigField p_X6_fieldZig
  rcases L_expect (c := nI 21) hs hp with ⟨hlt, e1, e2⟩ | ⟨sx, sm, d, q, hd, e1, e2⟩
  · rcases L_zig hs (show p + 1 ≤ e by omega) with ⟨v, p', q1, q2, q3, q4⟩ | ⟨vx, sx, vm, sm, d, q, h1, h2, h3⟩
    · left
      refine ⟨unz v, p', by omega, q2, ?_, e2, by rw [q4, bdS4]⟩
      rw [e1, bdS3, q3, bdS4, X_unz, bdS1]
    · right; right
      refine ⟨unz vx, sx, nI (p + 1), vm, sm, nI (p + 1), d, q, h1, ?_, e2, by rw [h3, bdS4]⟩
      rw [e1, bdS3, h2, bdS4, X_unz, bdS1]
  · right; left
    obtain ⟨v, e3⟩ := d_nextVar (rb := rb) (srow := some 1) (ssp := sx) (sen := nI e) (stp := q) hd
    exact ⟨unz v, sx, sx, sm, d, q, hd, by rw [e1, bdS3, e3, bdS4, X_unz, bdS1], e2⟩
end
section
/-! packed numbers -/
theorem ishr_nI : ∀ b, b < 256 → ∀ k, k < 9 → ishr (nI b) (nI k) = nI (b >>> k) := by decide +kernel
theorem ishr_1 : ∀ b, b < 256 → ishr (nI b) (nI 1) = nI (b >>> 1) := fun b hb => ishr_nI b hb 1 (by omega)
def PB (c : Nat) (v6 mby : Int32) : Prop := c ≤ 8 ∧ (c ≠ 0 → ∃ b, b < 256 ∧ mby = nI b ∧ v6 = nI (b >>> (8 - c)))
theorem shr_lt {b k : Nat} (h : b < 256) : b >>> k < 256 := by
  rw [Nat.shiftRight_eq_div_pow]
  exact Nat.lt_of_le_of_lt (Nat.div_le_self _ _) h
abbrev NP : Type := (Nat → Nat → Int64) × Int32 × Int32 × Int32
theorem d_L31 {w : Nat} {rb : Nat → Nat → Int32} {srow : Option Nat} {ssp sen str stp : Int32} {kx : Int32 → Int32 → Int64 → Int32 → Int32 → Int32 → Option NP} (hd : str ≠ nI 0) (hw : w < 2 ^ 30) : ∀ (m n k : Nat) (v6 v7 : Int32) (v9 : Int64), w - k = m → k ≤ w → m < n → ∃ a b c, itr7 (p_X4_nextPacked_L31 (nI w) rb srow sen kx) n v6 v7 v9 (nI k) ssp str stp = kx a b c ssp str stp := by
  intro m
  induction m with
  | zero =>
    intro n k v6 v7 v9 h1 h2 h3
    cases n with
    | zero => omega
    | succ n =>
      refine ⟨v6, v7, v9, ?_⟩
      show p_X4_nextPacked_L31 (nI w) rb srow sen kx _ v6 v7 v9 (nI k) ssp str stp = _
      rw [p_X4_nextPacked_L31, if_neg (by rw [ltI (by omega) (by omega)]; omega)]
  | succ m ih =>
    intro n k v6 v7 v9 h1 h2 h3
    cases n with
    | zero => omega
    | succ n =>
      show ∃ a b c, p_X4_nextPacked_L31 (nI w) rb srow sen kx _ v6 v7 v9 (nI k) ssp str stp = _
      rw [p_X4_nextPacked_L31, if_pos (by rw [ltI (by omega) (by omega)]; omega), d_next hd, bdS4, p_X4_nextPacked_J53, p_X4_nextPacked_J53, addI]
      split
      · exact ih n (k + 1) _ _ _ (by omega) (by omega) (by omega)
      · exact ih n (k + 1) _ _ _ (by omega) (by omega) (by omega)
abbrev MP : Type := Int64 × Int32 × Int32 × Int32 × Int32 × Int32
theorem L_bits {w : Nat} {rb : Nat → Nat → Int32} {mf : Nat → Int32} {e : Nat} {kx : Int32 → Int32 → Int64 → Int32 → Int32 → Int32 → Option NP} (hs : Src rb mf e) (hw : w ≤ 64) : ∀ (m n k p c : Nat) (v6 mby : Int32) (v : Int64), w - k = m → k ≤ w → m + 1 < n → p ≤ e → PB c v6 mby →
    (∃ v' c' p' v6' mby', p ≤ p' ∧ p' ≤ e ∧ PB c' v6' mby' ∧ itr7 (p_X4_nextPacked_L31 (nI w) rb (some 1) (nI e) kx) n v6 (nI c) v (nI k) (nI p) (nI 0) (nI 0) = kx v6' (nI c') v' (nI p') (nI 0) (nI 0) ∧ itr7 (p_X6_readPacked_L5 (nI w) mf (nI e)) n v (nI k) (nI p) (nI 0) (nI 0) (nI c) mby = some (v', nI p', nI 0, nI 0, nI c', mby')) ∨
    (∃ a b x sx vm sm d q cm bm, d ≠ nI 0 ∧ itr7 (p_X4_nextPacked_L31 (nI w) rb (some 1) (nI e) kx) n v6 (nI c) v (nI k) (nI p) (nI 0) (nI 0) = kx a b x sx d q ∧ itr7 (p_X6_readPacked_L5 (nI w) mf (nI e)) n v (nI k) (nI p) (nI 0) (nI 0) (nI c) mby = some (vm, sm, d, q, cm, bm)) := by
  have he := hs.1
  intro m
  induction m with
  | zero =>
    intro n k p c v6 mby v h1 h2 h3 hp hc
    cases n with
    | zero => omega
    | succ n =>
      left
      refine ⟨v, c, p, v6, mby, by omega, hp, hc, ?_, ?_⟩
      · show p_X4_nextPacked_L31 (nI w) rb (some 1) (nI e) kx _ v6 (nI c) v (nI k) (nI p) (nI 0) (nI 0) = _
        rw [p_X4_nextPacked_L31, if_neg (by rw [ltI (by omega) (by omega)]; omega)]
      · show p_X6_readPacked_L5 (nI w) mf (nI e) _ v (nI k) (nI p) (nI 0) (nI 0) (nI c) mby = _
        rw [p_X6_readPacked_L5, if_neg (by rw [ltI (by omega) (by omega)]; omega)]
  | succ m ih =>
    intro n k p c v6 mby v h1 h2 h3 hp hc
    cases n with
    | zero => omega
    | succ n =>
      have hc8 := hc.1
      -- a bit out of a byte with c + 1 bits left
      have step : ∀ (b c1 p1 : Nat), b < 256 → c1 < 8 → p1 ≤ e → p ≤ p1 →
          (∃ v' c' p' v6' mby', p ≤ p' ∧ p' ≤ e ∧ PB c' v6' mby' ∧ p_X4_nextPacked_J53 (nI (b >>> (8 - (c1 + 1)))) (nI (c1 + 1)) v (nI k) (nI p1) (nI 0) (nI 0) (fun a b c d f g h => itr7 (p_X4_nextPacked_L31 (nI w) rb (some 1) (nI e) kx) n a b c d f g h) = kx v6' (nI c') v' (nI p') (nI 0) (nI 0) ∧ p_X6_readPacked_J39 v (nI k) (nI p1) (nI 0) (nI 0) (nI (c1 + 1)) (nI b) (fun a b c d f g h => itr7 (p_X6_readPacked_L5 (nI w) mf (nI e)) n a b c d f g h) = some (v', nI p', nI 0, nI 0, nI c', mby')) ∨
          (∃ a b2 x sx vm sm d q cm bm, d ≠ nI 0 ∧ p_X4_nextPacked_J53 (nI (b >>> (8 - (c1 + 1)))) (nI (c1 + 1)) v (nI k) (nI p1) (nI 0) (nI 0) (fun a b c d f g h => itr7 (p_X4_nextPacked_L31 (nI w) rb (some 1) (nI e) kx) n a b c d f g h) = kx a b2 x sx d q ∧ p_X6_readPacked_J39 v (nI k) (nI p1) (nI 0) (nI 0) (nI (c1 + 1)) (nI b) (fun a b c d f g h => itr7 (p_X6_readPacked_L5 (nI w) mf (nI e)) n a b c d f g h) = some (vm, sm, d, q, cm, bm)) := by
        intro b c1 p1 hb hc1 hp1 hpp
        rw [p_X4_nextPacked_J53, p_X6_readPacked_J39, addI, subI (show c1 + 1 ≤ 8 by omega), ishr_nI b hb (8 - (c1 + 1)) (by omega), subI (show 1 ≤ c1 + 1 by omega), Nat.add_sub_cancel, ishr_1 _ (shr_lt hb), dn_d]
        have e3 : dn (c1 + 1) = nI c1 := dn_s c1
        rw [e3]
        have hpb : PB c1 (nI ((b >>> (8 - (c1 + 1))) >>> 1)) (nI b) := ⟨by omega, fun _ => ⟨b, hb, rfl, by rw [← Nat.shiftRight_add]; congr 2; omega⟩⟩
        rcases ih n (k + 1) p1 c1 (nI ((b >>> (8 - (c1 + 1))) >>> 1)) (nI b) (v ||| lshl (i2l (nI (b >>> (8 - (c1 + 1))) &&& nI 1)) (nI k)) (by omega) (by omega) (by omega) hp1 hpb with ⟨v', c', p', v6', mby', q1, q2, q3, q4, q5⟩ | hdd
        · exact Or.inl ⟨v', c', p', v6', mby', by omega, q2, q3, q4, q5⟩
        · exact Or.inr hdd
      have hX : itr7 (p_X4_nextPacked_L31 (nI w) rb (some 1) (nI e) kx) (n + 1) v6 (nI c) v (nI k) (nI p) (nI 0) (nI 0) = p_X4_nextPacked_L31 (nI w) rb (some 1) (nI e) kx (fun a b c d f g h => itr7 (p_X4_nextPacked_L31 (nI w) rb (some 1) (nI e) kx) n a b c d f g h) v6 (nI c) v (nI k) (nI p) (nI 0) (nI 0) := rfl
      have hM : itr7 (p_X6_readPacked_L5 (nI w) mf (nI e)) (n + 1) v (nI k) (nI p) (nI 0) (nI 0) (nI c) mby = p_X6_readPacked_L5 (nI w) mf (nI e) (fun a b c d f g h => itr7 (p_X6_readPacked_L5 (nI w) mf (nI e)) n a b c d f g h) v (nI k) (nI p) (nI 0) (nI 0) (nI c) mby := rfl
      rw [hX, hM, p_X4_nextPacked_L31, p_X6_readPacked_L5, if_pos (show nI k < nI w by rw [ltI (by omega) (by omega)]; omega), if_pos (show nI k < nI w by rw [ltI (by omega) (by omega)]; omega), if_pos (show nI 0 = nI 0 from rfl)]
      by_cases c0 : c = 0
      · subst c0
        rw [if_pos (show nI 0 = nI 0 from rfl), if_pos (show nI 0 = nI 0 from rfl)]
        rcases L_next hs hp with ⟨b, hb, hlt, e1, e2⟩ | ⟨rfl, e1, e2⟩
        · rw [e1, e2, bdS4, bdS4]
          exact step b 7 (p + 1) hb (by omega) (by omega) (by omega)
        · rw [e1, e2, bdS4, bdS4]
          right
          rw [p_X4_nextPacked_J53, p_X6_readPacked_J39, addI]
          obtain ⟨a, b2, x, e5⟩ := d_L31 (rb := rb) (srow := some 1) (ssp := nI p) (sen := nI p) (str := nI 1) (stp := nI p) (kx := kx) (by decide) (show w < 2 ^ 30 by omega) (w - (k + 1)) n (k + 1) (ishr (nI 0) (nI 1)) (nI 8 + (-1 : Int32)) (v ||| lshl (i2l (nI 0 &&& nI 1)) (nI k)) rfl (by omega) (by omega)
          cases n with
          | zero => omega
          | succ n =>
            refine ⟨a, b2, x, nI p, v ||| lshl (i2l (ishr (nI 0) (nI 8 - nI 8) &&& nI 1)) (nI k), nI p, nI 1, nI p, nI 8 - nI 1, nI 0, by decide, e5, ?_⟩
            show p_X6_readPacked_L5 (nI w) mf (nI p) _ _ (nI (k + 1)) (nI p) (nI 1) (nI p) _ _ = _
            rw [p_X6_readPacked_L5, if_neg (show ¬ nI 1 = nI 0 by decide), ite_self]
      · obtain ⟨b, hb, rfl, rfl⟩ := hc.2 c0
        rw [if_neg (show ¬ nI c = nI 0 by rw [eqI (by omega) (by omega)]; exact c0), if_neg (show ¬ nI c = nI 0 by rw [eqI (by omega) (by omega)]; exact c0)]
        have hc1 : c = (c - 1) + 1 := by omega
        rw [hc1]
        exact step b (c - 1) p hb (by omega) hp (by omega)
end
section
def FrA (r : Nat) (la la' : Nat → Nat → Int64) : Prop := ∀ q, q ≠ r → la' q = la q
theorem FrA.rf {r : Nat} {la : Nat → Nat → Int64} : FrA r la la := fun _ _ => rfl
theorem FrA.tr {r : Nat} {a b c : Nat → Nat → Int64} (h1 : FrA r a b) (h2 : FrA r b c) : FrA r a c := fun q hq => (h2 q hq).trans (h1 q hq)
def stA (la : Nat → Nat → Int64) (r i lim : Nat) (v : Int64) : Nat → Nat → Int64 := if i < lim then up la r (up (la r) i v) else la
theorem stA_fr {la : Nat → Nat → Int64} {r i lim : Nat} {v : Int64} : FrA r la (stA la r i lim v) := by
  intro q hq
  unfold stA
  split
  · exact up_n hq
  · rfl
/-- one number more out of the packed bits -/
theorem X_L9 {r a lim cnt w j p c n : Nat} {rb : Nat → Nat → Int32} {mf : Nat → Int32} {e : Nat} {v6 mby : Int32} {la : Nat → Nat → Int64} (hs : Src rb mf e) (hw : w ≤ 64) (hlim : lim ≤ 200) (ha : a + cnt < 2 ^ 30) (hj : j < cnt) (hp : p ≤ e) (hc : PB c v6 mby) :
    (∃ v' c' p' v6' mby', p ≤ p' ∧ p' ≤ e ∧ PB c' v6' mby' ∧ p_X6_readPacked (nI w) mf (nI p) (nI e) (nI 0) (nI 0) (nI c) mby = some (v', nI p', nI 0, nI 0, nI c', mby') ∧ itr7 (p_X4_nextPacked_L9 r (nI a) (nI lim) (nI cnt) (nI w) rb (some 1) (nI e)) (n + 2) v6 (nI c) (nI (a + j)) la (nI p) (nI 0) (nI 0) = itr7 (p_X4_nextPacked_L9 r (nI a) (nI lim) (nI cnt) (nI w) rb (some 1) (nI e)) (n + 1) v6' (nI c') (nI (a + (j + 1))) (stA la r (a + j) lim v') (nI p') (nI 0) (nI 0)) ∨
    (∃ la' sx vm sm d q cm bm, d ≠ nI 0 ∧ FrA r la la' ∧ p_X6_readPacked (nI w) mf (nI p) (nI e) (nI 0) (nI 0) (nI c) mby = some (vm, sm, d, q, cm, bm) ∧ itr7 (p_X4_nextPacked_L9 r (nI a) (nI lim) (nI cnt) (nI w) rb (some 1) (nI e)) (n + 2) v6 (nI c) (nI (a + j)) la (nI p) (nI 0) (nI 0) = some (la', sx, d, q)) := by
  have hX : itr7 (p_X4_nextPacked_L9 r (nI a) (nI lim) (nI cnt) (nI w) rb (some 1) (nI e)) (n + 2) v6 (nI c) (nI (a + j)) la (nI p) (nI 0) (nI 0) = p_X4_nextPacked_L9 r (nI a) (nI lim) (nI cnt) (nI w) rb (some 1) (nI e) (fun a1 b1 c1 d1 f1 g1 h1 => itr7 (p_X4_nextPacked_L9 r (nI a) (nI lim) (nI cnt) (nI w) rb (some 1) (nI e)) (n + 1) a1 b1 c1 d1 f1 g1 h1) v6 (nI c) (nI (a + j)) la (nI p) (nI 0) (nI 0) := rfl
  rw [hX, p_X4_nextPacked_L9, addI, if_pos (show nI (a + j) < nI (a + cnt) by rw [ltI (by omega) (by omega)]; omega), if_pos (show nI 0 = nI 0 from rfl)]
  -- what follows the number
  have cont : ∀ (x1 x2 : Int32) (v : Int64) (s1 s2 s3 : Int32) (kx : Int32 → Int32 → Int32 → (Nat → Nat → Int64) → Int32 → Int32 → Int32 → Option NP), (if nI (a + j) < nI 0 then kx x1 x2 (nI (a + j) + nI 1) la s1 s2 s3 else if nI (a + j) < nI lim then if nI (a + j) < nI 200 then gd (inb (nI (a + j)) 200) (kx x1 x2 (nI (a + j) + nI 1) (up la r (up (la r) (ix (nI (a + j))) v)) s1 s2 s3) else kx x1 x2 (nI (a + j) + nI 1) la s1 s2 s3 else kx x1 x2 (nI (a + j) + nI 1) la s1 s2 s3) = kx x1 x2 (nI (a + (j + 1))) (stA la r (a + j) lim v) s1 s2 s3 := by
    intro x1 x2 v s1 s2 s3 kx
    unfold stA
    rw [if_neg (by rw [ltI (by omega) (by omega)]; omega), addI, Nat.add_assoc a j 1]
    by_cases h : a + j < lim
    · rw [if_pos (show nI (a + j) < nI lim by rw [ltI (by omega) (by omega)]; exact h), if_pos (show nI (a + j) < nI 200 by rw [ltI (by omega) (by omega)]; omega), inbI (by omega), gdD (by omega), ixI (by omega), if_pos h]
    · rw [if_neg (show ¬ nI (a + j) < nI lim by rw [ltI (by omega) (by omega)]; exact h), if_neg h]
  rcases L_bits (kx := fun v6_6 v7_7 v9_8 ssp_9 str_10 stp_11 => if nI (a + j) < nI 0 then (fun a1 b1 c1 d1 f1 g1 h1 => itr7 (p_X4_nextPacked_L9 r (nI a) (nI lim) (nI cnt) (nI w) rb (some 1) (nI e)) (n + 1) a1 b1 c1 d1 f1 g1 h1) v6_6 v7_7 (nI (a + j) + nI 1) la ssp_9 str_10 stp_11 else if nI (a + j) < nI lim then if nI (a + j) < nI 200 then gd (inb (nI (a + j)) 200) ((fun a1 b1 c1 d1 f1 g1 h1 => itr7 (p_X4_nextPacked_L9 r (nI a) (nI lim) (nI cnt) (nI w) rb (some 1) (nI e)) (n + 1) a1 b1 c1 d1 f1 g1 h1) v6_6 v7_7 (nI (a + j) + nI 1) (up la r (up (la r) (ix (nI (a + j))) v9_8)) ssp_9 str_10 stp_11) else (fun a1 b1 c1 d1 f1 g1 h1 => itr7 (p_X4_nextPacked_L9 r (nI a) (nI lim) (nI cnt) (nI w) rb (some 1) (nI e)) (n + 1) a1 b1 c1 d1 f1 g1 h1) v6_6 v7_7 (nI (a + j) + nI 1) la ssp_9 str_10 stp_11 else (fun a1 b1 c1 d1 f1 g1 h1 => itr7 (p_X4_nextPacked_L9 r (nI a) (nI lim) (nI cnt) (nI w) rb (some 1) (nI e)) (n + 1) a1 b1 c1 d1 f1 g1 h1) v6_6 v7_7 (nI (a + j) + nI 1) la ssp_9 str_10 stp_11) hs hw w fu 0 p c v6 mby (lN 0) (by omega) (by omega) (by rw [fu_eq]; omega) hp hc with ⟨v', c', p', v6', mby', q1, q2, q3, q4, q5⟩ | ⟨a1, b1, x1, sx, vm, sm, d, q, cm, bm, hd, q4, q5⟩
  · left
    refine ⟨v', c', p', v6', mby', q1, q2, q3, q5, ?_⟩
    refine Eq.trans q4 ?_
    exact cont _ _ _ _ _ _ (fun a1 b1 c1 d1 f1 g1 h1 => itr7 (p_X4_nextPacked_L9 r (nI a) (nI lim) (nI cnt) (nI w) rb (some 1) (nI e)) (n + 1) a1 b1 c1 d1 f1 g1 h1)
  · right
    refine ⟨stA la r (a + j) lim x1, sx, vm, sm, d, q, cm, bm, hd, stA_fr, q5, ?_⟩
    refine Eq.trans q4 ?_
    refine Eq.trans (cont _ _ _ _ _ _ (fun a1 b1 c1 d1 f1 g1 h1 => itr7 (p_X4_nextPacked_L9 r (nI a) (nI lim) (nI cnt) (nI w) rb (some 1) (nI e)) (n + 1) a1 b1 c1 d1 f1 g1 h1)) ?_
    show p_X4_nextPacked_L9 r (nI a) (nI lim) (nI cnt) (nI w) rb (some 1) (nI e) _ _ _ _ _ sx d q = _
    rw [p_X4_nextPacked_L9, if_neg hd, ite_self]
theorem X_L9_end {r a lim cnt w p c n : Nat} {rb : Nat → Nat → Int32} {e : Nat} {v6 : Int32} {la : Nat → Nat → Int64} (ha : a + cnt < 2 ^ 30) : itr7 (p_X4_nextPacked_L9 r (nI a) (nI lim) (nI cnt) (nI w) rb (some 1) (nI e)) (n + 1) v6 (nI c) (nI (a + cnt)) la (nI p) (nI 0) (nI 0) = some (la, nI p, nI 0, nI 0) := by
  show p_X4_nextPacked_L9 r (nI a) (nI lim) (nI cnt) (nI w) rb (some 1) (nI e) _ v6 (nI c) (nI (a + cnt)) la (nI p) (nI 0) (nI 0) = _
  rw [p_X4_nextPacked_L9, addI, if_neg (by rw [ltI (by omega) (by omega)]; omega)]
/-- what is read so far is alike -/
def Lk (r i : Nat) (la : Nat → Nat → Int64) (mn : Nat → Int64) : Prop := ∀ t, t < i → la r t = mn t
theorem Lk.put {r i lim : Nat} {la : Nat → Nat → Int64} {mn : Nat → Int64} (v : Int64) (h : Lk r i la mn) (hi : i < lim) : Lk r (i + 1) (stA la r i lim v) (up mn i v) := by
  intro t ht
  unfold stA
  rw [if_pos hi, up_s]
  unfold up
  by_cases e : t = i
  · rw [if_pos e, if_pos e]
  · rw [if_neg e, if_neg e]
    exact h t (by omega)
abbrev RR : Type := Int32 × (Nat → Int64) × Int32 × Int32 × Int32 × Int32 × Int32
theorem L_runPack {r a lim cnt w : Nat} {rb : Nat → Nat → Int32} {mf : Nat → Int32} {e : Nat} {x : Int64} {kx : Int32 → (Nat → Int64) → Int32 → Int32 → Int32 → Int32 → Int32 → Option RR} (hs : Src rb mf e) (hw : w ≤ 64) (hlim : lim ≤ 200) (ha : a + cnt < 2 ^ 30) (hal : a ≤ lim) (hx : nI 8 * l2i x = nI cnt) : ∀ (m n j p c : Nat) (v6 mby : Int32) (la : Nat → Nat → Int64) (mn : Nat → Int64), cnt - j = m → j ≤ cnt → m + 1 < n → p ≤ e → PB c v6 mby → Lk r (min (a + j) lim) la mn →
    (∃ la' mn' p' c' mby', p ≤ p' ∧ p' ≤ e ∧ FrA r la la' ∧ Lk r (min (a + cnt) lim) la' mn' ∧ itr7 (p_X4_nextPacked_L9 r (nI a) (nI lim) (nI cnt) (nI w) rb (some 1) (nI e)) n v6 (nI c) (nI (a + j)) la (nI p) (nI 0) (nI 0) = some (la', nI p', nI 0, nI 0) ∧ itr8 (p_X6_readRuns_L108 (nI lim) (nI w) x mf (nI e) kx) n (nI (min (a + j) lim)) (nI j) mn (nI p) (nI 0) (nI 0) (nI c) mby = kx (nI (min (a + cnt) lim)) mn' (nI p') (nI 0) (nI 0) (nI c') mby') ∨
    (∃ la' sx mn' sm d q cm bm, d ≠ nI 0 ∧ FrA r la la' ∧ itr7 (p_X4_nextPacked_L9 r (nI a) (nI lim) (nI cnt) (nI w) rb (some 1) (nI e)) n v6 (nI c) (nI (a + j)) la (nI p) (nI 0) (nI 0) = some (la', sx, d, q) ∧ itr8 (p_X6_readRuns_L108 (nI lim) (nI w) x mf (nI e) kx) n (nI (min (a + j) lim)) (nI j) mn (nI p) (nI 0) (nI 0) (nI c) mby = some (nI 0, mn', sm, d, q, cm, bm)) := by
  intro m
  induction m with
  | zero =>
    intro n j p c v6 mby la mn h1 h2 h3 hp hc hk
    have : j = cnt := by omega
    subst this
    cases n with
    | zero => omega
    | succ n =>
      left
      refine ⟨la, mn, p, c, mby, by omega, hp, FrA.rf, hk, X_L9_end ha, ?_⟩
      show p_X6_readRuns_L108 (nI lim) (nI w) x mf (nI e) kx _ _ (nI j) mn (nI p) (nI 0) (nI 0) (nI c) mby = _
      rw [p_X6_readRuns_L108, hx, if_neg (by rw [ltI (by omega) (by omega)]; omega)]
  | succ m ih =>
    intro n j p c v6 mby la mn h1 h2 h3 hp hc hk
    cases n with
    | zero => omega
    | succ n =>
      cases n with
      | zero => omega
      | succ n =>
        have hM : itr8 (p_X6_readRuns_L108 (nI lim) (nI w) x mf (nI e) kx) (n + 1 + 1) (nI (min (a + j) lim)) (nI j) mn (nI p) (nI 0) (nI 0) (nI c) mby = p_X6_readRuns_L108 (nI lim) (nI w) x mf (nI e) kx (fun a1 b1 c1 d1 f1 g1 h1 i1 => itr8 (p_X6_readRuns_L108 (nI lim) (nI w) x mf (nI e) kx) (n + 1) a1 b1 c1 d1 f1 g1 h1 i1) (nI (min (a + j) lim)) (nI j) mn (nI p) (nI 0) (nI 0) (nI c) mby := rfl
        rw [hM, p_X6_readRuns_L108, hx, if_pos (show nI j < nI cnt by rw [ltI (by omega) (by omega)]; omega)]
        rcases X_L9 (r := r) (a := a) (lim := lim) (cnt := cnt) (w := w) (j := j) (n := n) (la := la) hs hw hlim ha (by omega) hp hc with ⟨v', c', p', v6', mby', q1, q2, q3, q4, q5⟩ | ⟨la', sx, vm, sm, d, q, cm, bm, hd, q3, q4, q5⟩
        · rw [q4, bdS6, if_pos (show nI 0 = nI 0 from rfl), addI, addI]
          by_cases hlt : a + j < lim
          · have e1 : min (a + j) lim = a + j := by omega
            have e2 : min (a + (j + 1)) lim = a + j + 1 := by omega
            rw [e1] at hk
            rw [e1, if_pos (by rw [ltI (by omega) (by omega)]; exact hlt), inbI (by omega), gdD (by omega), ixI (by omega)]
            have hk2 := hk.put v' hlt
            rcases ih (n + 1) (j + 1) p' c' v6' mby' (stA la r (a + j) lim v') (up mn (a + j) v') (by omega) (by omega) (by omega) q2 q3 (by rw [e2]; exact hk2) with ⟨la2, mn2, p2, c2, by2, r1, r2, r3, r4, r5, r6⟩ | ⟨la2, sx, mn2, sm, d, q, cm, bm, hd, r3, r5, r6⟩
            · rw [e2] at r6
              exact Or.inl ⟨la2, mn2, p2, c2, by2, by omega, r2, stA_fr.tr r3, r4, q5.trans r5, r6⟩
            · rw [e2] at r6
              exact Or.inr ⟨la2, sx, mn2, sm, d, q, cm, bm, hd, stA_fr.tr r3, q5.trans r5, r6⟩
          · have e1 : min (a + j) lim = lim := by omega
            have e2 : min (a + (j + 1)) lim = lim := by omega
            have e3 : stA la r (a + j) lim v' = la := by unfold stA; rw [if_neg hlt]
            rw [e3] at q5
            rw [e1] at hk
            rw [e1, if_neg (by rw [ltI (by omega) (by omega)]; omega)]
            rcases ih (n + 1) (j + 1) p' c' v6' mby' la mn (by omega) (by omega) (by omega) q2 q3 (by rw [e2]; exact hk) with ⟨la2, mn2, p2, c2, by2, r1, r2, r3, r4, r5, r6⟩ | ⟨la2, sx, mn2, sm, d, q, cm, bm, hd, r3, r5, r6⟩
            · rw [e2] at r6
              exact Or.inl ⟨la2, mn2, p2, c2, by2, by omega, r2, r3, r4, q5.trans r5, r6⟩
            · rw [e2] at r6
              exact Or.inr ⟨la2, sx, mn2, sm, d, q, cm, bm, hd, r3, q5.trans r5, r6⟩
        · rw [q4, bdS6, if_neg hd]
          exact Or.inr ⟨la', sx, mn, sm, d, q, cm, bm, hd, q3, q5, rfl⟩
end
section
theorem and1_01 (v : Int64) : v &&& lN 1 = lN 0 ∨ v &&& lN 1 = lN 1 := by
  have key : ∀ y : BitVec 64, y &&& 1#64 = 0#64 ∨ y &&& 1#64 = 1#64 := by
    intro y
    have h : (y &&& 1#64).toNat = y.toNat % 2 := by
      rw [BitVec.toNat_and]
      exact Nat.and_one_is_mod _
    have h2 : y.toNat % 2 = 0 ∨ y.toNat % 2 = 1 := by omega
    rcases h2 with h2 | h2
    · left
      apply BitVec.eq_of_toNat_eq
      rw [h, h2]
      rfl
    · right
      apply BitVec.eq_of_toNat_eq
      rw [h, h2]
      rfl
  rcases key v.toBitVec with h | h
  · exact Or.inl (Int64.toBitVec_inj.mp h)
  · exact Or.inr (Int64.toBitVec_inj.mp h)
theorem ushr1_nat (v : Int64) : ∃ t : Nat, t < 2 ^ 63 ∧ lushr v (nI 1) = lN t := by
  refine ⟨(v.toBitVec >>> 1).toNat, ?_, ?_⟩
  · rw [BitVec.toNat_ushiftRight, Nat.shiftRight_eq_div_pow]
    have := v.toBitVec.isLt
    omega
  · apply Int64.toBitVec_inj.mp
    rw [lushr_bv v (by omega)]
    show _ = BitVec.ofNat 64 _
    rw [BitVec.ofNat_toNat, BitVec.setWidth_eq]
theorem ushr_zero {v : Int64} {w : Nat} (hw : w < 64) : lushr v (nI w) = lN 0 ↔ ¬ w < bl v := by
  constructor
  · intro h hlt
    have h0 : bl v ≠ 0 := by omega
    have e := bl_top h0
    have e2 : lb (lushr v (nI w)) (bl v - 1 - w) = lb v (w + (bl v - 1 - w)) := lb_ushr v hw
    rw [h, lb_zero, show w + (bl v - 1 - w) = bl v - 1 by omega, e] at e2
    cases e2
  · intro h
    apply lb_ext
    intro i _
    rw [lb_ushr v hw, lb_zero]
    exact bl_hi (by omega)
theorem X_fill_L {r a t : Nat} {v : Int64} (h : a + t ≤ 200) : ∀ (m n k : Nat) (la : Nat → Nat → Int64) (mn : Nat → Int64) (kx : Int32 → (Nat → Int64) → Option RR), t - k = m → k ≤ t → m < n → Lk r (a + k) la mn → ∃ la' mn', itr2 (p_X4_fill_L7 r (nI (a + t)) v) n (nI (a + k)) la = some la' ∧ itr3 (p_X6_readRuns_L208 (lN t) v kx) n (nI (a + k)) (nI k) mn = kx (nI (a + t)) mn' ∧ Lk r (a + t) la' mn' ∧ FrA r la la' := by
  intro m
  induction m with
  | zero =>
    intro n k la mn kx h1 h2 h3 hk
    have : k = t := by omega
    subst this
    cases n with
    | zero => omega
    | succ n =>
      refine ⟨la, mn, ?_, ?_, hk, FrA.rf⟩
      · show p_X4_fill_L7 r (nI (a + k)) v _ (nI (a + k)) la = _
        rw [p_X4_fill_L7, if_neg (by rw [ltI (by omega) (by omega)]; omega)]
      · show p_X6_readRuns_L208 (lN k) v kx _ (nI (a + k)) (nI k) mn = _
        rw [p_X6_readRuns_L208, l2iL, if_neg (by rw [ltI (by omega) (by omega)]; omega)]
  | succ m ih =>
    intro n k la mn kx h1 h2 h3 hk
    cases n with
    | zero => omega
    | succ n =>
      have hp := hk.put v (lim := 200) (show a + k < 200 by omega)
      have e : stA la r (a + k) 200 v = up la r (up (la r) (a + k) v) := by unfold stA; rw [if_pos (by omega)]
      obtain ⟨la', mn', e1, e2, g, f⟩ := ih n (k + 1) _ _ kx (by omega) (by omega) (by omega) hp
      refine ⟨la', mn', ?_, ?_, g, stA_fr.tr f⟩
      · show p_X4_fill_L7 r (nI (a + t)) v _ (nI (a + k)) la = _
        rw [p_X4_fill_L7, if_pos (by rw [ltI (by omega) (by omega)]; omega), if_pos (by rw [ltI (by omega) (by omega)]; omega), inbI (by omega), gdD (by omega), ixI (by omega), addI, ← e]
        exact e1
      · show p_X6_readRuns_L208 (lN t) v kx _ (nI (a + k)) (nI k) mn = _
        rw [p_X6_readRuns_L208, l2iL, if_pos (by rw [ltI (by omega) (by omega)]; omega), inbI (by omega), gdD (by omega), ixI (by omega), addI, addI]
        exact e2
theorem X_fill_any {r a t : Nat} {v : Int64} {la : Nat → Nat → Int64} (h : a + t ≤ 200) : ∃ la', p_X4_fill r (nI a) (nI (a + t)) v la = some la' ∧ FrA r la la' := by
  obtain ⟨la', mn', e1, _, _, f⟩ := X_fill_L (r := r) (v := v) h t fu 0 la (fun i => la r i) (fun _ _ => none) (by omega) (by omega) (by rw [fu_eq]; omega) (fun _ _ => rfl)
  refine ⟨la', ?_, f⟩
  unfold p_X4_fill
  rw [imaxI (by omega) (by omega), Nat.max_eq_left (by omega)]
  exact e1
abbrev RunO (r lim p e : Nat) (la : Nat → Nat → Int64) (x : Option NP) (m : Option RR) : Prop :=
  (∃ la' mn' p' c' by', p ≤ p' ∧ p' ≤ e ∧ FrA r la la' ∧ Lk r lim la' mn' ∧ x = some (la', nI p', nI 0, nI 0) ∧ m = some (nI 1, mn', nI p', nI 0, nI 0, c', by')) ∨
  (∃ la' sx mn' sm d q cm bm, d ≠ nI 0 ∧ FrA r la la' ∧ x = some (la', sx, d, q) ∧ m = some (nI 0, mn', sm, d, q, cm, bm))
theorem RunO.mono {r lim p p1 e : Nat} {la la1 : Nat → Nat → Int64} {x : Option NP} {m : Option RR} (h : RunO r lim p1 e la1 x m) (hp : p ≤ p1) (hf : FrA r la la1) : RunO r lim p e la x m := by
  rcases h with ⟨la', mn', p', c', by', h1, h2, h3, h4, h5, h6⟩ | ⟨la', sx, mn', sm, d, q, cm, bm, h1, h2, h3, h4⟩
  · exact Or.inl ⟨la', mn', p', c', by', by omega, h2, hf.tr h3, h4, h5, h6⟩
  · exact Or.inr ⟨la', sx, mn', sm, d, q, cm, bm, h1, hf.tr h2, h3, h4⟩
theorem d_L6 {r : Nat} {v2 v3 : Int32} {rb : Nat → Nat → Int32} {sen : Int32} {n : Nat} {a b : Int32} {la : Nat → Nat → Int64} {ssp str stp : Int32} (hd : str ≠ nI 0) : itr6 (p_X4_nextRuns_L6 r v2 v3 rb (some 1) sen) (n + 1) a b la ssp str stp = some (la, ssp, str, stp) := by
  show p_X4_nextRuns_L6 r v2 v3 rb (some 1) sen _ a b la ssp str stp = _
  rw [p_X4_nextRuns_L6, if_neg hd, ite_self, ite_self]
theorem L_runs_L {r lim w : Nat} {rb : Nat → Nat → Int32} {mf : Nat → Int32} {e : Nat} (hs : Src rb mf e) (hw : w ≤ 32) (hlim : lim ≤ 200) : ∀ (m n a u p : Nat) (la : Nat → Nat → Int64) (mn : Nat → Int64) (mbl mby : Int32), lim - a ≤ m → a ≤ lim + 8 → u ≤ a → m + 2 < n → p ≤ e → Lk r (min a lim) la mn → RunO r lim p e la (itr6 (p_X4_nextRuns_L6 r (nI lim) (nI w) rb (some 1) (nI e)) n (nI a) (nI u) la (nI p) (nI 0) (nI 0)) (itr7 (p_X6_readRuns_L2 (nI lim) (nI w) mf (nI e)) n (nI (min a lim)) mn (nI p) (nI 0) (nI 0) mbl mby) := by
  have he := hs.1
  have w8 : (w + 7) / 8 ≤ 8 := by omega
  intro m
  induction m with
  | zero =>
    intro n a u p la mn mbl mby h1 h2 hu h3 hp hk
    cases n with
    | zero => omega
    | succ n =>
      have ea : min a lim = lim := by omega
      rw [ea] at hk ⊢
      left
      refine ⟨la, mn, p, mbl, mby, by omega, hp, FrA.rf, hk, ?_, ?_⟩
      · show p_X4_nextRuns_L6 r (nI lim) (nI w) rb (some 1) (nI e) _ (nI a) (nI u) la (nI p) (nI 0) (nI 0) = _
        rw [p_X4_nextRuns_L6, if_neg (show ¬ nI a < nI lim by rw [ltI (by omega) (by omega)]; omega), ite_self]
      · show p_X6_readRuns_L2 (nI lim) (nI w) mf (nI e) _ (nI lim) mn (nI p) (nI 0) (nI 0) mbl mby = _
        rw [p_X6_readRuns_L2, if_neg (by rw [ltI (by omega) (by omega)]; omega)]
  | succ m ih =>
    intro n a u p la mn mbl mby h1 h2 hu h3 hp hk
    by_cases hal : a < lim
    · cases n with
      | zero => omega
      | succ n =>
        have ea : min a lim = a := by omega
        rw [ea] at hk ⊢
        show RunO r lim p e la (p_X4_nextRuns_L6 r (nI lim) (nI w) rb (some 1) (nI e) _ (nI a) (nI u) la (nI p) (nI 0) (nI 0)) (p_X6_readRuns_L2 (nI lim) (nI w) mf (nI e) _ (nI a) mn (nI p) (nI 0) (nI 0) mbl mby)
        rw [p_X4_nextRuns_L6, p_X6_readRuns_L2, if_pos (show nI u < nI lim by rw [ltI (by omega) (by omega)]; omega), if_pos (show nI a < nI lim by rw [ltI (by omega) (by omega)]; omega), if_pos (show nI a < nI lim by rw [ltI (by omega) (by omega)]; omega), if_pos (show nI 0 = nI 0 from rfl)]
        -- a fault that the demand of a run finds
        have n1 : n = (n - 1) + 1 := by omega
        have key : ∀ (s0 p1 t : Nat) (v : Int64), s0 ≤ 1 → p < p1 → p1 ≤ e → t < 2 ^ 63 → lushr v (nI 1) = lN t → RunO r lim p e la (p_X4_nextRuns_J51 r (nI lim) (nI w) (nI a) (nI u) (nI p) v (nI s0) rb la (some 1) (nI p1) (nI e) (nI 0) (nI 0) (fun a1 b1 c1 d1 f1 g1 => itr6 (p_X4_nextRuns_L6 r (nI lim) (nI w) rb (some 1) (nI e)) n a1 b1 c1 d1 f1 g1)) (p_X6_readRuns_J48 (nI lim) (nI w) (nI a) (nI p) (lN t) (nI s0) mf mn (nI p1) (nI e) (nI 0) (nI 0) mbl mby (fun a1 b1 c1 d1 f1 g1 h1 => itr7 (p_X6_readRuns_L2 (nI lim) (nI w) mf (nI e)) n a1 b1 c1 d1 f1 g1 h1)) := by
          intro s0 p1 t v hs0 hp1 hp1e ht htv
          rw [p_X4_nextRuns_J51, p_X6_readRuns_J48, htv, subI (show a ≤ lim by omega), X_wholeGroups (by omega), bdS1, addI, divI (by omega) (by omega) (by omega), i2lI (by omega), i2lI (by omega)]
          -- a length of run that is not allowed
          have bad : ∀ (L2 : Int64), (lN t < lN 1 ∨ L2 < lN t) → ∃ la' sx, p_X4_nextRuns_J80 r (nI lim) (nI w) (nI a) (nI u) (nI p) (nI s0) (lN t) L2 rb la (some 1) (nI p1) (nI e) (nI 0) (nI 0) (fun a1 b1 c1 d1 f1 g1 => itr6 (p_X4_nextRuns_L6 r (nI lim) (nI w) rb (some 1) (nI e)) n a1 b1 c1 d1 f1 g1) = some (la', sx, nI 3, nI p) ∧ FrA r la la' := by
            intro L2 hb
            refine ⟨la, nI p1, ?_, FrA.rf⟩
            rw [p_X4_nextRuns_J80, p_X4_nextRuns_J102, p_X4_nextRuns_J103, demF, bdS2, if_neg (show ¬ nI 3 = nI 0 by decide)]
            rcases hb with hb | hb
            · rw [if_pos hb]
            · rw [if_pos hb, ite_self]
          have good : ∀ (L2 : Nat), L2 ≤ 200 → 1 ≤ t → t ≤ L2 → (s0 = 0 → a + t ≤ lim) → (s0 ≠ 0 → 8 * t ≤ lim - a + 7) → RunO r lim p e la (p_X4_nextRuns_J80 r (nI lim) (nI w) (nI a) (nI u) (nI p) (nI s0) (lN t) (lN L2) rb la (some 1) (nI p1) (nI e) (nI 0) (nI 0) (fun a1 b1 c1 d1 f1 g1 => itr6 (p_X4_nextRuns_L6 r (nI lim) (nI w) rb (some 1) (nI e)) n a1 b1 c1 d1 f1 g1)) (p_X6_readRuns_J82 (nI lim) (nI w) (nI a) (nI p) (lN t) (nI s0) (lN t) (nI L2) mf mn (nI p1) (nI e) (nI 0) (nI 0) mbl mby (fun a1 b1 c1 d1 f1 g1 h1 => itr7 (p_X6_readRuns_L2 (nI lim) (nI w) mf (nI e)) n a1 b1 c1 d1 f1 g1 h1)) := by
            intro L2 hL2 ht1 htL hc0 hc1
            rw [p_X4_nextRuns_J80, p_X4_nextRuns_J103, p_X6_readRuns_J82, i2lI (by omega), if_neg (show ¬ lN t < lN 1 by rw [ltL (by omega) (by omega)]; omega), if_neg (show ¬ lN L2 < lN t by rw [ltL (by omega) (by omega)]; omega), if_neg (show ¬ lN L2 < lN t by rw [ltL (by omega) (by omega)]; omega), demT, bdS2, if_pos (show nI 0 = nI 0 from rfl), addI, divI (by omega) (by omega) (by omega), l2iL, mulI, addI]
            by_cases h0 : s0 = 0
            · subst h0
              have hat := hc0 rfl
              rw [if_pos (show nI 0 = nI 0 from rfl), if_pos (show nI 0 = nI 0 from rfl)]
              rcases L_little (p := p1) (N := (w + 7) / 8) hs hp1e w8 with ⟨val, p2, q1, q2, q3, q4⟩ | ⟨vx, sx, vm, sm, d, q, hd, q3, q4⟩
              · rw [q3, q4, bdS4, bdS4, X_bitsOf, bdS1, if_pos (show nI 0 = nI 0 from rfl)]
                by_cases hbw : w < bl val
                · rw [if_pos (show nI w < nI (bl val) by have := bl_le val; rw [ltI (by omega) (by omega)]; exact hbw), if_neg (fun hh => ((ushr_zero (by omega)).mp hh) hbw), p_X4_nextRuns_J185, demF, bdS2, l2iL, addI]
                  obtain ⟨la1, f1, f2⟩ := X_fill_any (r := r) (v := val) (la := la) (show a + t ≤ 200 by omega)
                  rw [f1, bdS1, n1, d_L6 (by decide)]
                  exact Or.inr ⟨la1, _, mn, _, nI 4, nI p1, _, _, by decide, f2, rfl, rfl⟩
                · have hz := (ushr_zero (v := val) (show w < 64 by omega)).mpr hbw
                  rw [if_neg (show ¬ nI w < nI (bl val) by have := bl_le val; rw [ltI (by omega) (by omega)]; exact hbw), if_pos hz, p_X4_nextRuns_J185, demT, bdS2, l2iL, addI, addI]
                  obtain ⟨la1, mn1, g1, g2, g3, g4⟩ := X_fill_L (r := r) (v := val) (show a + t ≤ 200 by omega) t fu 0 la mn (fun v3_22 mn_23 => itr7 (p_X6_readRuns_L2 (nI lim) (nI w) mf (nI e)) n v3_22 mn_23 (nI p2) (nI 0) (nI 0) mbl mby) (by omega) (by omega) (by rw [fu_eq]; omega) hk
                  have ef : p_X4_fill r (nI a) (nI (a + t)) val la = some la1 := by
                    unfold p_X4_fill
                    rw [imaxI (by omega) (by omega), Nat.max_eq_left (by omega)]
                    exact g1
                  rw [ef, bdS1]
                  have e2 : min (a + t) lim = a + t := by omega
                  have := ih n (a + t) (u + 1) p2 la1 mn1 mbl mby (by omega) (by omega) (by omega) (by omega) q2 (by rw [e2]; exact g3)
                  rw [e2] at this
                  have e3 := g2
                  rw [show nI (a + 0) = nI a from rfl] at e3
                  rw [e3]
                  exact this.mono (by omega) g4
              · rw [q3, q4, bdS4, bdS4, X_bitsOf, bdS1, if_neg hd, p_X4_nextRuns_J185, p_X4_nextRuns_J185, d_demand hd, d_demand hd, bdS2, l2iL, addI]
                obtain ⟨la1, f1, f2⟩ := X_fill_any (r := r) (v := vx) (la := la) (show a + t ≤ 200 by omega)
                rw [f1, bdS1, n1, d_L6 hd, ite_self]
                exact Or.inr ⟨la1, _, mn, _, d, q, _, _, hd, f2, rfl, rfl⟩
            · have hat := hc1 h0
              rw [if_neg (show ¬ nI s0 = nI 0 by rw [eqI (by omega) (by omega)]; exact h0), if_neg (show ¬ nI s0 = nI 0 by rw [eqI (by omega) (by omega)]; exact h0)]
              have hpb : PB 0 (nI 0) mby := ⟨by omega, fun h => absurd rfl h⟩
              have ea2 : min (a + 0) lim = a := by omega
              have e8 : min (a + t * 8) lim = lim ∨ a + t * 8 ≤ lim := by omega
              rcases L_runPack (r := r) (a := a) (lim := lim) (cnt := t * 8) (w := w) (x := lN t) (kx := fun v3_37 mn_38 ma_39 mb_40 mba_41 mbl_42 mby_43 => itr7 (p_X6_readRuns_L2 (nI lim) (nI w) mf (nI e)) n v3_37 mn_38 ma_39 mb_40 mba_41 mbl_42 mby_43) hs (by omega) hlim (by omega) (by omega) (by rw [l2iL, mulI, Nat.mul_comm]) (t * 8) fu 0 p1 0 (nI 0) mby la mn (by omega) (by omega) (by rw [fu_eq]; omega) hp1e hpb (by rw [ea2]; exact hk) with ⟨la1, mn1, p2, c2, by2, q1, q2, q3, q4, q5, q6⟩ | ⟨la1, sx, mn1, sm, d, q, cm, bm, hd, q3, q5, q6⟩
              · rw [ea2] at q6
                have q5' : p_X4_nextPacked r (nI a) (nI lim) (nI (t * 8)) (nI w) rb la (some 1) (nI p1) (nI e) (nI 0) (nI 0) = some (la1, nI p2, nI 0, nI 0) := q5
                have hih := ih n (a + t * 8) (u + 1) p2 la1 mn1 (nI c2) by2 (by omega) (by omega) (by omega) (by omega) q2 q4
                rw [q5', bdS4, addI, q6]
                exact hih.mono (by omega) q3
              · rw [ea2] at q6
                have q5' : p_X4_nextPacked r (nI a) (nI lim) (nI (t * 8)) (nI w) rb la (some 1) (nI p1) (nI e) (nI 0) (nI 0) = some (la1, sx, d, q) := q5
                rw [q5', bdS4, q6, n1, d_L6 hd]
                exact Or.inr ⟨la1, _, mn1, sm, d, q, _, _, hd, q3, rfl, rfl⟩
          by_cases t0 : t = 0
          · rw [if_pos (show lN t = lN 0 by rw [t0])]
            right
            have hlt : lN t < lN 1 := by rw [ltL (by omega) (by omega)]; omega
            by_cases h0 : s0 = 0
            · subst h0
              obtain ⟨la', sx, g1, g2⟩ := bad (lN (lim - a)) (Or.inl hlt)
              rw [if_pos (show nI 0 = nI 0 from rfl)]
              exact ⟨la', sx, mn, nI p1, nI 3, nI p, mbl, mby, by decide, g2, g1, rfl⟩
            · obtain ⟨la', sx, g1, g2⟩ := bad (lN ((lim - a + 7) / 8)) (Or.inl hlt)
              rw [if_neg (show ¬ nI s0 = nI 0 by rw [eqI (by omega) (by omega)]; exact h0)]
              exact ⟨la', sx, mn, nI p1, nI 3, nI p, mbl, mby, by decide, g2, g1, rfl⟩
          · rw [if_neg (show ¬ lN t = lN 0 by rw [eqL (by omega) (by omega)]; exact t0)]
            by_cases h0 : s0 = 0
            · subst h0
              rw [if_pos (show nI 0 = nI 0 from rfl), if_pos (show nI 0 = nI 0 from rfl)]
              by_cases htl : t ≤ lim - a
              · exact good (lim - a) (by omega) (by omega) htl (fun _ => by omega) (fun h => absurd rfl h)
              · have hlt : lN (lim - a) < lN t := by rw [ltL (by omega) (by omega)]; omega
                obtain ⟨la', sx, g1, g2⟩ := bad (lN (lim - a)) (Or.inr hlt)
                rw [g1, p_X6_readRuns_J82, i2lI (by omega), if_pos hlt]
                exact Or.inr ⟨la', sx, mn, nI p1, nI 3, nI p, mbl, mby, by decide, g2, rfl, rfl⟩
            · rw [if_neg (show ¬ nI s0 = nI 0 by rw [eqI (by omega) (by omega)]; exact h0), if_neg (show ¬ nI s0 = nI 0 by rw [eqI (by omega) (by omega)]; exact h0)]
              by_cases htl : t ≤ (lim - a + 7) / 8
              · exact good ((lim - a + 7) / 8) (by omega) (by omega) htl (fun h => absurd h h0) (fun _ => by omega)
              · have hlt : lN ((lim - a + 7) / 8) < lN t := by rw [ltL (by omega) (by omega)]; omega
                obtain ⟨la', sx, g1, g2⟩ := bad (lN ((lim - a + 7) / 8)) (Or.inr hlt)
                rw [g1, p_X6_readRuns_J82, i2lI (by omega), if_pos hlt]
                exact Or.inr ⟨la', sx, mn, nI p1, nI 3, nI p, mbl, mby, by decide, g2, rfl, rfl⟩
        rcases L_var hs hp with ⟨v, p1, q1, q2, q3, q4⟩ | ⟨vx, sx, vm, sm, d, q, hd, q3, q4⟩
        · obtain ⟨t, ht, htv⟩ := ushr1_nat v
          rw [q3, q4, bdS4, bdS4, if_pos (show nI 0 = nI 0 from rfl), htv]
          rcases and1_01 v with e1 | e1
          · rw [if_pos (show v &&& lN 1 = lN 0 from e1), if_neg (show ¬ v &&& lN 1 = lN 1 by rw [e1]; decide)]
            exact key 0 p1 t v (by omega) (by omega) q2 ht htv
          · rw [if_neg (show ¬ v &&& lN 1 = lN 0 by rw [e1]; decide), if_pos (show v &&& lN 1 = lN 1 from e1)]
            exact key 1 p1 t v (by omega) (by omega) q2 ht htv
        · right
          rw [q3, q4, bdS4, bdS4, if_neg hd]
          have hx : ∀ (s0 : Int32), ∃ la', p_X4_nextRuns_J51 r (nI lim) (nI w) (nI a) (nI u) (nI p) vx s0 rb la (some 1) sx (nI e) d q (fun a1 b1 c1 d1 f1 g1 => itr6 (p_X4_nextRuns_L6 r (nI lim) (nI w) rb (some 1) (nI e)) n a1 b1 c1 d1 f1 g1) = some (la', sx, d, q) ∧ FrA r la la' := by
            intro s0
            have e103 : ∀ (x1 : Int32) (x2 : Int64) (x3 : Int32), p_X4_nextRuns_J103 r (nI lim) (nI w) (nI a) (nI u) (nI p) x1 x2 x3 rb la (some 1) sx (nI e) d q (fun a1 b1 c1 d1 f1 g1 => itr6 (p_X4_nextRuns_L6 r (nI lim) (nI w) rb (some 1) (nI e)) n a1 b1 c1 d1 f1 g1) = some (la, sx, d, q) := by
              intro x1 x2 x3
              rw [p_X4_nextRuns_J103, d_demand hd, bdS2, if_neg hd]
            have e80 : ∀ (x1 : Int32) (x2 x3 : Int64), p_X4_nextRuns_J80 r (nI lim) (nI w) (nI a) (nI u) (nI p) x1 x2 x3 rb la (some 1) sx (nI e) d q (fun a1 b1 c1 d1 f1 g1 => itr6 (p_X4_nextRuns_L6 r (nI lim) (nI w) rb (some 1) (nI e)) n a1 b1 c1 d1 f1 g1) = some (la, sx, d, q) := by
              intro x1 x2 x3
              rw [p_X4_nextRuns_J80, p_X4_nextRuns_J102, e103, e103, ite_self, ite_self]
            refine ⟨la, ?_, FrA.rf⟩
            rw [p_X4_nextRuns_J51, subI (show a ≤ lim by omega), X_wholeGroups (by omega), bdS1, e80, e80, ite_self]
          obtain ⟨la0, g0, f0⟩ := hx (nI 0)
          obtain ⟨la1, g1, f1⟩ := hx (nI 1)
          rw [g0, g1]
          split
          · exact ⟨la0, sx, mn, sm, d, q, mbl, mby, hd, f0, rfl, rfl⟩
          · exact ⟨la1, sx, mn, sm, d, q, mbl, mby, hd, f1, rfl, rfl⟩
    · cases n with
      | zero => omega
      | succ n =>
        have ea : min a lim = lim := by omega
        rw [ea] at hk ⊢
        left
        refine ⟨la, mn, p, mbl, mby, by omega, hp, FrA.rf, hk, ?_, ?_⟩
        · show p_X4_nextRuns_L6 r (nI lim) (nI w) rb (some 1) (nI e) _ (nI a) (nI u) la (nI p) (nI 0) (nI 0) = _
          rw [p_X4_nextRuns_L6, if_neg (show ¬ nI a < nI lim by rw [ltI (by omega) (by omega)]; omega), ite_self]
        · show p_X6_readRuns_L2 (nI lim) (nI w) mf (nI e) _ (nI lim) mn (nI p) (nI 0) (nI 0) mbl mby = _
          rw [p_X6_readRuns_L2, if_neg (by rw [ltI (by omega) (by omega)]; omega)]
theorem L_runs {r lim w p e : Nat} {rb : Nat → Nat → Int32} {mf : Nat → Int32} {la : Nat → Nat → Int64} {mn : Nat → Int64} {mbl mby : Int32} (hs : Src rb mf e) (hw : w ≤ 32) (hlim : lim ≤ 200) (hp : p ≤ e) : RunO r lim p e la (p_X4_nextRuns r (nI lim) (nI w) rb la (some 1) (nI p) (nI e) (nI 0) (nI 0)) (p_X6_readRuns (nI lim) (nI w) mf mn (nI p) (nI e) (nI 0) (nI 0) mbl mby) := by
  have := L_runs_L (r := r) hs hw hlim lim fu 0 0 p la mn mbl mby (by omega) (by omega) (by omega) (by rw [fu_eq]; omega) hp (fun t ht => by omega)
  rw [show min 0 lim = 0 by omega] at this
  exact this
end
section
/-! differences, read -/
abbrev DX : Type := (Nat → Nat → Int64) × Int32 × Int32 × Int32 × (Nat → Int32)
abbrev DM : Type := Int32 × (Nat → Int64) × Int32 × Int32 × Int32 × Int32 × Int32 × (Nat → Int32)
def WD (k : Nat) (swd mw : Nat → Int32) : Prop := ∀ j, j < k → ∃ w, w ≤ 64 ∧ swd j = nI w ∧ mw j = nI w
theorem WD.snoc {k w : Nat} {swd mw : Nat → Int32} (h : WD k swd mw) (hw : w ≤ 64) : WD (k + 1) (up swd k (nI w)) (up mw k (nI w)) := by
  intro j hj
  by_cases e : j = k
  · subst e
    exact ⟨w, hw, up_s, up_s⟩
  · obtain ⟨v, h1, h2, h3⟩ := h j (by omega)
    exact ⟨v, h1, by rw [up_n e]; exact h2, by rw [up_n e]; exact h3⟩
/-- the reference has a fault: it answers 0 and the fault stays -/
def DeadM (d q : Int32) (m : Option DM) : Prop := ∃ mn' sm cm bm mw', m = some (nI 0, mn', sm, d, q, cm, bm, mw')
theorem L_widths_L {s en ints : Nat} {rb : Nat → Nat → Int32} {mf : Nat → Int32} {e : Nat} {mn : Nat → Int64} {mbl mby : Int32} {kx : Int32 → Int32 → Int32 → (Nat → Int32) → Option DM} (hs : Src rb mf e) (hi : ints ≤ 1) (hse : s < en) (hen : en ≤ 200) (hkx : ∀ sm d q mw', d ≠ nI 0 → DeadM d q (kx sm d q mw')) : ∀ (m n k p : Nat) (swd mw : Nat → Int32), 4 - k = m → k ≤ 4 → m + 1 < n → p ≤ e → WD k swd mw →
    (∃ p' swd' mw', p ≤ p' ∧ p' ≤ e ∧ WD 4 swd' mw' ∧ itr5 (p_X4_nextWidths_L2 (nI (en - s)) (nI (if ints = 0 then 64 else 32)) rb (some 1) (nI e)) n (nI k) (nI p) (nI 0) (nI 0) swd = some (nI p', nI 0, nI 0, swd') ∧ itr5 (p_X6_readDifferences_L117 (nI ints) (nI s) (nI en) mf mn (nI e) mbl mby kx) n (nI k) (nI p) (nI 0) (nI 0) mw = kx (nI p') (nI 0) (nI 0) mw') ∨
    (∃ sx d q swd', d ≠ nI 0 ∧ itr5 (p_X4_nextWidths_L2 (nI (en - s)) (nI (if ints = 0 then 64 else 32)) rb (some 1) (nI e)) n (nI k) (nI p) (nI 0) (nI 0) swd = some (sx, d, q, swd') ∧ DeadM d q (itr5 (p_X6_readDifferences_L117 (nI ints) (nI s) (nI en) mf mn (nI e) mbl mby kx) n (nI k) (nI p) (nI 0) (nI 0) mw)) := by
  have he := hs.1
  intro m
  induction m with
  | zero =>
    intro n k p swd mw h1 h2 h3 hp hk
    have : k = 4 := by omega
    subst this
    cases n with
    | zero => omega
    | succ n =>
      left
      refine ⟨p, swd, mw, by omega, hp, hk, ?_, ?_⟩
      · show p_X4_nextWidths_L2 _ _ rb (some 1) (nI e) _ (nI 4) (nI p) (nI 0) (nI 0) swd = _
        rw [p_X4_nextWidths_L2, if_neg (by decide)]
      · show p_X6_readDifferences_L117 (nI ints) (nI s) (nI en) mf mn (nI e) mbl mby kx _ (nI 4) (nI p) (nI 0) (nI 0) mw = _
        rw [p_X6_readDifferences_L117, if_neg (by decide)]
  | succ m ih =>
    intro n k p swd mw h1 h2 h3 hp hk
    cases n with
    | zero => omega
    | succ n =>
      have hX : itr5 (p_X4_nextWidths_L2 (nI (en - s)) (nI (if ints = 0 then 64 else 32)) rb (some 1) (nI e)) (n + 1) (nI k) (nI p) (nI 0) (nI 0) swd = p_X4_nextWidths_L2 (nI (en - s)) (nI (if ints = 0 then 64 else 32)) rb (some 1) (nI e) (fun a b c d f => itr5 (p_X4_nextWidths_L2 (nI (en - s)) (nI (if ints = 0 then 64 else 32)) rb (some 1) (nI e)) n a b c d f) (nI k) (nI p) (nI 0) (nI 0) swd := rfl
      have hM : itr5 (p_X6_readDifferences_L117 (nI ints) (nI s) (nI en) mf mn (nI e) mbl mby kx) (n + 1) (nI k) (nI p) (nI 0) (nI 0) mw = p_X6_readDifferences_L117 (nI ints) (nI s) (nI en) mf mn (nI e) mbl mby kx (fun a b c d f => itr5 (p_X6_readDifferences_L117 (nI ints) (nI s) (nI en) mf mn (nI e) mbl mby kx) n a b c d f) (nI k) (nI p) (nI 0) (nI 0) mw := rfl
      rw [hX, hM, p_X4_nextWidths_L2, p_X6_readDifferences_L117, if_pos (show nI k < nI 4 by rw [ltI (by omega) (by omega)]; omega), if_pos (show nI k < nI 4 by rw [ltI (by omega) (by omega)]; omega), if_pos (show nI 0 = nI 0 from rfl)]
      -- the dead rest of the class
      have drest : ∀ (sx d q : Int32) (sw : Nat → Int32), d ≠ nI 0 → ∃ swd', itr5 (p_X4_nextWidths_L2 (nI (en - s)) (nI (if ints = 0 then 64 else 32)) rb (some 1) (nI e)) n (nI (k + 1)) sx d q sw = some (sx, d, q, swd') := fun sx d q sw hd => d_widths_L hd (4 - (k + 1)) n (k + 1) sw rfl (by omega) (by omega)
      rcases L_next hs hp with ⟨b, hb, hlt, e1, e2⟩ | ⟨rfl, e1, e2⟩
      · rw [e1, e2, bdS4, bdS4, mulI, mulI, addI, inbI (by omega), gdD (by omega), ixI (by omega)]
        -- the bound of this part's width
        have fin : ∀ (B : Nat), B ≤ 64 → ((∃ p' swd' mw', p ≤ p' ∧ p' ≤ e ∧ WD 4 swd' mw' ∧ p_X4_nextWidths_J35 (nI k) (nI p) (nI b) (nI b) (nI B) (nI (p + 1)) (nI 0) (nI 0) swd (fun a b c d f => itr5 (p_X4_nextWidths_L2 (nI (en - s)) (nI (if ints = 0 then 64 else 32)) rb (some 1) (nI e)) n a b c d f) = some (nI p', nI 0, nI 0, swd') ∧ p_X6_readDifferences_J201 (nI k) (nI p) (nI b) (nI B) mn (nI (p + 1)) (nI 0) (nI 0) mbl mby (up mw k (nI b)) (fun a b c d f => itr5 (p_X6_readDifferences_L117 (nI ints) (nI s) (nI en) mf mn (nI e) mbl mby kx) n a b c d f) = kx (nI p') (nI 0) (nI 0) mw') ∨ (∃ sx d q swd', d ≠ nI 0 ∧ p_X4_nextWidths_J35 (nI k) (nI p) (nI b) (nI b) (nI B) (nI (p + 1)) (nI 0) (nI 0) swd (fun a b c d f => itr5 (p_X4_nextWidths_L2 (nI (en - s)) (nI (if ints = 0 then 64 else 32)) rb (some 1) (nI e)) n a b c d f) = some (sx, d, q, swd') ∧ DeadM d q (p_X6_readDifferences_J201 (nI k) (nI p) (nI b) (nI B) mn (nI (p + 1)) (nI 0) (nI 0) mbl mby (up mw k (nI b)) (fun a b c d f => itr5 (p_X6_readDifferences_L117 (nI ints) (nI s) (nI en) mf mn (nI e) mbl mby kx) n a b c d f)))) := by
          intro B hB
          rw [p_X4_nextWidths_J35, p_X6_readDifferences_J201]
          by_cases hbB : B < b
          · rw [if_pos (show nI B < nI b by rw [ltI (by omega) (by omega)]; exact hbB), if_pos (show nI B < nI b by rw [ltI (by omega) (by omega)]; exact hbB), p_X4_nextWidths_J43, demF, bdS2, if_neg (show ¬ nI 6 = nI 0 by decide), inbI (by omega), gdD (by omega), ixI (by omega), addI]
            obtain ⟨swd', g⟩ := drest (nI (p + 1)) (nI 6) (nI p) (up swd k (nI 0)) (by decide)
            exact Or.inr ⟨nI (p + 1), nI 6, nI p, swd', by decide, g, ⟨_, _, _, _, _, rfl⟩⟩
          · rw [if_neg (show ¬ nI B < nI b by rw [ltI (by omega) (by omega)]; exact hbB), if_neg (show ¬ nI B < nI b by rw [ltI (by omega) (by omega)]; exact hbB), p_X4_nextWidths_J43, demT, bdS2, if_pos (show nI 0 = nI 0 from rfl), inbI (by omega), gdD (by omega), ixI (by omega), addI]
            rcases ih n (k + 1) (p + 1) (up swd k (nI b)) (up mw k (nI b)) (by omega) (by omega) (by omega) (by omega) (hk.snoc (by omega)) with ⟨p', swd', mw', q1, q2, q3, q4, q5⟩ | hdd
            · exact Or.inl ⟨p', swd', mw', by omega, q2, q3, q4, q5⟩
            · exact Or.inr hdd
        rw [p_X6_readDifferences_J165, p_X6_readDifferences_J165, if_pos (show nI 0 = nI 0 from rfl), inbI (by omega), gdD (by omega), gdD (by omega), ixI (by omega), up_s, if_neg (show ¬ nI 1 = nI 0 by decide), if_pos (show nI 0 = nI 0 from rfl)]
        by_cases hin : s + 32 * k < en
        · rw [if_pos (show nI (k * 32) < nI (en - s) by rw [ltI (by omega) (by omega)]; omega), if_pos (show nI (s + 32 * k) < nI en by rw [ltI (by omega) (by omega)]; exact hin)]
          by_cases i0 : ints = 0
          · subst i0
            rw [if_pos (show nI 0 = nI 0 from rfl)]
            exact fin 64 (by omega)
          · rw [if_neg (show ¬ nI ints = nI 0 by rw [eqI (by omega) (by omega)]; exact i0), if_neg i0]
            rw [if_neg i0] at fin
            exact fin 32 (by omega)
        · rw [if_neg (show ¬ nI (k * 32) < nI (en - s) by rw [ltI (by omega) (by omega)]; omega), if_neg (show ¬ nI (s + 32 * k) < nI en by rw [ltI (by omega) (by omega)]; exact hin)]
          exact fin 0 (by omega)
      · right
        rw [e1, e2, bdS4, bdS4, mulI, mulI, addI, inbI (by omega), gdD (by omega), ixI (by omega)]
        have e43 : ∀ (a b c : Int32) (sw : Nat → Int32) (kz : Int32 → Int32 → Int32 → Int32 → (Nat → Int32) → Option (Int32 × Int32 × Int32 × (Nat → Int32))), p_X4_nextWidths_J43 (nI k) a b c (nI p) (nI 1) (nI p) sw kz = kz (nI (k + 1)) (nI p) (nI 1) (nI p) (up sw k (nI 0)) := by
          intro a b c sw kz
          rw [p_X4_nextWidths_J43, d_demand (by decide), bdS2, if_neg (show ¬ nI 1 = nI 0 by decide), inbI (by omega), gdD (by omega), ixI (by omega), addI]
        obtain ⟨swd', g⟩ := drest (nI p) (nI 1) (nI p) (up swd k (nI 0)) (by decide)
        refine ⟨nI p, nI 1, nI p, swd', by decide, ?_, ?_⟩
        · rw [p_X4_nextWidths_J35, p_X4_nextWidths_J35, e43, e43, ite_self, ite_self, ite_self]
          exact g
        · have e165 : ∀ (s0 : Int32) (kz : Int32 → Int32 → Int32 → Int32 → (Nat → Int32) → Option DM), p_X6_readDifferences_J165 (nI ints) (nI k) (nI p) s0 mn (nI p) (nI 1) (nI p) mbl mby (up mw k (nI 0)) kz = kz (nI k + nI 1) (nI p) (nI 1) (nI p) (up mw k (nI 0)) := by
            intro s0 kz
            rw [p_X6_readDifferences_J165, if_neg (show ¬ nI 1 = nI 0 by decide)]
          rw [e165, e165, ite_self]
          cases n with
          | zero => omega
          | succ n =>
            show DeadM (nI 1) (nI p) (p_X6_readDifferences_L117 (nI ints) (nI s) (nI en) mf mn (nI p) mbl mby kx _ (nI k + nI 1) (nI p) (nI 1) (nI p) (up mw k (nI 0)))
            rw [p_X6_readDifferences_L117, if_neg (show ¬ nI 1 = nI 0 by decide), ite_self]
            exact hkx _ _ _ _ (by decide)
end
section
def acc (ints : Nat) (L prev x : Int64) : Int64 := if ints = 0 then prev + L + x else i2l (l2i (prev + L + x))
def AC (ints : Nat) (L : Int64) (r s i : Nat) (la : Nat → Nat → Int64) (mn : Nat → Int64) : Prop := ∀ t, s ≤ t → t < i → mn t = acc ints L (mn (t - 1)) (la r t)
theorem AC.put {ints r s i lim : Nat} {L v : Int64} {la : Nat → Nat → Int64} {mn : Nat → Int64} (h : AC ints L r s i la mn) (hs : 1 ≤ s) (hsi : s ≤ i) (hi : i < lim) : AC ints L r s (i + 1) (stA la r i lim v) (up mn i (acc ints L (mn (i - 1)) v)) := by
  intro t h1 h2
  unfold stA
  rw [if_pos hi, up_s]
  by_cases e : t = i
  · subst e
    rw [up_s, up_s, up_n (show t - 1 ≠ t by omega)]
  · rw [up_n e, up_n e, up_n (show t - 1 ≠ i by omega)]
    exact h t h1 (by omega)
theorem Lk.putn {r s i lim : Nat} {v x : Int64} {la : Nat → Nat → Int64} {mn : Nat → Int64} (h : Lk r s la mn) (hsi : s ≤ i) : Lk r s (stA la r i lim v) (up mn i x) := by
  intro t ht
  unfold stA
  rw [up_n (show t ≠ i by omega)]
  split
  · rw [up_s, up_n (show t ≠ i by omega)]
    exact h t ht
  · exact h t ht
def isI (x : Int64) : Prop := i2l (l2i x) = x
theorem isI_i (x : Int64) : isI (i2l (l2i x)) := by
  unfold isI i2l l2i
  rw [Int32.toInt32_toInt64]
/-- so far alike, and of ints all are ints -/
def LkI (ints r s : Nat) (la : Nat → Nat → Int64) (mn : Nat → Int64) : Prop := Lk r s la mn ∧ (ints ≠ 0 → ∀ t, t < s → isI (mn t))
theorem LkI.putn {ints r s i lim : Nat} {v x : Int64} {la : Nat → Nat → Int64} {mn : Nat → Int64} (h : LkI ints r s la mn) (hsi : s ≤ i) : LkI ints r s (stA la r i lim v) (up mn i x) :=
  ⟨h.1.putn hsi, fun h0 t ht => by rw [up_n (show t ≠ i by omega)]; exact h.2 h0 t ht⟩
abbrev K346 : Type := Int64 → (Nat → Int64) → Int32 → Int32 → Int32 → Int32 → Int32 → Option DM
theorem L_part {r s en k w ints : Nat} {rb : Nat → Nat → Int32} {mf : Nat → Int32} {e : Nat} {L : Int64} {mw : Nat → Int32} {kx : K346} (hs : Src rb mf e) (hi : ints ≤ 1) (h1s : 1 ≤ s) (hen : en ≤ 200) (hk4 : k < 4) (hw : w ≤ 64) (hmw : mw k = nI w) (ha : s + 32 * k < en) : ∀ (m n j p c : Nat) (v6 mby : Int32) (la : Nat → Nat → Int64) (mn : Nat → Int64), 32 - j = m → j ≤ 32 → m + 1 < n → p ≤ e → PB c v6 mby → LkI ints r s la mn → AC ints L r s (min (s + 32 * k + j) en) la mn →
    (∃ la' mn' p' c' mby', p ≤ p' ∧ p' ≤ e ∧ FrA r la la' ∧ LkI ints r s la' mn' ∧ AC ints L r s (min (s + 32 * k + 32) en) la' mn' ∧ itr7 (p_X4_nextPacked_L9 r (nI (s + 32 * k)) (nI en) (nI 32) (nI w) rb (some 1) (nI e)) n v6 (nI c) (nI (s + 32 * k + j)) la (nI p) (nI 0) (nI 0) = some (la', nI p', nI 0, nI 0) ∧ itr8 (p_X6_readDifferences_L250 (nI ints) (nI s) (nI en) L (nI k) mf (nI e) mw kx) n (mn (min (s + 32 * k + j) en - 1)) (nI (s + 32 * k + j)) mn (nI p) (nI 0) (nI 0) (nI c) mby = kx (mn' (min (s + 32 * k + 32) en - 1)) mn' (nI p') (nI 0) (nI 0) (nI c') mby') ∨
    (∃ la' sx v mn' sm d q cm bm, d ≠ nI 0 ∧ FrA r la la' ∧ itr7 (p_X4_nextPacked_L9 r (nI (s + 32 * k)) (nI en) (nI 32) (nI w) rb (some 1) (nI e)) n v6 (nI c) (nI (s + 32 * k + j)) la (nI p) (nI 0) (nI 0) = some (la', sx, d, q) ∧ itr8 (p_X6_readDifferences_L250 (nI ints) (nI s) (nI en) L (nI k) mf (nI e) mw kx) n (mn (min (s + 32 * k + j) en - 1)) (nI (s + 32 * k + j)) mn (nI p) (nI 0) (nI 0) (nI c) mby = kx v mn' sm d q cm bm) := by
  intro m
  induction m with
  | zero =>
    intro n j p c v6 mby la mn h1 h2 h3 hp hc hk hac
    have : j = 32 := by omega
    subst this
    cases n with
    | zero => omega
    | succ n =>
      left
      refine ⟨la, mn, p, c, mby, by omega, hp, FrA.rf, hk, hac, X_L9_end (by omega), ?_⟩
      show p_X6_readDifferences_L250 (nI ints) (nI s) (nI en) L (nI k) mf (nI e) mw kx _ _ (nI (s + 32 * k + 32)) mn (nI p) (nI 0) (nI 0) (nI c) mby = _
      rw [p_X6_readDifferences_L250, mulI, addI, addI, if_neg (by rw [ltI (by omega) (by omega)]; omega)]
  | succ m ih =>
    intro n j p c v6 mby la mn h1 h2 h3 hp hc hk hac
    cases n with
    | zero => omega
    | succ n =>
      cases n with
      | zero => omega
      | succ n =>
        have hM : ∀ pv, itr8 (p_X6_readDifferences_L250 (nI ints) (nI s) (nI en) L (nI k) mf (nI e) mw kx) (n + 1 + 1) pv (nI (s + 32 * k + j)) mn (nI p) (nI 0) (nI 0) (nI c) mby = p_X6_readDifferences_L250 (nI ints) (nI s) (nI en) L (nI k) mf (nI e) mw kx (fun a b c d f g h i => itr8 (p_X6_readDifferences_L250 (nI ints) (nI s) (nI en) L (nI k) mf (nI e) mw kx) (n + 1) a b c d f g h i) pv (nI (s + 32 * k + j)) mn (nI p) (nI 0) (nI 0) (nI c) mby := fun pv => rfl
        -- the reference goes to kx at once when it has a fault
        have mdead : ∀ (pv : Int64) (i : Int32) (mn1 : Nat → Int64) (sm d q cm bm : Int32), d ≠ nI 0 → itr8 (p_X6_readDifferences_L250 (nI ints) (nI s) (nI en) L (nI k) mf (nI e) mw kx) (n + 1) pv i mn1 sm d q cm bm = kx pv mn1 sm d q cm bm := by
          intro pv i mn1 sm d q cm bm hd
          show p_X6_readDifferences_L250 (nI ints) (nI s) (nI en) L (nI k) mf (nI e) mw kx _ pv i mn1 sm d q cm bm = _
          rw [p_X6_readDifferences_L250, if_neg hd, ite_self, ite_self]
        rw [hM, p_X6_readDifferences_L250, mulI, addI, addI, addI, if_pos (show nI (s + 32 * k + j) < nI (s + 32 * k + 32) by rw [ltI (by omega) (by omega)]; omega), if_pos (show nI (s + 32 * k) < nI en by rw [ltI (by omega) (by omega)]; exact ha), if_pos (show nI 0 = nI 0 from rfl), inbI (by omega), gdD (by omega), ixI (by omega), hmw]
        rcases X_L9 (r := r) (a := s + 32 * k) (lim := en) (cnt := 32) (w := w) (j := j) (n := n) (la := la) hs hw hen (by omega) (by omega) hp hc with ⟨v', c', p', v6', mby', q1, q2, q3, q4, q5⟩ | ⟨la', sx, vm, sm, d, q, cm, bm, hd, q3, q4, q5⟩
        · rw [q4, bdS6]
          by_cases hlt : s + 32 * k + j < en
          · have em : min (s + 32 * k + j) en = s + 32 * k + j := by omega
            have em2 : min (s + 32 * k + (j + 1)) en = s + 32 * k + j + 1 := by omega
            rw [em] at hac ⊢
            have hac2 := hac.put (v := v') h1s (by omega) hlt
            have hk2 := hk.putn (i := s + 32 * k + j) (lim := en) (v := v') (x := acc ints L (mn (s + 32 * k + j - 1)) v') (by omega)
            have hgo := ih (n + 1) (j + 1) p' c' v6' mby' (stA la r (s + 32 * k + j) en v') (up mn (s + 32 * k + j) (acc ints L (mn (s + 32 * k + j - 1)) v')) (by omega) (by omega) (by omega) q2 q3 hk2 (by rw [em2]; exact hac2)
            rw [em2, Nat.add_sub_cancel, up_s] at hgo
            have hval : (if nI ints = nI 0 then gd (inb (nI (s + 32 * k + j)) 500) (itr8 (p_X6_readDifferences_L250 (nI ints) (nI s) (nI en) L (nI k) mf (nI e) mw kx) (n + 1) (mn (s + 32 * k + j - 1) + L + v') (nI (s + 32 * k + j + 1)) (up mn (ix (nI (s + 32 * k + j))) (mn (s + 32 * k + j - 1) + L + v')) (nI p') (nI 0) (nI 0) (nI c') mby') else gd (inb (nI (s + 32 * k + j)) 500) (itr8 (p_X6_readDifferences_L250 (nI ints) (nI s) (nI en) L (nI k) mf (nI e) mw kx) (n + 1) (i2l (l2i (mn (s + 32 * k + j - 1) + L + v'))) (nI (s + 32 * k + j + 1)) (up mn (ix (nI (s + 32 * k + j))) (i2l (l2i (mn (s + 32 * k + j - 1) + L + v')))) (nI p') (nI 0) (nI 0) (nI c') mby')) = itr8 (p_X6_readDifferences_L250 (nI ints) (nI s) (nI en) L (nI k) mf (nI e) mw kx) (n + 1) (acc ints L (mn (s + 32 * k + j - 1)) v') (nI (s + 32 * k + (j + 1))) (up mn (s + 32 * k + j) (acc ints L (mn (s + 32 * k + j - 1)) v')) (nI p') (nI 0) (nI 0) (nI c') mby' := by
              rw [inbI (by omega), gdD (by omega), gdD (by omega), ixI (by omega)]
              unfold acc
              by_cases i0 : ints = 0
              · rw [if_pos (show nI ints = nI 0 by rw [i0]), if_pos i0]
                rfl
              · rw [if_neg (show ¬ nI ints = nI 0 by rw [eqI (by omega) (by omega)]; exact i0), if_neg i0]
                rfl
            rw [if_pos (show nI (s + 32 * k + j) < nI en by rw [ltI (by omega) (by omega)]; exact hlt)]
            rw [hval]
            rcases hgo with ⟨la2, mn2, p2, c2, by2, r1, r2, r3, r4, r5, r6, r7⟩ | ⟨la2, sx, v, mn2, sm, d, q, cm, bm, hd, r3, r6, r7⟩
            · exact Or.inl ⟨la2, mn2, p2, c2, by2, by omega, r2, stA_fr.tr r3, r4, r5, q5.trans r6, r7⟩
            · exact Or.inr ⟨la2, sx, v, mn2, sm, d, q, cm, bm, hd, stA_fr.tr r3, q5.trans r6, r7⟩
          · have em : min (s + 32 * k + j) en = en := by omega
            have em2 : min (s + 32 * k + (j + 1)) en = en := by omega
            have e3 : stA la r (s + 32 * k + j) en v' = la := by unfold stA; rw [if_neg hlt]
            rw [e3] at q5
            rw [em] at hac ⊢
            have hgo := ih (n + 1) (j + 1) p' c' v6' mby' la mn (by omega) (by omega) (by omega) q2 q3 hk (by rw [em2]; exact hac)
            rw [em2] at hgo
            rw [if_neg (show ¬ nI (s + 32 * k + j) < nI en by rw [ltI (by omega) (by omega)]; exact hlt)]
            rcases hgo with ⟨la2, mn2, p2, c2, by2, r1, r2, r3, r4, r5, r6, r7⟩ | ⟨la2, sx, v, mn2, sm, d, q, cm, bm, hd, r3, r6, r7⟩
            · exact Or.inl ⟨la2, mn2, p2, c2, by2, by omega, r2, r3, r4, r5, q5.trans r6, r7⟩
            · exact Or.inr ⟨la2, sx, v, mn2, sm, d, q, cm, bm, hd, r3, q5.trans r6, r7⟩
        · right
          rw [q4, bdS6, mdead _ _ _ _ _ _ _ _ hd, mdead _ _ _ _ _ _ _ _ hd, mdead _ _ _ _ _ _ _ _ hd, inbI (by omega)]
          by_cases hlt : s + 32 * k + j < en
          · rw [if_pos (show nI (s + 32 * k + j) < nI en by rw [ltI (by omega) (by omega)]; exact hlt), gdD (by omega), gdD (by omega)]
            split
            · exact ⟨la', sx, _, _, sm, d, q, cm, bm, hd, q3, q5, rfl⟩
            · exact ⟨la', sx, _, _, sm, d, q, cm, bm, hd, q3, q5, rfl⟩
          · rw [if_neg (show ¬ nI (s + 32 * k + j) < nI en by rw [ltI (by omega) (by omega)]; exact hlt)]
            exact ⟨la', sx, _, _, sm, d, q, cm, bm, hd, q3, q5, rfl⟩
end
section
abbrev K217 : Type := (Nat → Nat → Int64) → Int32 → Int32 → Int32 → Option DX
theorem d_L168 {r s en : Nat} {rb : Nat → Nat → Int32} {sen : Int32} {swd : Nat → Int32} {kz : K217} {la : Nat → Nat → Int64} {sx d q : Int32} (hd : d ≠ nI 0) : ∀ (m n k : Nat), 4 - k = m → k ≤ 4 → m < n → itr5 (p_X4_nextDifferences_L168 r (nI s) (nI en) rb (some 1) sen swd kz) n (nI k) la sx d q = kz la sx d q := by
  intro m
  induction m with
  | zero =>
    intro n k h1 h2 h3
    have : k = 4 := by omega
    subst this
    cases n with
    | zero => omega
    | succ n =>
      show p_X4_nextDifferences_L168 r (nI s) (nI en) rb (some 1) sen swd kz _ (nI 4) la sx d q = _
      rw [p_X4_nextDifferences_L168, if_neg (by decide)]
  | succ m ih =>
    intro n k h1 h2 h3
    cases n with
    | zero => omega
    | succ n =>
      show p_X4_nextDifferences_L168 r (nI s) (nI en) rb (some 1) sen swd kz _ (nI k) la sx d q = _
      rw [p_X4_nextDifferences_L168, if_pos (by rw [ltI (by omega) (by omega)]; omega), inbI (by omega), gdD (by omega), d_packed hd, bdS4, addI, ih n (k + 1) (by omega) (by omega) (by omega), ite_self]
theorem L_parts {r s en ints : Nat} {rb : Nat → Nat → Int32} {mf : Nat → Int32} {e : Nat} {L : Int64} {swd mw : Nat → Int32} {kz : K217} {kx : K346} (hs : Src rb mf e) (hi : ints ≤ 1) (h1s : 1 ≤ s) (hse : s < en) (hen : en ≤ 200) (h128 : en ≤ s + 128) (hwd : WD 4 swd mw) : ∀ (m n k p : Nat) (la : Nat → Nat → Int64) (mn : Nat → Int64) (mbl mby : Int32), 4 - k = m → k ≤ 4 → m + 1 < n → p ≤ e → LkI ints r s la mn → AC ints L r s (min (s + 32 * k) en) la mn →
    (∃ la' mn' p' c' mby', p ≤ p' ∧ p' ≤ e ∧ FrA r la la' ∧ LkI ints r s la' mn' ∧ AC ints L r s en la' mn' ∧ itr5 (p_X4_nextDifferences_L168 r (nI s) (nI en) rb (some 1) (nI e) swd kz) n (nI k) la (nI p) (nI 0) (nI 0) = kz la' (nI p') (nI 0) (nI 0) ∧ itr8 (p_X6_readDifferences_L222 (nI ints) (nI s) (nI en) L mf (nI e) mw kx) n (mn (min (s + 32 * k) en - 1)) (nI k) mn (nI p) (nI 0) (nI 0) mbl mby = kx (mn' (en - 1)) mn' (nI p') (nI 0) (nI 0) c' mby') ∨
    (∃ la' sx v mn' sm d q cm bm, d ≠ nI 0 ∧ FrA r la la' ∧ itr5 (p_X4_nextDifferences_L168 r (nI s) (nI en) rb (some 1) (nI e) swd kz) n (nI k) la (nI p) (nI 0) (nI 0) = kz la' sx d q ∧ itr8 (p_X6_readDifferences_L222 (nI ints) (nI s) (nI en) L mf (nI e) mw kx) n (mn (min (s + 32 * k) en - 1)) (nI k) mn (nI p) (nI 0) (nI 0) mbl mby = kx v mn' sm d q cm bm) := by
  intro m
  induction m with
  | zero =>
    intro n k p la mn mbl mby h1 h2 h3 hp hk hac
    have : k = 4 := by omega
    subst this
    cases n with
    | zero => omega
    | succ n =>
      have em : min (s + 32 * 4) en = en := by omega
      rw [em] at hac ⊢
      left
      refine ⟨la, mn, p, mbl, mby, by omega, hp, FrA.rf, hk, hac, ?_, ?_⟩
      · show p_X4_nextDifferences_L168 r (nI s) (nI en) rb (some 1) (nI e) swd kz _ (nI 4) la (nI p) (nI 0) (nI 0) = _
        rw [p_X4_nextDifferences_L168, if_neg (by decide)]
      · show p_X6_readDifferences_L222 (nI ints) (nI s) (nI en) L mf (nI e) mw kx _ _ (nI 4) mn (nI p) (nI 0) (nI 0) mbl mby = _
        rw [p_X6_readDifferences_L222, if_neg (by decide)]
  | succ m ih =>
    intro n k p la mn mbl mby h1 h2 h3 hp hk hac
    cases n with
    | zero => omega
    | succ n =>
      obtain ⟨w, w1, w2, w3⟩ := hwd k (by omega)
      have hX : itr5 (p_X4_nextDifferences_L168 r (nI s) (nI en) rb (some 1) (nI e) swd kz) (n + 1) (nI k) la (nI p) (nI 0) (nI 0) = p_X4_nextDifferences_L168 r (nI s) (nI en) rb (some 1) (nI e) swd kz (fun a b c d f => itr5 (p_X4_nextDifferences_L168 r (nI s) (nI en) rb (some 1) (nI e) swd kz) n a b c d f) (nI k) la (nI p) (nI 0) (nI 0) := rfl
      have hM : itr8 (p_X6_readDifferences_L222 (nI ints) (nI s) (nI en) L mf (nI e) mw kx) (n + 1) (mn (min (s + 32 * k) en - 1)) (nI k) mn (nI p) (nI 0) (nI 0) mbl mby = p_X6_readDifferences_L222 (nI ints) (nI s) (nI en) L mf (nI e) mw kx (fun a b c d f g h i => itr8 (p_X6_readDifferences_L222 (nI ints) (nI s) (nI en) L mf (nI e) mw kx) n a b c d f g h i) (mn (min (s + 32 * k) en - 1)) (nI k) mn (nI p) (nI 0) (nI 0) mbl mby := rfl
      rw [hX, hM, p_X4_nextDifferences_L168, p_X6_readDifferences_L222, if_pos (show nI k < nI 4 by rw [ltI (by omega) (by omega)]; omega), if_pos (show nI k < nI 4 by rw [ltI (by omega) (by omega)]; omega), if_pos (show nI 0 = nI 0 from rfl), mulI, mulI, addI, addI, addI, Nat.mul_comm k 32]
      -- what the reference does after this part
      have hkd : ∀ (v : Int64) (mn1 : Nat → Int64) (sm d q cm bm : Int32), d ≠ nI 0 → itr8 (p_X6_readDifferences_L222 (nI ints) (nI s) (nI en) L mf (nI e) mw kx) n v (nI (k + 1)) mn1 sm d q cm bm = kx v mn1 sm d q cm bm := by
        intro v mn1 sm d q cm bm hd
        cases n with
        | zero => omega
        | succ n =>
          show p_X6_readDifferences_L222 (nI ints) (nI s) (nI en) L mf (nI e) mw kx _ v (nI (k + 1)) mn1 sm d q cm bm = _
          rw [p_X6_readDifferences_L222, if_neg hd, ite_self]
      by_cases ha : s + 32 * k < en
      · have em : min (s + 32 * k + 0) en = min (s + 32 * k) en := by omega
        have em2 : min (s + 32 * (k + 1)) en = min (s + 32 * k + 32) en := by omega
        rw [if_pos (show nI (s + 32 * k) < nI en by rw [ltI (by omega) (by omega)]; exact ha), inbI (by omega), gdD (by omega), ixI (by omega), w2]
        rcases L_part (r := r) (s := s) (en := en) (k := k) (w := w) (ints := ints) (L := L) (mw := mw) (kx := fun v4_53 mn_54 ma_55 mb_56 mba_57 mbl_58 mby_59 => itr8 (p_X6_readDifferences_L222 (nI ints) (nI s) (nI en) L mf (nI e) mw kx) n v4_53 (nI (k + 1)) mn_54 ma_55 mb_56 mba_57 mbl_58 mby_59) hs hi h1s hen (by omega) w1 w3 ha 32 fu 0 p 0 (nI 0) mby la mn (by omega) (by omega) (by rw [fu_eq]; omega) hp ⟨by omega, fun h => absurd rfl h⟩ hk (by rw [em]; exact hac) with ⟨la1, mn1, p1, c1, by1, q1, q2, q3, q4, q5, q6, q7⟩ | ⟨la1, sx, v, mn1, sm, d, q, cm, bm, hd, q3, q6, q7⟩
        · rw [em] at q7
          have q6' : p_X4_nextPacked r (nI (s + 32 * k)) (nI en) (nI 32) (nI w) rb la (some 1) (nI p) (nI e) (nI 0) (nI 0) = some (la1, nI p1, nI 0, nI 0) := q6
          have q7' := q7
          rw [show nI (s + 32 * k + 0) = nI (s + 32 * k) from rfl] at q7'
          have hgo := ih n (k + 1) p1 la1 mn1 (nI c1) by1 (by omega) (by omega) (by omega) q2 q4 (by rw [em2]; exact q5)
          rw [em2] at hgo
          rw [q6', bdS4, q7']
          rcases hgo with ⟨la2, mn2, p2, c2, by2, r1, r2, r3, r4, r5, r6, r7⟩ | ⟨la2, sx, v, mn2, sm, d, q, cm, bm, hd, r3, r6, r7⟩
          · exact Or.inl ⟨la2, mn2, p2, c2, by2, by omega, r2, q3.tr r3, r4, r5, r6, r7⟩
          · exact Or.inr ⟨la2, sx, v, mn2, sm, d, q, cm, bm, hd, q3.tr r3, r6, r7⟩
        · rw [em] at q7
          have q6' : p_X4_nextPacked r (nI (s + 32 * k)) (nI en) (nI 32) (nI w) rb la (some 1) (nI p) (nI e) (nI 0) (nI 0) = some (la1, sx, d, q) := q6
          have q7' := q7
          rw [show nI (s + 32 * k + 0) = nI (s + 32 * k) from rfl] at q7'
          rw [q6', bdS4, q7', d_L168 hd (4 - (k + 1)) n (k + 1) rfl (by omega) (by omega), hkd _ _ _ _ _ _ _ hd]
          exact Or.inr ⟨la1, sx, v, mn1, sm, d, q, cm, bm, hd, q3, rfl, rfl⟩
      · have em : min (s + 32 * k) en = en := by omega
        have em2 : min (s + 32 * (k + 1)) en = en := by omega
        rw [em] at hac ⊢
        have e250 : itr8 (p_X6_readDifferences_L250 (nI ints) (nI s) (nI en) L (nI k) mf (nI e) mw (fun v4_53 mn_54 ma_55 mb_56 mba_57 mbl_58 mby_59 => itr8 (p_X6_readDifferences_L222 (nI ints) (nI s) (nI en) L mf (nI e) mw kx) n v4_53 (nI (k + 1)) mn_54 ma_55 mb_56 mba_57 mbl_58 mby_59)) fu (mn (en - 1)) (nI (s + 32 * k)) mn (nI p) (nI 0) (nI 0) (nI 0) mby = itr8 (p_X6_readDifferences_L222 (nI ints) (nI s) (nI en) L mf (nI e) mw kx) n (mn (en - 1)) (nI (k + 1)) mn (nI p) (nI 0) (nI 0) (nI 0) mby := by
          rw [fu_eq]
          show p_X6_readDifferences_L250 (nI ints) (nI s) (nI en) L (nI k) mf (nI e) mw _ _ (mn (en - 1)) (nI (s + 32 * k)) mn (nI p) (nI 0) (nI 0) (nI 0) mby = _
          rw [p_X6_readDifferences_L250, mulI, addI, addI, if_neg (show ¬ nI (s + 32 * k) < nI en by rw [ltI (by omega) (by omega)]; exact ha), ite_self]
        have e250' := e250
        rw [if_neg (show ¬ nI (s + 32 * k) < nI en by rw [ltI (by omega) (by omega)]; exact ha)]
        have hgo := ih n (k + 1) p la mn (nI 0) mby (by omega) (by omega) (by omega) hp hk (by rw [em2]; exact hac)
        rw [em2] at hgo
        have hxk : itr5 (p_X4_nextDifferences_L168 r (nI s) (nI en) rb (some 1) (nI e) swd kz) n (nI (k + 1)) la (nI p) (nI 0) (nI 0) = kz la (nI p) (nI 0) (nI 0) := by
          cases n with
          | zero => omega
          | succ n =>
            show p_X4_nextDifferences_L168 r (nI s) (nI en) rb (some 1) (nI e) swd kz _ (nI (k + 1)) la (nI p) (nI 0) (nI 0) = _
            rw [p_X4_nextDifferences_L168, mulI, addI, if_neg (show ¬ nI (s + (k + 1) * 32) < nI en by rw [ltI (by omega) (by omega)]; omega), ite_self]
        rw [hxk] at hgo
        have e250'' : itr8 (p_X6_readDifferences_L250 (nI ints) (nI s) (nI en) L (nI k) mf (nI e) mw (fun v4_53 mn_54 ma_55 mb_56 mba_57 mbl_58 mby_59 => itr8 (p_X6_readDifferences_L222 (nI ints) (nI s) (nI en) L mf (nI e) mw kx) n v4_53 (nI k + nI 1) mn_54 ma_55 mb_56 mba_57 mbl_58 mby_59)) fu (mn (en - 1)) (nI (s + 32 * k)) mn (nI p) (nI 0) (nI 0) (nI 0) mby = itr8 (p_X6_readDifferences_L222 (nI ints) (nI s) (nI en) L mf (nI e) mw kx) n (mn (en - 1)) (nI (k + 1)) mn (nI p) (nI 0) (nI 0) (nI 0) mby := by
          rw [addI]
          exact e250
        first
          | rw [e250]; exact hgo
          | rw [e250'']; exact hgo
/-- the class adds the steps up afterwards -/
theorem X_sum_L {r s en ints : Nat} {L : Int64} {kz : (Nat → Nat → Int64) → Option DX} (hi : ints ≤ 1) (h1s : 1 ≤ s) (hen : en ≤ 200) : ∀ (m n t : Nat) (la : Nat → Nat → Int64), en - t = m → s ≤ t → t ≤ en → m < n → ∃ la', itr2 (p_X4_nextDifferences_L221 r (nI ints) (nI en) L kz) n (nI t) la = kz la' ∧ FrA r la la' ∧ ∀ mn, AC ints L r t en la mn → Lk r t la mn → Lk r en la' mn := by
  intro m
  induction m with
  | zero =>
    intro n t la h1 h2 h3 h4
    have : t = en := by omega
    subst this
    cases n with
    | zero => omega
    | succ n =>
      refine ⟨la, ?_, FrA.rf, fun mn _ hk => hk⟩
      show p_X4_nextDifferences_L221 r (nI ints) (nI t) L kz _ (nI t) la = _
      rw [p_X4_nextDifferences_L221, if_neg (by rw [ltI (by omega) (by omega)]; omega)]
  | succ m ih =>
    intro n t la h1 h2 h3 h4
    cases n with
    | zero => omega
    | succ n =>
      obtain ⟨la', e1, f1, g1⟩ := ih n (t + 1) (up la r (up (la r) t (acc ints L (la r (t - 1)) (la r t)))) (by omega) (by omega) (by omega) (by omega)
      refine ⟨la', ?_, FrA.tr (fun q hq => up_n hq) f1, fun mn hac hk => g1 mn ?_ ?_⟩
      · show p_X4_nextDifferences_L221 r (nI ints) (nI en) L kz _ (nI t) la = _
        rw [p_X4_nextDifferences_L221, if_pos (by rw [ltI (by omega) (by omega)]; omega), if_pos (by rw [ltI (by omega) (by omega)]; omega), subI (show 1 ≤ t by omega), inbI (by omega), gdD (by omega), inbI (by omega), gdD (by omega), gdD (by omega), gdD (by omega), ixI (by omega), ixI (by omega), addI, ← e1]
        unfold acc
        by_cases i0 : ints = 0
        · rw [if_pos (show nI ints = nI 0 by rw [i0]), if_pos i0]
        · rw [if_neg (show ¬ nI ints = nI 0 by rw [eqI (by omega) (by omega)]; exact i0), if_neg i0]
      · intro j hj1 hj2
        rw [up_s, up_n (show j ≠ t by omega)]
        exact hac j (by omega) hj2
      · intro j hj
        rw [up_s]
        by_cases e : j = t
        · subst e
          rw [up_s, hac j (Nat.le_refl _) (by omega), hk (j - 1) (by omega)]
        · rw [up_n e]
          exact hk j (by omega)
end
section
abbrev DifO (ints r n0 p e : Nat) (la : Nat → Nat → Int64) (x : Option DX) (m : Option DM) : Prop :=
  (∃ la' mn' p' swd' c b mw', p ≤ p' ∧ p' ≤ e ∧ FrA r la la' ∧ LkI ints r n0 la' mn' ∧ x = some (la', nI p', nI 0, nI 0, swd') ∧ m = some (nI 1, mn', nI p', nI 0, nI 0, c, b, mw')) ∨
  (∃ la' sx swd' d q, d ≠ nI 0 ∧ FrA r la la' ∧ x = some (la', sx, d, q, swd') ∧ DeadM d q m)
theorem DifO.mono {ints r n0 p p1 e : Nat} {la la1 : Nat → Nat → Int64} {x : Option DX} {m : Option DM} (h : DifO ints r n0 p1 e la1 x m) (hp : p ≤ p1) (hf : FrA r la la1) : DifO ints r n0 p e la x m := by
  rcases h with ⟨la', mn', p', s', c, b, mw', h1, h2, h3, h4, h5, h6⟩ | ⟨la', sx, s', d, q, h1, h2, h3, h4⟩
  · exact Or.inl ⟨la', mn', p', s', c, b, mw', by omega, h2, hf.tr h3, h4, h5, h6⟩
  · exact Or.inr ⟨la', sx, s', d, q, h1, hf.tr h2, h3, h4⟩
theorem L_blocks {r n0 ints : Nat} {rb : Nat → Nat → Int32} {mf : Nat → Int32} {e : Nat} (hs : Src rb mf e) (hi : ints ≤ 1) (hn : n0 ≤ 200) : ∀ (m n s p : Nat) (la : Nat → Nat → Int64) (mn : Nat → Int64) (v4 : Int64) (swd mw : Nat → Int32) (mbl mby : Int32), n0 - s ≤ m → 1 ≤ s → s ≤ n0 + 200 → m + 2 < n → p ≤ e → LkI ints r (min s n0) la mn → (s < n0 → v4 = mn (s - 1)) → DifO ints r n0 p e la (itr6 (p_X4_nextDifferences_L111 r (nI n0) (nI ints) rb (some 1) (nI e)) n (nI s) la (nI p) (nI 0) (nI 0) swd) (itr9 (p_X6_readDifferences_L80 (nI n0) (nI ints) mf (nI e)) n v4 (nI s) mn (nI p) (nI 0) (nI 0) mbl mby mw) := by
  have he := hs.1
  have over : ∀ (n s p : Nat) (la : Nat → Nat → Int64) (mn : Nat → Int64) (v4 : Int64) (swd mw : Nat → Int32) (mbl mby : Int32), n0 ≤ s → s ≤ n0 + 200 → 0 < n → p ≤ e → LkI ints r (min s n0) la mn → DifO ints r n0 p e la (itr6 (p_X4_nextDifferences_L111 r (nI n0) (nI ints) rb (some 1) (nI e)) n (nI s) la (nI p) (nI 0) (nI 0) swd) (itr9 (p_X6_readDifferences_L80 (nI n0) (nI ints) mf (nI e)) n v4 (nI s) mn (nI p) (nI 0) (nI 0) mbl mby mw) := by
    intro n s p la mn v4 swd mw mbl mby h1 h2 h3 hp hk
    cases n with
    | zero => omega
    | succ n =>
      have em : min s n0 = n0 := by omega
      rw [em] at hk
      left
      refine ⟨la, mn, p, swd, mbl, mby, mw, by omega, hp, FrA.rf, hk, ?_, ?_⟩
      · show p_X4_nextDifferences_L111 r (nI n0) (nI ints) rb (some 1) (nI e) _ (nI s) la (nI p) (nI 0) (nI 0) swd = _
        rw [p_X4_nextDifferences_L111, if_neg (by rw [ltI (by omega) (by omega)]; omega)]
      · show p_X6_readDifferences_L80 (nI n0) (nI ints) mf (nI e) _ v4 (nI s) mn (nI p) (nI 0) (nI 0) mbl mby mw = _
        rw [p_X6_readDifferences_L80, if_neg (by rw [ltI (by omega) (by omega)]; omega)]
  intro m
  induction m with
  | zero =>
    intro n s p la mn v4 swd mw mbl mby h1 h1s h2 h3 hp hk hv
    exact over n s p la mn v4 swd mw mbl mby (by omega) h2 (by omega) hp hk
  | succ m ih =>
    intro n s p la mn v4 swd mw mbl mby h1 h1s h2 h3 hp hk hv
    by_cases hsn : s < n0
    · cases n with
      | zero => omega
      | succ n =>
        have em : min s n0 = s := by omega
        rw [em] at hk
        have hv4 := hv hsn
        subst hv4
        have hX : itr6 (p_X4_nextDifferences_L111 r (nI n0) (nI ints) rb (some 1) (nI e)) (n + 1) (nI s) la (nI p) (nI 0) (nI 0) swd = p_X4_nextDifferences_L111 r (nI n0) (nI ints) rb (some 1) (nI e) (fun a b c d f g => itr6 (p_X4_nextDifferences_L111 r (nI n0) (nI ints) rb (some 1) (nI e)) n a b c d f g) (nI s) la (nI p) (nI 0) (nI 0) swd := rfl
        have hM : itr9 (p_X6_readDifferences_L80 (nI n0) (nI ints) mf (nI e)) (n + 1) (mn (s - 1)) (nI s) mn (nI p) (nI 0) (nI 0) mbl mby mw = p_X6_readDifferences_L80 (nI n0) (nI ints) mf (nI e) (fun a b c d f g h i j => itr9 (p_X6_readDifferences_L80 (nI n0) (nI ints) mf (nI e)) n a b c d f g h i j) (mn (s - 1)) (nI s) mn (nI p) (nI 0) (nI 0) mbl mby mw := rfl
        -- the block from s to en
        have block : ∀ en, en = min (s + 128) n0 → DifO ints r n0 p e la
            (bd4 (p_X4_nextVar rb (some 1) (nI p) (nI e) (nI 0) (nI 0)) fun a_33 ssp_34 str_35 stp_36 => bd1 (p_X5_unzigged a_33) fun a_38 => bd4 (p_X4_nextWidths (nI (en - s)) (nI (if ints = 0 then 64 else 32)) rb (some 1) ssp_34 (nI e) str_35 stp_36 swd) fun ssp_40 str_41 stp_42 swd_43 => itr5 (p_X4_nextDifferences_L168 r (nI s) (nI en) rb (some 1) (nI e) swd_43 (fun la_51 ssp_52 str_53 stp_54 => itr2 (p_X4_nextDifferences_L221 r (nI ints) (nI en) a_38 (fun la_59 => itr6 (p_X4_nextDifferences_L111 r (nI n0) (nI ints) rb (some 1) (nI e)) n (nI (s + 128)) la_59 ssp_52 str_53 stp_54 swd_43)) fu (nI s) la_51)) fu (nI 0) la ssp_40 str_41 stp_42)
            (bd4 (p_X6_readZig mf (nI p) (nI e) (nI 0) (nI 0)) fun a_22 ma_23 mb_24 mba_25 => itr5 (p_X6_readDifferences_L117 (nI ints) (nI s) (nI en) mf mn (nI e) mbl mby (fun ma_39 mb_40 mba_41 mw_42 => itr8 (p_X6_readDifferences_L222 (nI ints) (nI s) (nI en) a_22 mf (nI e) mw_42 (fun v4_60 mn_61 ma_62 mb_63 mba_64 mbl_65 mby_66 => p_X6_readDifferences_J352 v4_60 (nI s) mn_61 ma_62 mb_63 mba_64 mbl_65 mby_66 mw_42 (fun a b c d f g h i j => itr9 (p_X6_readDifferences_L80 (nI n0) (nI ints) mf (nI e)) n a b c d f g h i j))) fu (mn (s - 1)) (nI 0) mn ma_39 mb_40 mba_41 mbl mby)) fu (nI 0) ma_23 mb_24 mba_25 mw) := by
          intro en hen
          have hse : s < en := by omega
          have hj352 : ∀ (v : Int64) (mn1 : Nat → Int64) (sm d q cm bm : Int32) (mw1 : Nat → Int32), d ≠ nI 0 → DeadM d q (p_X6_readDifferences_J352 v (nI s) mn1 sm d q cm bm mw1 (fun a b c d f g h i j => itr9 (p_X6_readDifferences_L80 (nI n0) (nI ints) mf (nI e)) n a b c d f g h i j)) := by
            intro v mn1 sm d q cm bm mw1 hd
            rw [p_X6_readDifferences_J352, if_neg hd]
            exact ⟨_, _, _, _, _, rfl⟩
          have hkx : ∀ (L : Int64) (sm d q : Int32) (mw' : Nat → Int32), d ≠ nI 0 → DeadM d q (itr8 (p_X6_readDifferences_L222 (nI ints) (nI s) (nI en) L mf (nI e) mw' (fun v4_60 mn_61 ma_62 mb_63 mba_64 mbl_65 mby_66 => p_X6_readDifferences_J352 v4_60 (nI s) mn_61 ma_62 mb_63 mba_64 mbl_65 mby_66 mw' (fun a b c d f g h i j => itr9 (p_X6_readDifferences_L80 (nI n0) (nI ints) mf (nI e)) n a b c d f g h i j))) fu (mn (s - 1)) (nI 0) mn sm d q mbl mby) := by
            intro L sm d q mw' hd
            rw [fu_eq]
            show DeadM d q (p_X6_readDifferences_L222 (nI ints) (nI s) (nI en) L mf (nI e) mw' _ _ (mn (s - 1)) (nI 0) mn sm d q mbl mby)
            rw [p_X6_readDifferences_L222, if_neg hd, ite_self]
            exact hj352 (mn (s - 1)) mn sm d q mbl mby mw' hd
          have xend : ∀ (L : Int64) (la1 : Nat → Nat → Int64) (sx d q : Int32) (swd1 : Nat → Int32), d ≠ nI 0 → ∃ la2, itr2 (p_X4_nextDifferences_L221 r (nI ints) (nI en) L (fun la_59 => itr6 (p_X4_nextDifferences_L111 r (nI n0) (nI ints) rb (some 1) (nI e)) n (nI (s + 128)) la_59 sx d q swd1)) fu (nI s) la1 = some (la2, sx, d, q, swd1) ∧ FrA r la1 la2 := by
            intro L la1 sx d q swd1 hd
            obtain ⟨la2, e1, f1, _⟩ := X_sum_L (r := r) (s := s) (en := en) (ints := ints) (L := L) (kz := fun la_59 => itr6 (p_X4_nextDifferences_L111 r (nI n0) (nI ints) rb (some 1) (nI e)) n (nI (s + 128)) la_59 sx d q swd1) hi h1s (by omega) (en - s) fu s la1 rfl (by omega) (by omega) (by rw [fu_eq]; omega)
            refine ⟨la2, e1.trans ?_, f1⟩
            cases n with
            | zero => omega
            | succ n =>
              show p_X4_nextDifferences_L111 r (nI n0) (nI ints) rb (some 1) (nI e) _ (nI (s + 128)) la2 sx d q swd1 = _
              rw [p_X4_nextDifferences_L111, if_neg hd, ite_self]
          rcases L_zig hs hp with ⟨v, p1, q1, q2, q3, q4⟩ | ⟨vx, sx, vm, sm, d, q, hd, q3, q4⟩
          · rw [q3, q4, bdS4, bdS4, X_unz, bdS1]
            unfold p_X4_nextWidths
            rcases L_widths_L (mn := mn) (mbl := mbl) (mby := mby) (kx := fun ma_39 mb_40 mba_41 mw_42 => itr8 (p_X6_readDifferences_L222 (nI ints) (nI s) (nI en) (unz v) mf (nI e) mw_42 (fun v4_60 mn_61 ma_62 mb_63 mba_64 mbl_65 mby_66 => p_X6_readDifferences_J352 v4_60 (nI s) mn_61 ma_62 mb_63 mba_64 mbl_65 mby_66 mw_42 (fun a b c d f g h i j => itr9 (p_X6_readDifferences_L80 (nI n0) (nI ints) mf (nI e)) n a b c d f g h i j))) fu (mn (s - 1)) (nI 0) mn ma_39 mb_40 mba_41 mbl mby) hs hi hse (show en ≤ 200 by omega) (fun sm d q mw' hd => hkx (unz v) sm d q mw' hd) 4 fu 0 p1 swd mw (by omega) (by omega) (by rw [fu_eq]; omega) q2 (fun j hj => by omega) with ⟨p2, swd2, mw2, r1, r2, r3, r4, r5⟩ | ⟨sx, d, q, swd2, hd, r4, r5⟩
            · rw [r4, bdS4, r5]
              have em0 : min (s + 32 * 0) en = s := by omega
              rcases L_parts (r := r) (s := s) (en := en) (ints := ints) (L := unz v) (swd := swd2) (mw := mw2) (kz := fun la_51 ssp_52 str_53 stp_54 => itr2 (p_X4_nextDifferences_L221 r (nI ints) (nI en) (unz v) (fun la_59 => itr6 (p_X4_nextDifferences_L111 r (nI n0) (nI ints) rb (some 1) (nI e)) n (nI (s + 128)) la_59 ssp_52 str_53 stp_54 swd2)) fu (nI s) la_51) (kx := fun v4_60 mn_61 ma_62 mb_63 mba_64 mbl_65 mby_66 => p_X6_readDifferences_J352 v4_60 (nI s) mn_61 ma_62 mb_63 mba_64 mbl_65 mby_66 mw2 (fun a b c d f g h i j => itr9 (p_X6_readDifferences_L80 (nI n0) (nI ints) mf (nI e)) n a b c d f g h i j)) hs hi h1s hse (by omega) (by omega) r3 4 fu 0 p2 la mn mbl mby (by omega) (by omega) (by rw [fu_eq]; omega) r2 hk (by rw [em0]; intro t ht1 ht2; omega) with ⟨la3, mn3, p3, c3, by3, u1, u2, u3, u4, u5, u6, u7⟩ | ⟨la3, sx, vv, mn3, sm, d, q, cm, bm, hd, u3, u6, u7⟩
              · rw [em0] at u7
                rw [u6, u7, p_X6_readDifferences_J352, if_pos (show nI 0 = nI 0 from rfl), addI]
                obtain ⟨la4, e4, f4, g4⟩ := X_sum_L (r := r) (s := s) (en := en) (ints := ints) (L := unz v) (kz := fun la_59 => itr6 (p_X4_nextDifferences_L111 r (nI n0) (nI ints) rb (some 1) (nI e)) n (nI (s + 128)) la_59 (nI p3) (nI 0) (nI 0) swd2) hi h1s (by omega) (en - s) fu s la3 rfl (by omega) (by omega) (by rw [fu_eq]; omega)
                rw [e4]
                have hk4 : LkI ints r en la4 mn3 := ⟨g4 mn3 u5 u4.1, fun h0 t ht => by
                  by_cases hts : t < s
                  · exact u4.2 h0 t hts
                  · rw [u5 t (by omega) ht]
                    unfold acc
                    rw [if_neg h0]
                    exact isI_i _⟩
                have hmin : min (s + 128) n0 = en := hen.symm
                have := ih n (s + 128) p3 la4 mn3 (mn3 (en - 1)) swd2 mw2 c3 by3 (by omega) (by omega) (by omega) (by omega) u2 (by rw [hmin]; exact hk4) (fun hlt => by rw [show en = s + 128 by omega])
                exact this.mono (by omega) (u3.tr f4)
              · rw [em0] at u7
                rw [u6, u7]
                obtain ⟨la4, e4, f4⟩ := xend (unz v) la3 sx d q swd2 hd
                exact Or.inr ⟨la4, sx, swd2, d, q, hd, u3.tr f4, e4, hj352 vv mn3 sm d q cm bm mw2 hd⟩
            · rw [r4, bdS4, d_L168 hd 4 fu 0 (by omega) (by omega) (by rw [fu_eq]; omega)]
              obtain ⟨la4, e4, f4⟩ := xend (unz v) la sx d q swd2 hd
              exact Or.inr ⟨la4, sx, swd2, d, q, hd, f4, e4, r5⟩
          · rw [q3, q4, bdS4, bdS4, X_unz, bdS1]
            obtain ⟨swd2, r4⟩ := d_widths (v1 := nI (en - s)) (v2 := nI (if ints = 0 then 64 else 32)) (rb := rb) (srow := some 1) (ssp := sx) (sen := nI e) (stp := q) (swd := swd) hd
            rw [r4, bdS4, d_L168 hd 4 fu 0 (by omega) (by omega) (by rw [fu_eq]; omega)]
            obtain ⟨la4, e4, f4⟩ := xend (unz vx) la sx d q swd2 hd
            refine Or.inr ⟨la4, sx, swd2, d, q, hd, f4, e4, ?_⟩
            rw [fu_eq]
            show DeadM d q (p_X6_readDifferences_L117 (nI ints) (nI s) (nI en) mf mn (nI e) mbl mby _ _ (nI 0) sm d q mw)
            rw [p_X6_readDifferences_L117, if_neg hd, ite_self]
            exact hkx vm sm d q mw hd
        rw [hX, hM, p_X4_nextDifferences_L111, p_X6_readDifferences_L80, if_pos (show nI s < nI n0 by rw [ltI (by omega) (by omega)]; exact hsn), if_pos (show nI s < nI n0 by rw [ltI (by omega) (by omega)]; exact hsn), if_pos (show nI 0 = nI 0 from rfl), addI, iminI (by omega) (by omega), subI (show s ≤ min (s + 128) n0 by omega)]
        have hb := block (min (s + 128) n0) rfl
        have hMe : (if nI (s + 128) < nI n0 then (bd4 (p_X6_readZig mf (nI p) (nI e) (nI 0) (nI 0)) fun a_22 ma_23 mb_24 mba_25 => itr5 (p_X6_readDifferences_L117 (nI ints) (nI s) (nI (s + 128)) mf mn (nI e) mbl mby (fun ma_39 mb_40 mba_41 mw_42 => itr8 (p_X6_readDifferences_L222 (nI ints) (nI s) (nI (s + 128)) a_22 mf (nI e) mw_42 (fun v4_60 mn_61 ma_62 mb_63 mba_64 mbl_65 mby_66 => p_X6_readDifferences_J352 v4_60 (nI s) mn_61 ma_62 mb_63 mba_64 mbl_65 mby_66 mw_42 (fun a b c d f g h i j => itr9 (p_X6_readDifferences_L80 (nI n0) (nI ints) mf (nI e)) n a b c d f g h i j))) fu (mn (s - 1)) (nI 0) mn ma_39 mb_40 mba_41 mbl mby)) fu (nI 0) ma_23 mb_24 mba_25 mw) else (bd4 (p_X6_readZig mf (nI p) (nI e) (nI 0) (nI 0)) fun a_67 ma_68 mb_69 mba_70 => itr5 (p_X6_readDifferences_L117 (nI ints) (nI s) (nI n0) mf mn (nI e) mbl mby (fun ma_72 mb_73 mba_74 mw_75 => itr8 (p_X6_readDifferences_L222 (nI ints) (nI s) (nI n0) a_67 mf (nI e) mw_75 (fun v4_76 mn_77 ma_78 mb_79 mba_80 mbl_81 mby_82 => p_X6_readDifferences_J352 v4_76 (nI s) mn_77 ma_78 mb_79 mba_80 mbl_81 mby_82 mw_75 (fun a b c d f g h i j => itr9 (p_X6_readDifferences_L80 (nI n0) (nI ints) mf (nI e)) n a b c d f g h i j))) fu (mn (s - 1)) (nI 0) mn ma_72 mb_73 mba_74 mbl mby)) fu (nI 0) ma_68 mb_69 mba_70 mw)) = (bd4 (p_X6_readZig mf (nI p) (nI e) (nI 0) (nI 0)) fun a_22 ma_23 mb_24 mba_25 => itr5 (p_X6_readDifferences_L117 (nI ints) (nI s) (nI (min (s + 128) n0)) mf mn (nI e) mbl mby (fun ma_39 mb_40 mba_41 mw_42 => itr8 (p_X6_readDifferences_L222 (nI ints) (nI s) (nI (min (s + 128) n0)) a_22 mf (nI e) mw_42 (fun v4_60 mn_61 ma_62 mb_63 mba_64 mbl_65 mby_66 => p_X6_readDifferences_J352 v4_60 (nI s) mn_61 ma_62 mb_63 mba_64 mbl_65 mby_66 mw_42 (fun a b c d f g h i j => itr9 (p_X6_readDifferences_L80 (nI n0) (nI ints) mf (nI e)) n a b c d f g h i j))) fu (mn (s - 1)) (nI 0) mn ma_39 mb_40 mba_41 mbl mby)) fu (nI 0) ma_23 mb_24 mba_25 mw) := by
          by_cases hlt : s + 128 < n0
          · rw [if_pos (by rw [ltI (by omega) (by omega)]; exact hlt), show min (s + 128) n0 = s + 128 by omega]
          · rw [if_neg (by rw [ltI (by omega) (by omega)]; exact hlt), show min (s + 128) n0 = n0 by omega]
        rw [← hMe] at hb
        by_cases i0 : ints = 0
        · subst i0
          simp only [if_pos (show nI 0 = nI 0 from rfl)]
          rw [if_pos (show 0 = 0 from rfl)] at hb
          exact hb
        · simp only [if_neg (show ¬ nI ints = nI 0 by rw [eqI (by omega) (by omega)]; exact i0)]
          rw [if_neg i0] at hb
          exact hb
    · exact over n s p la mn v4 swd mw mbl mby (by omega) h2 (by omega) hp hk
end
section
abbrev DifT (ints r n0 p e : Nat) (la : Nat → Nat → Int64) (x : Option DX) (m : Option DM) : Prop :=
  (∃ la' mn' p' swd' c b mw', p ≤ p' ∧ p' ≤ e ∧ FrA r la la' ∧ LkI ints r n0 la' mn' ∧ x = some (la', nI p', nI 0, nI 0, swd') ∧ m = some (nI 1, mn', nI p', nI 0, nI 0, c, b, mw')) ∨
  (∃ la' sx swd' d q, d ≠ nI 0 ∧ x = some (la', sx, d, q, swd') ∧ DeadM d q m)
theorem DifO.t {ints r n0 p p1 e : Nat} {la la1 : Nat → Nat → Int64} {x : Option DX} {m : Option DM} (h : DifO ints r n0 p1 e la1 x m) (hp : p ≤ p1) (hf : FrA r la la1) : DifT ints r n0 p e la x m := by
  rcases h with ⟨la', mn', p', s', c, b, mw', h1, h2, h3, h4, h5, h6⟩ | ⟨la', sx, s', d, q, h1, h2, h3, h4⟩
  · exact Or.inl ⟨la', mn', p', s', c, b, mw', by omega, h2, hf.tr h3, h4, h5, h6⟩
  · exact Or.inr ⟨la', sx, s', d, q, h1, h3, h4⟩
/-- the reference wants a number: it is there, or it is another, or there is none -/
theorem L_wants {c : Int64} {pos : Int32} {rb : Nat → Nat → Int32} {mf : Nat → Int32} {p e : Nat} (hs : Src rb mf e) (hp : p ≤ e) :
    (∃ p1, p + 1 ≤ p1 ∧ p1 ≤ e ∧ p_X4_nextVar rb (some 1) (nI p) (nI e) (nI 0) (nI 0) = some (c, nI p1, nI 0, nI 0) ∧ p_X6_wants c pos mf (nI p) (nI e) (nI 0) (nI 0) = some (nI 1, nI p1, nI 0, nI 0)) ∨
    (∃ v p1, v ≠ c ∧ p_X4_nextVar rb (some 1) (nI p) (nI e) (nI 0) (nI 0) = some (v, nI p1, nI 0, nI 0) ∧ p_X6_wants c pos mf (nI p) (nI e) (nI 0) (nI 0) = some (nI 0, nI p1, nI 5, pos)) ∨
    (∃ v sx sm d q, d ≠ nI 0 ∧ p_X4_nextVar rb (some 1) (nI p) (nI e) (nI 0) (nI 0) = some (v, sx, d, q) ∧ p_X6_wants c pos mf (nI p) (nI e) (nI 0) (nI 0) = some (nI 0, sm, d, q)) := by
  unfold p_X6_wants
  rcases L_var hs hp with ⟨v, p1, q1, q2, q3, q4⟩ | ⟨vx, sx, vm, sm, d, q, hd, q3, q4⟩
  · rw [q4, bdS4, if_pos (show nI 0 = nI 0 from rfl)]
    by_cases e1 : v = c
    · left
      refine ⟨p1, q1, q2, by rw [q3, e1], by rw [if_pos e1]⟩
    · right; left
      refine ⟨v, p1, e1, q3, ?_⟩
      rw [if_neg e1]
      rfl
  · right; right
    refine ⟨vx, sx, sm, d, q, hd, q3, ?_⟩
    rw [q4, bdS4, if_neg hd]
theorem L_diffs {r n0 ints p e : Nat} {rb : Nat → Nat → Int32} {mf : Nat → Int32} {la : Nat → Nat → Int64} {mn : Nat → Int64} {swd mw : Nat → Int32} {mbl mby : Int32} (hs : Src rb mf e) (hi : ints ≤ 1) (hn : n0 ≤ 200) (hp : p ≤ e) : DifT ints r n0 p e la (p_X4_nextDifferences r (nI n0) (nI ints) rb la (some 1) (nI p) (nI e) (nI 0) (nI 0) swd) (p_X6_readDifferences (nI n0) (nI ints) mf mn (nI p) (nI e) (nI 0) (nI 0) mbl mby mw) := by
  have b23 : ∀ ssp, p_X4_nextDifferences_J23 r (nI n0) (nI ints) (nI p) (nI 0) rb la (some 1) ssp (nI e) (nI 0) (nI 0) swd = p_X4_nextDifferences_J23 r (nI n0) (nI ints) (nI p) (nI 1) rb la (some 1) ssp (nI e) (nI 5) (nI p) swd := by
    intro ssp
    unfold p_X4_nextDifferences_J23
    rw [demF, d_demand (show nI 5 ≠ nI 0 by decide)]
  have b46 : ∀ ssp, p_X4_nextDifferences_J46 r (nI n0) (nI ints) (nI p) (nI 0) rb la (some 1) ssp (nI e) (nI 0) (nI 0) swd = p_X4_nextDifferences_J46 r (nI n0) (nI ints) (nI p) (nI 1) rb la (some 1) ssp (nI e) (nI 5) (nI p) swd := by
    intro ssp
    unfold p_X4_nextDifferences_J46
    rw [demF, d_demand (show nI 5 ≠ nI 0 by decide)]
  have b68 : ∀ ssp, p_X4_nextDifferences_J68 r (nI n0) (nI ints) (nI p) (nI 0) rb la (some 1) ssp (nI e) (nI 0) (nI 0) swd = p_X4_nextDifferences_J68 r (nI n0) (nI ints) (nI p) (nI 1) rb la (some 1) ssp (nI e) (nI 5) (nI p) swd := by
    intro ssp
    unfold p_X4_nextDifferences_J68
    rw [demF, d_demand (show nI 5 ≠ nI 0 by decide)]
  have dm : ∀ (d q sm : Int32), DeadM d q (some (nI 0, mn, sm, d, q, mbl, mby, mw)) := fun d q sm => ⟨_, _, _, _, _, rfl⟩
  have w1 := L_wants (c := lN 128) (pos := nI p) hs hp
  unfold p_X4_nextDifferences p_X6_readDifferences
  rcases w1 with ⟨p1, h1, h2, e1, e2⟩ | ⟨v, p1, hv, e1, e2⟩ | ⟨v, sx, sm, d, q, hd, e1, e2⟩
  · rw [e1, bdS4, e2, bdS4, if_pos (show lN 128 = lN 128 from rfl), if_neg (show ¬ nI 1 = nI 0 by decide), p_X4_nextDifferences_J23, demT, bdS2]
    rcases L_wants (c := lN 4) (pos := nI p) hs h2 with ⟨p2, h3, h4, e3, e4⟩ | ⟨v, p2, hv, e3, e4⟩ | ⟨v, sx, sm, d, q, hd, e3, e4⟩
    · rw [e3, bdS4, e4, bdS4, if_pos (show lN 4 = lN 4 from rfl), if_neg (show ¬ nI 1 = nI 0 by decide), p_X4_nextDifferences_J46, demT, bdS2, i2lI (by omega)]
      rcases L_wants (c := lN n0) (pos := nI p) hs h4 with ⟨p3, h5, h6, e5, e6⟩ | ⟨v, p3, hv, e5, e6⟩ | ⟨v, sx, sm, d, q, hd, e5, e6⟩
      · rw [e5, bdS4, e6, bdS4, if_pos (show lN n0 = lN n0 from rfl), if_neg (show ¬ nI 1 = nI 0 by decide), p_X4_nextDifferences_J68, demT, bdS2]
        rcases L_zig hs h6 with ⟨a, p4, h7, h8, e7, e8⟩ | ⟨vx, sx, vm, sm, d, q, hd, e7, e8⟩
        · rw [e7, bdS4, X_unz, bdS1, e8, bdS4, if_pos (show nI 0 = nI 0 from rfl), gdT (by decide), gdT (by decide), gdT (by decide), gdT (by decide), if_pos (show nI 0 < nI 200 by decide), show ix (nI 0) = 0 from rfl]
          have go : ∀ (x : Int64), (ints ≠ 0 → isI x) → DifT ints r n0 p e la (if nI 0 < nI n0 then itr6 (p_X4_nextDifferences_L111 r (nI n0) (nI ints) rb (some 1) (nI e)) fu (nI 1) (up la r (up (la r) 0 x)) (nI p4) (nI 0) (nI 0) swd else itr6 (p_X4_nextDifferences_L111 r (nI n0) (nI ints) rb (some 1) (nI e)) fu (nI 1) la (nI p4) (nI 0) (nI 0) swd) (itr9 (p_X6_readDifferences_L80 (nI n0) (nI ints) mf (nI e)) fu x (nI 1) (up mn 0 x) (nI p4) (nI 0) (nI 0) mbl mby mw) := by
            intro x hx
            by_cases hn0 : 0 < n0
            · rw [if_pos (show nI 0 < nI n0 by rw [ltI (by omega) (by omega)]; exact hn0)]
              have hk : LkI ints r (min 1 n0) (up la r (up (la r) 0 x)) (up mn 0 x) := by
                refine ⟨fun t ht => ?_, fun h0 t ht => ?_⟩
                · have : t = 0 := by omega
                  subst this
                  rw [up_s, up_s, up_s]
                · have : t = 0 := by omega
                  subst this
                  rw [up_s]
                  exact hx h0
              exact (L_blocks hs hi hn 200 fu 1 p4 (up la r (up (la r) 0 x)) (up mn 0 x) x swd mw mbl mby (by omega) (by omega) (by omega) (by rw [fu_eq]; omega) h8 hk (fun _ => up_s.symm)).t (by omega) (fun q hq => up_n hq)
            · rw [if_neg (show ¬ nI 0 < nI n0 by rw [ltI (by omega) (by omega)]; exact hn0)]
              exact (L_blocks hs hi hn 200 fu 1 p4 la (up mn 0 x) x swd mw mbl mby (by omega) (by omega) (by omega) (by rw [fu_eq]; omega) h8 ⟨fun t ht => by omega, fun _ t ht => by omega⟩ (fun h => by omega)).t (by omega) FrA.rf
          by_cases i0 : ints = 0
          · subst i0
            rw [if_pos (show nI 0 = nI 0 from rfl), if_pos (show nI 0 = nI 0 from rfl)]
            exact go (unz a) (fun h => absurd rfl h)
          · rw [if_neg (show ¬ nI ints = nI 0 by rw [eqI (by omega) (by omega)]; exact i0), if_neg (show ¬ nI ints = nI 0 by rw [eqI (by omega) (by omega)]; exact i0)]
            exact go (i2l (l2i (unz a))) (fun _ => isI_i _)
        · right
          have hj : ∃ la', p_X4_nextDifferences_J68 r (nI n0) (nI ints) (nI p) (nI 1) rb la (some 1) (nI p3) (nI e) (nI 0) (nI 0) swd = some (la', sx, d, q, swd) := by
            rw [p_X4_nextDifferences_J68, demT, bdS2, e7, bdS4, X_unz, bdS1, gdT (by decide), gdT (by decide)]
            simp only [d_diffs_L hd]
            split
            · split
              · split
                · exact ⟨_, rfl⟩
                · exact ⟨_, rfl⟩
              · exact ⟨_, rfl⟩
            · exact ⟨_, rfl⟩
          obtain ⟨la', hj⟩ := hj
          rw [p_X4_nextDifferences_J68, demT, bdS2] at hj
          rw [hj, e8, bdS4, if_neg hd]
          exact ⟨la', sx, swd, d, q, hd, rfl, dm d q sm⟩
      · right
        obtain ⟨la', g⟩ := d_J68 (v1 := r) (v2 := nI n0) (v3 := nI ints) (v4 := nI p) (s1 := nI 1) (rb := rb) (la := la) (srow := some 1) (ssp := nI p3) (sen := nI e) (str := nI 5) (stp := nI p) (swd := swd) (by decide)
        rw [e5, bdS4, e6, bdS4, if_neg hv, if_pos (show nI 0 = nI 0 from rfl), b68, g]
        exact ⟨la', _, swd, nI 5, nI p, by decide, rfl, dm _ _ _⟩
      · right
        obtain ⟨la0, g0⟩ := d_J68 (v1 := r) (v2 := nI n0) (v3 := nI ints) (v4 := nI p) (s1 := nI 0) (rb := rb) (la := la) (srow := some 1) (ssp := sx) (sen := nI e) (str := d) (stp := q) (swd := swd) hd
        obtain ⟨la1, g1⟩ := d_J68 (v1 := r) (v2 := nI n0) (v3 := nI ints) (v4 := nI p) (s1 := nI 1) (rb := rb) (la := la) (srow := some 1) (ssp := sx) (sen := nI e) (str := d) (stp := q) (swd := swd) hd
        rw [e5, bdS4, e6, bdS4, if_pos (show nI 0 = nI 0 from rfl), g0, g1]
        split
        · exact ⟨la1, _, swd, d, q, hd, rfl, dm _ _ _⟩
        · exact ⟨la0, _, swd, d, q, hd, rfl, dm _ _ _⟩
    · right
      obtain ⟨la', g⟩ := d_J46 (v1 := r) (v2 := nI n0) (v3 := nI ints) (v4 := nI p) (s1 := nI 1) (rb := rb) (la := la) (srow := some 1) (ssp := nI p2) (sen := nI e) (str := nI 5) (stp := nI p) (swd := swd) (by decide)
      rw [e3, bdS4, e4, bdS4, if_neg hv, if_pos (show nI 0 = nI 0 from rfl), b46, g]
      exact ⟨la', _, swd, nI 5, nI p, by decide, rfl, dm _ _ _⟩
    · right
      obtain ⟨la0, g0⟩ := d_J46 (v1 := r) (v2 := nI n0) (v3 := nI ints) (v4 := nI p) (s1 := nI 0) (rb := rb) (la := la) (srow := some 1) (ssp := sx) (sen := nI e) (str := d) (stp := q) (swd := swd) hd
      obtain ⟨la1, g1⟩ := d_J46 (v1 := r) (v2 := nI n0) (v3 := nI ints) (v4 := nI p) (s1 := nI 1) (rb := rb) (la := la) (srow := some 1) (ssp := sx) (sen := nI e) (str := d) (stp := q) (swd := swd) hd
      rw [e3, bdS4, e4, bdS4, if_pos (show nI 0 = nI 0 from rfl), g0, g1]
      split
      · exact ⟨la1, _, swd, d, q, hd, rfl, dm _ _ _⟩
      · exact ⟨la0, _, swd, d, q, hd, rfl, dm _ _ _⟩
  · right
    obtain ⟨la', g⟩ := d_J23 (v1 := r) (v2 := nI n0) (v3 := nI ints) (v4 := nI p) (s1 := nI 1) (rb := rb) (la := la) (srow := some 1) (ssp := nI p1) (sen := nI e) (str := nI 5) (stp := nI p) (swd := swd) (by decide)
    rw [e1, bdS4, e2, bdS4, if_neg hv, if_pos (show nI 0 = nI 0 from rfl), b23, g]
    exact ⟨la', _, swd, nI 5, nI p, by decide, rfl, dm _ _ _⟩
  · right
    obtain ⟨la0, g0⟩ := d_J23 (v1 := r) (v2 := nI n0) (v3 := nI ints) (v4 := nI p) (s1 := nI 0) (rb := rb) (la := la) (srow := some 1) (ssp := sx) (sen := nI e) (str := d) (stp := q) (swd := swd) hd
    obtain ⟨la1, g1⟩ := d_J23 (v1 := r) (v2 := nI n0) (v3 := nI ints) (v4 := nI p) (s1 := nI 1) (rb := rb) (la := la) (srow := some 1) (ssp := sx) (sen := nI e) (str := d) (stp := q) (swd := swd) hd
    rw [e1, bdS4, e2, bdS4, if_pos (show nI 0 = nI 0 from rfl), g0, g1]
    split
    · exact ⟨la1, _, swd, d, q, hd, rfl, dm _ _ _⟩
    · exact ⟨la0, _, swd, d, q, hd, rfl, dm _ _ _⟩
end
section
/-- runs with their length before them -/
theorem L_own {r lim p e : Nat} {rb : Nat → Nat → Int32} {mf : Nat → Int32} {la : Nat → Nat → Int64} {mn : Nat → Int64} {mbl mby : Int32} (hs : Src rb mf e) (hlim : lim ≤ 200) (hp : p ≤ e) :
    (∃ a p1 la' mn' c b, p ≤ p1 ∧ p1 + a ≤ e ∧ FrA r la la' ∧ Lk r lim la' mn' ∧ p_X6_readLength (nI 12000) mf (nI p) (nI e) (nI 0) (nI 0) = some (nI a, nI p1, nI 0, nI 0) ∧ p_X6_readRuns (nI lim) (nI 1) mf mn (nI p1) (nI (p1 + a)) (nI 0) (nI 0) mbl mby = some (nI 1, mn', nI (p1 + a), nI 0, nI 0, c, b) ∧ p_X6_isOver (nI (p1 + a)) (nI (p1 + a)) (nI 0) (nI 0) = some (nI 1, nI 0, nI 0) ∧ p_X1_readOwnRuns r (nI lim) rb la (some 1) (nI p) (nI e) (nI 0) (nI 0) = some (la', nI (p1 + a), nI e, nI 0, nI 0)) ∨
    (∃ x sm d q la' sx sn, x < nI 0 ∧ d ≠ nI 0 ∧ p_X6_readLength (nI 12000) mf (nI p) (nI e) (nI 0) (nI 0) = some (x, sm, d, q) ∧ p_X1_readOwnRuns r (nI lim) rb la (some 1) (nI p) (nI e) (nI 0) (nI 0) = some (la', sx, sn, d, q)) ∨
    (∃ a p1 mn' sm d q cm bm la' sx sn, d ≠ nI 0 ∧ p1 + a ≤ e ∧ p_X6_readLength (nI 12000) mf (nI p) (nI e) (nI 0) (nI 0) = some (nI a, nI p1, nI 0, nI 0) ∧ p_X6_readRuns (nI lim) (nI 1) mf mn (nI p1) (nI (p1 + a)) (nI 0) (nI 0) mbl mby = some (nI 0, mn', sm, d, q, cm, bm) ∧ p_X1_readOwnRuns r (nI lim) rb la (some 1) (nI p) (nI e) (nI 0) (nI 0) = some (la', sx, sn, d, q)) ∨
    (∃ a p1 p2 mn' c b d q la' sx sn, d ≠ nI 0 ∧ p1 + a ≤ e ∧ p_X6_readLength (nI 12000) mf (nI p) (nI e) (nI 0) (nI 0) = some (nI a, nI p1, nI 0, nI 0) ∧ p_X6_readRuns (nI lim) (nI 1) mf mn (nI p1) (nI (p1 + a)) (nI 0) (nI 0) mbl mby = some (nI 1, mn', nI p2, nI 0, nI 0, c, b) ∧ p_X6_isOver (nI (p1 + a)) (nI p2) (nI 0) (nI 0) = some (nI 0, d, q) ∧ p_X1_readOwnRuns r (nI lim) rb la (some 1) (nI p) (nI e) (nI 0) (nI 0) = some (la', sx, sn, d, q)) := by
  have he := hs.1
  have dead45 : ∀ (v ssp str stp : Int32) (s1 : Int32), str ≠ nI 0 → p_X1_readOwnRuns_J45 r (nI lim) (nI p) v s1 rb la (some 1) ssp (nI e) str stp = some (la, ssp, nI e, str, stp) := by
    intro v ssp str stp s1 hd
    rw [p_X1_readOwnRuns_J45, d_demand hd, bdS2, d_sound hd, bdS1, if_pos rfl]
  have bad44 : ∀ (v ssp : Int32), p_X1_readOwnRuns_J44 r (nI lim) (nI p) v rb la (some 1) ssp (nI e) (nI 0) (nI 0) = some (la, ssp, nI e, nI 10, nI p) := by
    intro v ssp
    rw [p_X1_readOwnRuns_J44, p_X1_readOwnRuns_J45, demF, bdS2, d_sound (by decide), bdS1, if_pos rfl]
  unfold p_X1_readOwnRuns p_X6_readLength p_X4_left
  rcases L_little (N := 4) hs hp (by omega) with ⟨v, p1, q1, q2, q3, q4⟩ | ⟨vx, sx, vm, sm, d, q, hd, q3, q4⟩
  · rw [q3, q4, bdS4, bdS4, bdS1, if_pos (show nI 0 = nI 0 from rfl), subI q2]
    have fail : p_X6_fails (nI 10) (nI p) (nI 0) (nI 0) = some (nI 0, nI 10, nI p) := rfl
    rw [fail, bdS3]
    rcases splitI (l2i v) with hneg | ⟨a, ha, hv⟩
    · rw [if_pos hneg, if_pos hneg, bad44]
      exact Or.inr (Or.inl ⟨(-1 : Int32), nI p1, nI 10, nI p, la, nI p1, nI e, by decide, by decide, rfl, rfl⟩)
    · rw [hv, if_neg (show ¬ nI a < nI 0 by rw [ltI (by omega) (by omega)]; omega), if_neg (show ¬ nI a < nI 0 by rw [ltI (by omega) (by omega)]; omega)]
      by_cases hlt : e - p1 < a
      · rw [if_pos (show nI (e - p1) < nI a by rw [ltI (by omega) (by omega)]; exact hlt), if_pos (show nI (e - p1) < nI a by rw [ltI (by omega) (by omega)]; exact hlt), bad44]
        exact Or.inr (Or.inl ⟨(-1 : Int32), nI p1, nI 10, nI p, la, nI p1, nI e, by decide, by decide, rfl, rfl⟩)
      · rw [if_neg (show ¬ nI (e - p1) < nI a by rw [ltI (by omega) (by omega)]; exact hlt), if_neg (show ¬ nI (e - p1) < nI a by rw [ltI (by omega) (by omega)]; exact hlt), if_neg (show ¬ nI 12000 < nI a by rw [ltI (by omega) (by omega)]; omega), p_X1_readOwnRuns_J45, demT, bdS2]
        have es : p_X4_isSound (nI 0) = some (nI 1) := rfl
        have hs2 : Src rb mf (p1 + a) := ⟨by omega, fun k hk => hs.2 k (by omega)⟩
        rw [es, bdS1, if_neg (show ¬ nI 1 = nI 0 by decide), addI]
        rcases L_runs (r := r) (la := la) (mn := mn) (mbl := mbl) (mby := mby) (w := 1) hs2 (by omega) hlim (show p1 ≤ p1 + a by omega) with ⟨la1, mn1, p2, c, b, r1, r2, r3, r4, r5, r6⟩ | ⟨la1, sx, mn1, sm, d, q, cm, bm, hd, r3, r5, r6⟩
        · rw [r5, bdS4]
          unfold p_X4_demandNothingLeft p_X6_isOver
          by_cases hend : p2 = p1 + a
          · left
            subst hend
            refine ⟨a, p1, la1, mn1, c, b, q1, by omega, r3, r4, rfl, r6, by rw [if_pos rfl], ?_⟩
            rw [if_neg (show ¬ nI (p1 + a) < nI (p1 + a) by rw [ltI (by omega) (by omega)]; omega), demT, bdS2, bdS2]
          · right; right; right
            refine ⟨a, p1, p2, mn1, c, b, nI 13, nI p2, la1, nI p2, nI e, by decide, by omega, rfl, r6, ?_, ?_⟩
            · rw [if_neg (show ¬ nI p2 = nI (p1 + a) by rw [eqI (by omega) (by omega)]; exact hend)]
              rfl
            · rw [if_pos (show nI p2 < nI (p1 + a) by rw [ltI (by omega) (by omega)]; omega), demF, bdS2, bdS2]
        · right; right; left
          refine ⟨a, p1, mn1, sm, d, q, cm, bm, la1, sx, nI e, hd, by omega, rfl, r6, ?_⟩
          rw [r5, bdS4, d_nothing hd, bdS2]
  · rw [q3, q4, bdS4, bdS4, bdS1, if_neg hd]
    right; left
    refine ⟨(-1 : Int32), sm, d, q, la, sx, nI e, by decide, hd, rfl, ?_⟩
    rw [p_X1_readOwnRuns_J44, dead45 _ _ _ _ _ hd, dead45 _ _ _ _ _ hd, ite_self, ite_self]
end
section
/-! a text's letters, read -/
def fl (mf : Nat → Int32) (p a : Nat) : List Int32 := (List.range a).map (fun k => b8 (mf (p + k) &&& nI 255))
theorem fl_len (mf : Nat → Int32) (p a : Nat) : (fl mf p a).length = a := by simp [fl]
theorem fl_at {mf : Nat → Int32} {p a k : Nat} (h : k < (fl mf p a).length) : (fl mf p a)[k] = b8 (mf (p + k) &&& nI 255) := by simp [fl]
theorem b8L_fl (mf : Nat → Int32) (p a : Nat) : b8L (fl mf p a) := by
  intro x hx
  obtain ⟨k, _, rfl⟩ := List.mem_map.mp hx
  exact b8_b8' _
theorem get_row {rc : Nat → Int32} {rb : Nat → Nat → Int32} {mf : Nat → Int32} {e S i : Nat} (hs : Src rb mf e) (hS : rc 1 = nI S) (heS : e ≤ S) (hS2 : S ≤ 12000) (hi : i < e) : p_X3_get 1 (nI i) rc rb = some (mf i &&& nI 255) := by
  have he := hs.1
  have r1 : rlen 1 = 12000 := rfl
  unfold p_X3_get
  rw [hS, r1, if_neg (by rw [ltI (by omega) (by omega)]; omega), if_pos (by rw [ltI (by omega) (by omega)]; omega), if_pos (by rw [ltI (by omega) (by omega)]; omega), inbI (by omega), gdD (by omega), ixI (by omega), hs.2 i hi]
theorem X_ptext_L {c n0 p a e S : Nat} {xc rc : Nat → Int32} {xl : Nat → Nat → Int32} {rb : Nat → Nat → Int32} {mf : Nat → Int32} {kx : (Nat → Nat → Int32) → Option ((Nat → Int32) × (Nat → Nat → Int32) × (Nat → Nat → Int64) × (Nat → Nat → Int32))} (hs : Src rb mf e) (hS : rc 1 = nI S) (heS : e ≤ S) (hS2 : S ≤ 12000) (hn : xc c = nI n0) (h : n0 < 200) (ha : a ≤ 40) (hpa : p + a ≤ e) : ∀ (m n k : Nat), a - k = m → k ≤ a → m < n → itr2 (p_X0_pushText_L31 c 1 (nI p) (nI a) xc rc rb kx) n (nI k) (up xl c (wr (xl c) (n0 * 40) ((fl mf p a).take k))) = kx (up xl c (wr (xl c) (n0 * 40) (fl mf p a))) := by
  have he := hs.1
  intro m
  induction m with
  | zero =>
    intro n k h1 h2 h3
    have : k = a := by omega
    subst this
    cases n with
    | zero => omega
    | succ n =>
      rw [List.take_of_length_le (by rw [fl_len]; omega)]
      show p_X0_pushText_L31 c 1 (nI p) (nI k) xc rc rb kx _ (nI k) _ = _
      rw [p_X0_pushText_L31, if_neg (by rw [ltI (by omega) (by omega)]; omega)]
  | succ m ih =>
    intro n k h1 h2 h3
    cases n with
    | zero => omega
    | succ n =>
      have hk : k < (fl mf p a).length := by rw [fl_len]; omega
      show p_X0_pushText_L31 c 1 (nI p) (nI a) xc rc rb kx _ (nI k) _ = _
      rw [p_X0_pushText_L31, if_pos (by rw [ltI (by omega) (by omega)]; omega), addI, get_row hs hS heS hS2 (show p + k < e by omega), bdS1, hn, mulI, addI, inbI (by omega), gdD (by omega), ixI (by omega), up_up, up_s, addI, ← fl_at hk]
      have e2 : n0 * 40 + k = n0 * 40 + ((fl mf p a).take k).length := by rw [List.length_take, fl_len]; omega
      rw [e2, wr_snoc, take_snoc hk]
      exact ih n (k + 1) (by omega) (by omega) (by omega)
theorem X_ntext {c n0 p a e S : Nat} {xc rc : Nat → Int32} {xt : Nat → Nat → Int32} {xn : Nat → Nat → Int64} {xl : Nat → Nat → Int32} {rb : Nat → Nat → Int32} {mf : Nat → Int32} (hs : Src rb mf e) (hS : rc 1 = nI S) (heS : e ≤ S) (hS2 : S ≤ 12000) (hn : xc c = nI n0) (h : n0 < 200) (ha : a ≤ 40) (hpa : p + a ≤ e) : p_X4_nextText c (nI a) xc xt xn xl rc rb (some 1) (nI p) (nI e) (nI 0) = some (up xc c (nI (n0 + 1)), up xt c (up (xt c) n0 (nI 1)), up xn c (up (xn c) n0 (lN a)), up xl c (wr (xl c) (n0 * 40) (fl mf p a)), nI (p + a)) := by
  have he := hs.1
  have e := X_ptext_L (xl := xl) (kx := fun xl_4 => some (up xc c (nI (n0 + 1)), up xt c (up (xt c) n0 (nI 1)), up xn c (up (xn c) n0 (lN a)), xl_4)) hs hS heS hS2 hn h ha hpa a fu 0 (by omega) (by omega) (by rw [fu_eq]; omega)
  rw [List.take_zero, wr_nil, up_id] at e
  have ep : p_X0_pushText c 1 (nI p) (nI a) xc xt xn xl rc rb = some (up xc c (nI (n0 + 1)), up xt c (up (xt c) n0 (nI 1)), up xn c (up (xn c) n0 (lN a)), up xl c (wr (xl c) (n0 * 40) (fl mf p a))) := by
    unfold p_X0_pushText
    simp only [hn]
    simp (disch := omega) only [ltI, eqI, addI, subI, mulI, divI, ixI, inbI, i2lI, l2iL, ltL, eqL, addL, mulL, subL, gdD, if_pos, if_neg, if_true, if_false, bdS1, bdS2, bdS3, bdS4, bdS5, bdS6, bdS7, bdS8, bdS9, bdS10, bdS11, bdS12, bdS13, moN, moS, h]
    exact e
  unfold p_X4_nextText p_X4_left
  rw [if_pos rfl, moS, gdD (by omega), if_neg (by rw [ltI (by omega) (by omega)]; omega), subI (by omega), bdS1, if_neg (by rw [ltI (by omega) (by omega)]; omega), ep, bdS4, addI]
abbrev LM : Type := Int32 × (Nat → Int32) × (Nat → Int32) × (Nat → Int64) × (Nat → Int32) × Int32 × Int32 × Int32
theorem M_ltr_L {c n0 p a e : Nat} {rb : Nat → Nat → Int32} {mf mx : Nat → Int32} {kx : (Nat → Int32) → Int32 → Int32 → Int32 → Option LM} (hs : Src rb mf e) (hc : c < 7) (h : n0 < 200) (ha : a ≤ 40) (hpa : p + a ≤ e) : ∀ (m n k : Nat), a - k = m → k ≤ a → m < n → itr5 (p_X6_readLetters_L12 (nI c) (nI a) (nI n0) mf (nI e) kx) n (nI k) (wr mx (40 * (200 * c + n0)) ((fl mf p a).take k)) (nI (p + k)) (nI 0) (nI 0) = kx (wr mx (40 * (200 * c + n0)) (fl mf p a)) (nI (p + a)) (nI 0) (nI 0) := by
  have he := hs.1
  intro m
  induction m with
  | zero =>
    intro n k h1 h2 h3
    have : k = a := by omega
    subst this
    cases n with
    | zero => omega
    | succ n =>
      rw [List.take_of_length_le (by rw [fl_len]; omega)]
      show p_X6_readLetters_L12 (nI c) (nI k) (nI n0) mf (nI e) kx _ (nI k) _ (nI (p + k)) (nI 0) (nI 0) = _
      rw [p_X6_readLetters_L12, if_neg (by rw [ltI (by omega) (by omega)]; omega)]
  | succ m ih =>
    intro n k h1 h2 h3
    cases n with
    | zero => omega
    | succ n =>
      have hk : k < (fl mf p a).length := by rw [fl_len]; omega
      have en : p_X6_next mf (nI (p + k)) (nI e) (nI 0) (nI 0) = some (mf (p + k) &&& nI 255, nI (p + k + 1), nI 0, nI 0) := by
        unfold p_X6_next
        rw [if_pos (by rw [ltI (by omega) (by omega)]; omega), addI, subI (by omega), Nat.add_sub_cancel, inbI (by omega), gdD (by omega), ixI (by omega)]
      show p_X6_readLetters_L12 (nI c) (nI a) (nI n0) mf (nI e) kx _ (nI k) _ (nI (p + k)) (nI 0) (nI 0) = _
      rw [p_X6_readLetters_L12, if_pos (show nI k < nI a by rw [ltI (by omega) (by omega)]; omega), if_pos (show nI 0 = nI 0 from rfl), en, bdS4, mulI, addI, mulI, addI, inbI (by omega), gdD (by omega), ixI (by omega), addI, ← fl_at hk]
      have e2 : 40 * (200 * c + n0) + k = 40 * (200 * c + n0) + ((fl mf p a).take k).length := by rw [List.length_take, fl_len]; omega
      rw [e2, wr_snoc, take_snoc hk]
      exact ih n (k + 1) (by omega) (by omega) (by omega)
theorem M_ltr {c n0 p a e : Nat} {rb : Nat → Nat → Int32} {mf mm mt : Nat → Int32} {mv : Nat → Int64} {mx : Nat → Int32} (hs : Src rb mf e) (hc : c < 7) (hm : mm c = nI n0) (h : n0 < 200) (ha : a ≤ 40) (hpa : p + a ≤ e) : p_X6_readLetters (nI c) (nI a) mm mt mv mx mf (nI p) (nI e) (nI 0) (nI 0) = some (nI 1, up mm c (nI (n0 + 1)), up mt (200 * c + n0) (nI 1), up mv (200 * c + n0) (lN a), wr mx (40 * (200 * c + n0)) (l40 (fl mf p a)), nI (p + a), nI 0, nI 0) := by
  unfold p_X6_readLetters
  have e1 := M_ltr_L (mx := wr mx (40 * (200 * c + n0)) (l40 [])) (kx := fun mx_13 ma_14 mb_15 mba_16 => p_X6_readLetters_J54 (up mm c (nI (n0 + 1))) (up mt (200 * c + n0) (nI 1)) (up mv (200 * c + n0) (lN a)) mx_13 ma_14 mb_15 mba_16) hs hc h ha hpa a fu 0 (by omega) (by omega) (by rw [fu_eq]; omega)
  rw [List.take_zero, wr_nil, wr_l40 (by rw [fl_len]; exact ha)] at e1
  rw [i2lI (by omega), M_adds hc h hm (by omega), bdS5]
  refine e1.trans ?_
  rw [p_X6_readLetters_J54, if_pos rfl]
end
section
def FrX (c : Nat) (xc : Nat → Int32) (xt : Nat → Nat → Int32) (xn : Nat → Nat → Int64) (xl : Nat → Nat → Int32) (xc' : Nat → Int32) (xt' : Nat → Nat → Int32) (xn' : Nat → Nat → Int64) (xl' : Nat → Nat → Int32) : Prop := ∀ d, d ≠ c → xc' d = xc d ∧ xt' d = xt d ∧ xn' d = xn d ∧ xl' d = xl d
theorem FrX.rf {c : Nat} {xc : Nat → Int32} {xt : Nat → Nat → Int32} {xn : Nat → Nat → Int64} {xl : Nat → Nat → Int32} : FrX c xc xt xn xl xc xt xn xl := fun _ _ => ⟨rfl, rfl, rfl, rfl⟩
theorem FrX.tr {c : Nat} {xc xc1 xc2 : Nat → Int32} {xt xt1 xt2 : Nat → Nat → Int32} {xn xn1 xn2 : Nat → Nat → Int64} {xl xl1 xl2 : Nat → Nat → Int32} (h1 : FrX c xc xt xn xl xc1 xt1 xn1 xl1) (h2 : FrX c xc1 xt1 xn1 xl1 xc2 xt2 xn2 xl2) : FrX c xc xt xn xl xc2 xt2 xn2 xl2 := fun d hd => ⟨(h2 d hd).1.trans (h1 d hd).1, (h2 d hd).2.1.trans (h1 d hd).2.1, (h2 d hd).2.2.1.trans (h1 d hd).2.2.1, (h2 d hd).2.2.2.trans (h1 d hd).2.2.2⟩
def FrN (c : Nat) (mm mt : Nat → Int32) (mv : Nat → Int64) (mx : Nat → Int32) (mm' mt' : Nat → Int32) (mv' : Nat → Int64) (mx' : Nat → Int32) : Prop := (∀ d, d ≠ c → mm' d = mm d) ∧ FrM c mt mv mx mt' mv' mx'
theorem FrN.rf {c : Nat} {mm mt : Nat → Int32} {mv : Nat → Int64} {mx : Nat → Int32} : FrN c mm mt mv mx mm mt mv mx := ⟨fun _ _ => rfl, fun _ _ _ h => h⟩
theorem FrN.tr {c : Nat} {mm mm1 mm2 mt mt1 mt2 : Nat → Int32} {mv mv1 mv2 : Nat → Int64} {mx mx1 mx2 : Nat → Int32} (h1 : FrN c mm mt mv mx mm1 mt1 mv1 mx1) (h2 : FrN c mm1 mt1 mv1 mx1 mm2 mt2 mv2 mx2) : FrN c mm mt mv mx mm2 mt2 mv2 mx2 := ⟨fun d hd => (h2.1 d hd).trans (h1.1 d hd), fun s a hs h => h2.2 s a hs (h1.2 s a hs h)⟩
theorem FrN.put {c n : Nat} {mm mt : Nat → Int32} {mv : Nat → Int64} {mx : Nat → Int32} {x : Int32} (a : AV) (h : n < 200) : FrN c mm mt mv mx (up mm c x) (up mt (200 * c + n) (nI (th a))) (up mv (200 * c + n) (nu a)) (wr mx (40 * (200 * c + n)) (l40 (le a))) := ⟨fun d hd => up_n hd, fun s b hs hv => MV_wr_n (by omega) hv⟩
abbrev PX : Type := (Nat → Int32) × (Nat → Nat → Int32) × (Nat → Nat → Int64) × (Nat → Nat → Int32) × (Nat → Nat → Int64) × Int32 × Int32 × Int32
theorem d_L37 {c n : Nat} {N i : Int32} {xk xc rc : Nat → Int32} {xt : Nat → Nat → Int32} {xn : Nat → Nat → Int64} {xl : Nat → Nat → Int32} {rb : Nat → Nat → Int32} {la : Nat → Nat → Int64} {sen ssp str stp : Int32} (hd : str ≠ nI 0) : itr8 (p_X1_readPlain_L37 c N xk rc rb la (some 1) sen) (n + 1) i xc xt xn xl ssp str stp = some (xc, xt, xn, xl, la, ssp, str, stp) := by
  show p_X1_readPlain_L37 c N xk rc rb la (some 1) sen _ i xc xt xn xl ssp str stp = _
  rw [p_X1_readPlain_L37, d_sound hd, bdS1, if_pos rfl, ite_self]
theorem L_plain1 {cx cm K N j B Bm p e S n : Nat} {xk xc rc : Nat → Int32} {xt : Nat → Nat → Int32} {xn : Nat → Nat → Int64} {xl : Nat → Nat → Int32} {rb : Nat → Nat → Int32} {la : Nat → Nat → Int64} {mf mm mt : Nat → Int32} {mv : Nat → Int64} {mx : Nat → Int32} (hs : Src rb mf e) (hS : rc 1 = nI S) (heS : e ≤ S) (hS2 : S ≤ 12000) (hp : p ≤ e) (hK : xk cx = nI K) (hK3 : K < 3) (hB : xc cx = nI B) (hB2 : B < 200) (hcm : cm < 7) (hm : mm cm = nI Bm) (hm2 : Bm < 200) (hj : j < N) (hN : N ≤ 200) :
    (∃ (t : TV) (p' : Nat), p ≤ p' ∧ p' ≤ e ∧ TVok K t ∧ itr8 (p_X1_readPlain_L37 cx (nI N) xk rc rb la (some 1) (nI e)) (n + 2) (nI j) xc xt xn xl (nI p) (nI 0) (nI 0) = itr8 (p_X1_readPlain_L37 cx (nI N) xk rc rb la (some 1) (nI e)) (n + 1) (nI (j + 1)) (up xc cx (nI (B + 1))) (up xt cx (up (xt cx) B (nI 1))) (up xn cx (up (xn cx) B t.1)) (up xl cx (wr (xl cx) (B * 40) t.2)) (nI p') (nI 0) (nI 0) ∧ p_X6_readPlain (nI cm) (nI K) mm mt mv mx mf (nI p) (nI e) (nI 0) (nI 0) = some (nI 1, up mm cm (nI (Bm + 1)), up mt (200 * cm + Bm) (nI 1), up mv (200 * cm + Bm) t.1, wr mx (40 * (200 * cm + Bm)) (l40 t.2), nI p', nI 0, nI 0)) ∨
    (∃ xc' xt' xn' xl' sx sm d q, d ≠ nI 0 ∧ FrX cx xc xt xn xl xc' xt' xn' xl' ∧ itr8 (p_X1_readPlain_L37 cx (nI N) xk rc rb la (some 1) (nI e)) (n + 2) (nI j) xc xt xn xl (nI p) (nI 0) (nI 0) = some (xc', xt', xn', xl', la, sx, d, q) ∧ p_X6_readPlain (nI cm) (nI K) mm mt mv mx mf (nI p) (nI e) (nI 0) (nI 0) = some (nI 0, mm, mt, mv, mx, sm, d, q)) := by
  have he := hs.1
  have es : p_X4_isSound (nI 0) = some (nI 1) := rfl
  have fail : p_X6_fails (nI 10) (nI p) (nI 0) (nI 0) = some (nI 0, nI 10, nI p) := rfl
  have hX : itr8 (p_X1_readPlain_L37 cx (nI N) xk rc rb la (some 1) (nI e)) (n + 2) (nI j) xc xt xn xl (nI p) (nI 0) (nI 0) = p_X1_readPlain_L37 cx (nI N) xk rc rb la (some 1) (nI e) (fun a b c d f g h i => itr8 (p_X1_readPlain_L37 cx (nI N) xk rc rb la (some 1) (nI e)) (n + 1) a b c d f g h i) (nI j) xc xt xn xl (nI p) (nI 0) (nI 0) := rfl
  rw [hX, p_X1_readPlain_L37, if_pos (show nI j < nI N by rw [ltI (by omega) (by omega)]; exact hj), es, bdS1, if_neg (show ¬ nI 1 = nI 0 by decide), hK]
  unfold p_X6_readPlain
  by_cases k2 : K = 2
  · subst k2
    rw [if_pos (show nI 2 = nI 2 from rfl), if_pos (show nI 2 = nI 2 from rfl)]
    unfold p_X6_readLength p_X4_left
    rcases L_little (N := 4) hs hp (by omega) with ⟨v, p1, q1, q2, q3, q4⟩ | ⟨vx, sx, vm, sm, d, q, hd, q3, q4⟩
    · have bad : ∀ v5, p_X1_readPlain_J136 cx (nI j) (nI p) v5 xc xt xn xl rc rb (some 1) (nI p1) (nI e) (nI 0) (nI 0) (fun a b c d f g h i => itr8 (p_X1_readPlain_L37 cx (nI N) xk rc rb la (some 1) (nI e)) (n + 1) a b c d f g h i) = some (xc, xt, xn, xl, la, nI p1, nI 10, nI p) := by
        intro v5
        rw [p_X1_readPlain_J136, p_X1_readPlain_J137, demF, bdS2, d_text (by decide), bdS5, d_L37 (by decide)]
      rw [q3, q4, bdS4, bdS4, bdS1, if_pos (show nI 0 = nI 0 from rfl), subI q2, fail, bdS3]
      rcases splitI (l2i v) with hneg | ⟨a, ha, hv⟩
      · rw [if_pos hneg, if_pos hneg, bad, bdS4, if_pos (show (-1 : Int32) < nI 0 by decide)]
        exact Or.inr ⟨_, _, _, _, _, _, nI 10, nI p, by decide, FrX.rf, rfl, rfl⟩
      · rw [hv, if_neg (show ¬ nI a < nI 0 by rw [ltI (by omega) (by omega)]; omega), if_neg (show ¬ nI a < nI 0 by rw [ltI (by omega) (by omega)]; omega)]
        by_cases h40 : 40 < a
        · rw [if_pos (show nI 40 < nI a by rw [ltI (by omega) (by omega)]; exact h40), if_pos (show nI 40 < nI a by rw [ltI (by omega) (by omega)]; exact h40), bad, ite_self, bdS4, if_pos (show (-1 : Int32) < nI 0 by decide)]
          exact Or.inr ⟨_, _, _, _, _, _, nI 10, nI p, by decide, FrX.rf, rfl, rfl⟩
        · rw [if_neg (show ¬ nI 40 < nI a by rw [ltI (by omega) (by omega)]; exact h40), if_neg (show ¬ nI 40 < nI a by rw [ltI (by omega) (by omega)]; exact h40)]
          by_cases hlt : e - p1 < a
          · rw [if_pos (show nI (e - p1) < nI a by rw [ltI (by omega) (by omega)]; exact hlt), if_pos (show nI (e - p1) < nI a by rw [ltI (by omega) (by omega)]; exact hlt), bad, bdS4, if_pos (show (-1 : Int32) < nI 0 by decide)]
            exact Or.inr ⟨_, _, _, _, _, _, nI 10, nI p, by decide, FrX.rf, rfl, rfl⟩
          · left
            refine ⟨(lN a, fl mf p1 a), p1 + a, by omega, by omega, ⟨by rw [fl_len]; omega, b8L_fl _ _ _, by rw [if_pos rfl, fl_len]⟩, ?_, ?_⟩
            · rw [if_neg (show ¬ nI (e - p1) < nI a by rw [ltI (by omega) (by omega)]; exact hlt), p_X1_readPlain_J137, demT, bdS2, X_ntext hs hS heS hS2 hB hB2 (by omega) (by omega), bdS5, addI]
            · rw [if_neg (show ¬ nI (e - p1) < nI a by rw [ltI (by omega) (by omega)]; exact hlt), bdS4, if_neg (show ¬ nI a < nI 0 by rw [ltI (by omega) (by omega)]; omega), M_ltr hs hcm hm hm2 (by omega) (by omega), bdS8, if_neg (show ¬ nI 1 = nI 0 by decide)]
    · have bad : ∀ v5 s0, p_X1_readPlain_J137 cx (nI j) (nI p) v5 s0 xc xt xn xl rc rb (some 1) sx (nI e) d q (fun a b c d f g h i => itr8 (p_X1_readPlain_L37 cx (nI N) xk rc rb la (some 1) (nI e)) (n + 1) a b c d f g h i) = some (xc, xt, xn, xl, la, sx, d, q) := by
        intro v5 s0
        rw [p_X1_readPlain_J137, d_demand hd, bdS2, d_text hd, bdS5, d_L37 hd]
      rw [q3, q4, bdS4, bdS4, bdS1, if_neg hd, bdS4, if_pos (show (-1 : Int32) < nI 0 by decide), p_X1_readPlain_J136, bad, bad, ite_self, ite_self, ite_self]
      exact Or.inr ⟨_, _, _, _, _, _, d, q, hd, FrX.rf, rfl, rfl⟩
  · rw [if_neg (show ¬ nI K = nI 2 by rw [eqI (by omega) (by omega)]; exact k2), if_neg (show ¬ nI K = nI 2 by rw [eqI (by omega) (by omega)]; exact k2)]
    -- a number of so many bytes
    have num : ∀ (W : Nat), W ≤ 8 →
        (∃ (t : TV) (p' : Nat), p ≤ p' ∧ p' ≤ e ∧ TVok K t ∧ (bd4 (p_X4_nextLittle (nI W) rb (some 1) (nI p) (nI e) (nI 0) (nI 0)) fun a_30 ssp_31 str_32 stp_33 => bd3 (p_X0_pushNumber cx a_30 xk xc xt xn) fun xc_35 xt_36 xn_37 => itr8 (p_X1_readPlain_L37 cx (nI N) xk rc rb la (some 1) (nI e)) (n + 1) (nI j + nI 1) xc_35 xt_36 xn_37 xl ssp_31 str_32 stp_33) = itr8 (p_X1_readPlain_L37 cx (nI N) xk rc rb la (some 1) (nI e)) (n + 1) (nI (j + 1)) (up xc cx (nI (B + 1))) (up xt cx (up (xt cx) B (nI 1))) (up xn cx (up (xn cx) B t.1)) (up xl cx (wr (xl cx) (B * 40) t.2)) (nI p') (nI 0) (nI 0) ∧ p_X6_readPlain_J42 (nI cm) (nI K) (nI W) mm mt mv mx mf (nI p) (nI e) (nI 0) (nI 0) = some (nI 1, up mm cm (nI (Bm + 1)), up mt (200 * cm + Bm) (nI 1), up mv (200 * cm + Bm) t.1, wr mx (40 * (200 * cm + Bm)) (l40 t.2), nI p', nI 0, nI 0)) ∨
        (∃ xc' xt' xn' xl' sx sm d q, d ≠ nI 0 ∧ FrX cx xc xt xn xl xc' xt' xn' xl' ∧ (bd4 (p_X4_nextLittle (nI W) rb (some 1) (nI p) (nI e) (nI 0) (nI 0)) fun a_30 ssp_31 str_32 stp_33 => bd3 (p_X0_pushNumber cx a_30 xk xc xt xn) fun xc_35 xt_36 xn_37 => itr8 (p_X1_readPlain_L37 cx (nI N) xk rc rb la (some 1) (nI e)) (n + 1) (nI j + nI 1) xc_35 xt_36 xn_37 xl ssp_31 str_32 stp_33) = some (xc', xt', xn', xl', la, sx, d, q) ∧ p_X6_readPlain_J42 (nI cm) (nI K) (nI W) mm mt mv mx mf (nI p) (nI e) (nI 0) (nI 0) = some (nI 0, mm, mt, mv, mx, sm, d, q)) := by
      intro W hW
      rw [p_X6_readPlain_J42]
      rcases L_little (N := W) hs hp hW with ⟨v, p1, q1, q2, q3, q4⟩ | ⟨vx, sx, vm, sm, d, q, hd, q3, q4⟩
      · left
        refine ⟨(nvB K v, []), p1, q1, q2, ⟨by simp, b8L_nil, by rw [if_neg k2]⟩, ?_, ?_⟩
        · rw [q3, bdS4, X_pushNumber hK (by omega) hB hB2, bdS3, addI, wr_nil, up_id]
        · rw [q4, bdS4, if_pos (show nI 0 = nI 0 from rfl)]
          unfold p_X6_reads nvB
          by_cases k0 : K = 0
          · rw [if_pos (show nI K = nI 0 by rw [k0]), if_pos k0, M_adds hcm hm2 hm (by omega), bdS5, bdS4]
          · rw [if_neg (show ¬ nI K = nI 0 by rw [eqI (by omega) (by omega)]; exact k0), if_neg k0, if_neg (show ¬ K = 3 by omega), M_adds hcm hm2 hm (by omega), bdS5, bdS4]
      · right
        rw [q3, bdS4, X_pushNumber hK (by omega) hB hB2, bdS3, d_L37 hd, q4, bdS4, if_neg hd]
        exact ⟨_, _, _, _, _, _, d, q, hd, fun c hc => ⟨up_n hc, up_n hc, up_n hc, rfl⟩, rfl, rfl⟩
    by_cases k1 : K = 1
    · rw [if_pos (show nI K = nI 1 by rw [k1]), if_neg (show ¬ nI K = nI 0 by rw [k1]; decide)]
      exact num 8 (by omega)
    · rw [if_neg (show ¬ nI K = nI 1 by rw [eqI (by omega) (by omega)]; exact k1), if_pos (show nI K = nI 0 by rw [show K = 0 by omega])]
      exact num 4 (by omega)
end
section
/-! a page's head, the class after a fault -/
abbrev HX : Type := Int32 × Int32 × Int32 × Int32 × Int32 × Int32 × Int32 × Int32
def HD (sen d q rpd rpv rpc : Int32) (x : Option HX) : Prop := ∃ sx z, x = some (sx, sen, d, q, rpd, rpv, rpc, z)
theorem dh_339 {v4 : Int32} {v5 v9 v12 : Int64} {s1 ssp sen str stp rpd rpv rpc rzp : Int32} (hd : str ≠ nI 0) : HD sen str stp rpd rpv rpc (p_X1_readHead_J339 v4 v5 v9 v12 s1 ssp sen str stp rpd rpv rpc rzp) := by
  rw [p_X1_readHead_J339, d_demand hd, bdS2, d_sound hd, bdS1, if_pos rfl]
  exact ⟨_, _, rfl⟩
theorem dh_291 {v4 : Int32} {v5 v9 v12 : Int64} {s1 : Int32} {rb : Nat → Nat → Int32} {srow : Option Nat} {ssp sen str stp rpd rpv rpc rzp : Int32} (hd : str ≠ nI 0) : HD sen str stp rpd rpv rpc (p_X1_readHead_J291 v4 v5 v9 v12 s1 rb srow ssp sen str stp rpd rpv rpc rzp) := by
  rw [p_X1_readHead_J291, d_demand hd, bdS2, d_expect hd, bdS3, d_expect hd, bdS3]
  unfold p_X4_left
  rw [bdS1]
  split
  · exact dh_339 hd
  · exact dh_339 hd
theorem isData_any (v : Int64) {xk : Nat → Int32} {rdr : Int32} (hr : isB rdr = true) : ∃ a, p_X1_isDataCode v xk rdr = some a := by
  unfold p_X1_isDataCode
  rw [gdT hr]
  split
  · split
    · exact ⟨_, rfl⟩
    · split
      · exact ⟨_, rfl⟩
      · exact ⟨_, rfl⟩
  · split
    · split
      · exact ⟨_, rfl⟩
      · exact ⟨_, rfl⟩
    · split
      · split
        · exact ⟨_, rfl⟩
        · exact ⟨_, rfl⟩
      · split
        · exact ⟨_, rfl⟩
        · split
          · exact ⟨_, rfl⟩
          · exact ⟨_, rfl⟩
theorem dh_246 {v4 : Int32} {v5 v9 : Int64} {s1 : Int32} {xk : Nat → Int32} {rb : Nat → Nat → Int32} {srow : Option Nat} {ssp sen str stp rdr rpd rpv rpc rzp : Int32} (hr : isB rdr = true) (hd : str ≠ nI 0) : HD sen str stp rpd rpv rpc (p_X1_readHead_J246 v4 v5 v9 s1 xk rb srow ssp sen str stp rdr rpd rpv rpc rzp) := by
  obtain ⟨a, e⟩ := d_zig (rb := rb) (srow := srow) (ssp := ssp) (sen := sen) (stp := stp) (rzp := rzp) hd
  obtain ⟨b, e2⟩ := isData_any a (xk := xk) hr
  rw [p_X1_readHead_J246, d_demand hd, bdS2, e, bdS5, e2, bdS1]
  split
  · split
    · exact dh_291 hd
    · exact dh_291 hd
  · exact dh_291 hd
theorem dh_219 {v4 : Int32} {v5 v9 : Int64} {s0 : Int32} {xk : Nat → Int32} {rb : Nat → Nat → Int32} {srow : Option Nat} {ssp sen str stp rdr rpd rpv rpc rzp : Int32} (hr : isB rdr = true) (hd : str ≠ nI 0) : HD sen str stp rpd rpv rpc (p_X1_readHead_J219 v4 v5 v9 s0 xk rb srow ssp sen str stp rdr rpd rpv rpc rzp) := by
  rw [p_X1_readHead_J219, p_X1_readHead_J245]
  split
  · exact dh_246 hr hd
  · split
    · exact dh_246 hr hd
    · exact dh_246 hr hd
theorem dh_188 {v4 : Int32} {v5 : Int64} {s1 : Int32} {xk xc : Nat → Int32} {rb : Nat → Nat → Int32} {srow : Option Nat} {ssp sen str stp rdr rpd rpv rpc rzp : Int32} (hr : isB rdr = true) (hd : str ≠ nI 0) : HD sen str stp rpd rpv rpc (p_X1_readHead_J188 v4 v5 s1 xk xc rb srow ssp sen str stp rdr rpd rpv rpc rzp) := by
  obtain ⟨a, e⟩ := d_zig (rb := rb) (srow := srow) (ssp := ssp) (sen := sen) (stp := stp) (rzp := rzp) hd
  rw [p_X1_readHead_J188, d_expect hd, bdS3, e, bdS5]
  split
  · exact dh_219 hr hd
  · exact dh_219 hr hd
theorem dh_163 {v4 : Int32} {v5 : Int64} {s1 : Int32} {xk xc : Nat → Int32} {rb : Nat → Nat → Int32} {srow : Option Nat} {ssp sen str stp rdr rpd rpv rpc rzp : Int32} (hr : isB rdr = true) (hd : str ≠ nI 0) : HD sen str stp rpd rpv rpc (p_X1_readHead_J163 v4 v5 s1 xk xc rb srow ssp sen str stp rdr rpd rpv rpc rzp) := by
  rw [p_X1_readHead_J163, d_demand hd, bdS2]
  split
  · exact dh_188 hr hd
  · exact dh_188 hr hd
theorem dh_131 {v4 : Int32} {v5 : Int64} {s1 : Int32} {xk xc : Nat → Int32} {rb : Nat → Nat → Int32} {srow : Option Nat} {ssp sen str stp rdr rpd rpv rpc rzp : Int32} (hr : isB rdr = true) (hd : str ≠ nI 0) : HD sen str stp rpd rpv rpc (p_X1_readHead_J131 v4 v5 s1 xk xc rb srow ssp sen str stp rdr rpd rpv rpc rzp) := by
  obtain ⟨a, e⟩ := d_zig (rb := rb) (srow := srow) (ssp := ssp) (sen := sen) (stp := stp) (rzp := rzp) hd
  rw [p_X1_readHead_J131, d_demand hd, bdS2, e, bdS5]
  split
  · exact dh_163 hr hd
  · exact dh_163 hr hd
theorem dh_89 {v1 v4 s1 : Int32} {xk xc : Nat → Int32} {rb : Nat → Nat → Int32} {srow : Option Nat} {ssp sen str stp rdr rpd rpv rpc rzp : Int32} (hr : isB rdr = true) (hd : str ≠ nI 0) : HD sen str stp rpd rpv rpc (p_X1_readHead_J89 v1 v4 s1 xk xc rb srow ssp sen str stp rdr rpd rpv rpc rzp) := by
  obtain ⟨a, e⟩ := d_zig (rb := rb) (srow := srow) (ssp := ssp) (sen := sen) (stp := stp) (rzp := rzp) hd
  rw [p_X1_readHead_J89, d_demand hd, bdS2, e, bdS5, p_X1_readHead_J130]
  unfold p_X4_left
  rw [bdS1]
  split
  · exact dh_131 hr hd
  · split
    · exact dh_131 hr hd
    · exact dh_131 hr hd
theorem dh_59 {v1 v4 s1 : Int32} {xk xc : Nat → Int32} {rb : Nat → Nat → Int32} {srow : Option Nat} {ssp sen str stp rwp rdr rpd rpv rpc rzp : Int32} (hr : isB rdr = true) (hd : str ≠ nI 0) : HD sen str stp rpd rpv rpc (p_X1_readHead_J59 v1 v4 s1 xk xc rb srow ssp sen str stp rwp rdr rpd rpv rpc rzp) := by
  rw [p_X1_readHead_J59, d_demand hd, bdS2, p_X1_readHead_J84]
  split
  · split
    · exact dh_89 hr hd
    · exact dh_89 hr hd
  · exact dh_89 hr hd
theorem dh_24 {v1 : Int32} {v2 : Int64} {s0 : Int32} {xk xc : Nat → Int32} {rb : Nat → Nat → Int32} {srow : Option Nat} {ssp sen str stp rwp rdr rpd rpv rpc rzp : Int32} (hr : isB rdr = true) (hd : str ≠ nI 0) : HD sen str stp rpd rpv rpc (p_X1_readHead_J24 v1 v2 s0 xk xc rb srow ssp sen str stp rwp rdr rpd rpv rpc rzp) := by
  rw [p_X1_readHead_J24, p_X1_readHead_J58, p_X1_readHead_J54]
  split
  · split
    · split
      · exact dh_59 hr hd
      · exact dh_59 hr hd
    · exact dh_59 hr hd
  · exact dh_59 hr hd
end
section
/-! values read one after the other: the class into column cx from B on, the reference into column cm -/
def RS (pre : Nat → AV) (cx B cm K : Nat) (ts : List TV) (xc : Nat → Int32) (xt : Nat → Nat → Int32) (xn : Nat → Nat → Int64) (xl : Nat → Nat → Int32) (mm mt : Nat → Int32) (mv : Nat → Int64) (mx : Nat → Int32) : Prop :=
  xc cx = nI (B + ts.length) ∧ mm cm = nI ts.length ∧ (∀ (j : Nat) (h : j < ts.length), XV xt xn xl cx (B + j) (some ts[j])) ∧ (∀ (j : Nat) (h : j < ts.length), MV mt mv mx (200 * cm + j) (some ts[j])) ∧ (∀ t ∈ ts, TVok K t) ∧ (∀ j, (le (pre j)).length ≤ 40) ∧ ∀ j, j < B → XV xt xn xl cx j (pre j)
theorem ts_get {ts : List TV} {t : TV} {j : Nat} (h : j < (ts ++ [t]).length) : (∃ h2 : j < ts.length, (ts ++ [t])[j] = ts[j]) ∨ (j = ts.length ∧ (ts ++ [t])[j] = t) := by
  by_cases hj : j < ts.length
  · exact Or.inl ⟨hj, List.getElem_append_left hj⟩
  · rw [List.length_append, List.length_cons, List.length_nil] at h
    have : j = ts.length := by omega
    subst this
    exact Or.inr ⟨rfl, by simp⟩
theorem RS.put {pre : Nat → AV} {cx B cm K : Nat} {ts : List TV} {xc : Nat → Int32} {xt : Nat → Nat → Int32} {xn : Nat → Nat → Int64} {xl : Nat → Nat → Int32} {mm mt : Nat → Int32} {mv : Nat → Int64} {mx : Nat → Int32} {t : TV} (h : RS pre cx B cm K ts xc xt xn xl mm mt mv mx) (ht : TVok K t) : RS pre cx B cm K (ts ++ [t]) (up xc cx (nI (B + ts.length + 1))) (up xt cx (up (xt cx) (B + ts.length) (nI 1))) (up xn cx (up (xn cx) (B + ts.length) t.1)) (up xl cx (wr (xl cx) ((B + ts.length) * 40) t.2)) (up mm cm (nI (ts.length + 1))) (up mt (200 * cm + ts.length) (nI 1)) (up mv (200 * cm + ts.length) t.1) (wr mx (40 * (200 * cm + ts.length)) (l40 t.2)) := by
  obtain ⟨h1, h2, h3, h4, h5, h6, h7⟩ := h
  have hl : (ts ++ [t]).length = ts.length + 1 := by simp
  refine ⟨by rw [up_s, hl, Nat.add_assoc], by rw [up_s, hl], fun j hj => ?_, fun j hj => ?_, fun x hx => ?_, h6, fun j hj => ?_⟩
  · rcases ts_get hj with ⟨g1, g2⟩ | ⟨g1, g2⟩
    · rw [g2]
      exact XV_set_n (a := some t) (by omega) ht.1 (h5 _ (List.getElem_mem g1)).1 (h3 j g1)
    · subst g1
      rw [g2]
      exact XV_set (some t)
  · rcases ts_get hj with ⟨g1, g2⟩ | ⟨g1, g2⟩
    · rw [g2]
      exact MV_wr_n (a := some t) (by omega) (h4 j g1)
    · subst g1
      rw [g2]
      exact MV_wr (some t)
  · rcases List.mem_append.mp hx with e | e
    · exact h5 x e
    · rw [List.mem_singleton.mp e]; exact ht
  · exact XV_set_n (a := some t) (by omega) ht.1 (h6 j) (h7 j hj)
abbrev K88 : Type := (Nat → Int32) → (Nat → Int32) → (Nat → Int64) → (Nat → Int32) → Int32 → Int32 → Int32 → Option (Int32 × (Nat → Int32) × (Nat → Int32) × (Nat → Int64) × (Nat → Int32) × (Nat → Int64) × Int32 × Int32 × Int32 × Int32 × Int32 × Int32 × Int32 × Int32 × (Nat → Int32) × Int32 × Int32 × Int32 × Int32 × Int32 × (Nat → Int32))
/-- the dictionary's values -/
theorem L_dict_L {pre : Nat → AV} {K N e S : Nat} {xk rc : Nat → Int32} {rb : Nat → Nat → Int32} {la : Nat → Nat → Int64} {mf : Nat → Int32} {mn : Nat → Int64} {mpg mdi mbl mby : Int32} {mw : Nat → Int32} {mz mso mbo mcd : Int32} {ml : Nat → Int32} {kx : K88} (hs : Src rb mf e) (hS : rc 1 = nI S) (heS : e ≤ S) (hS2 : S ≤ 12000) (hK : xk 5 = nI K) (hK3 : K < 3) (hN : N ≤ 200) : ∀ (m n p : Nat) (ts : List TV) (xc : Nat → Int32) (xt : Nat → Nat → Int32) (xn : Nat → Nat → Int64) (xl : Nat → Nat → Int32) (mm mt : Nat → Int32) (mv : Nat → Int64) (mx : Nat → Int32), N - ts.length = m → ts.length ≤ N → m + 1 < n → p ≤ e → RS pre 5 0 5 K ts xc xt xn xl mm mt mv mx →
    (∃ ts' p' xc' xt' xn' xl' mm' mt' mv' mx', ts'.length = N ∧ p ≤ p' ∧ p' ≤ e ∧ RS pre 5 0 5 K ts' xc' xt' xn' xl' mm' mt' mv' mx' ∧ FrX 5 xc xt xn xl xc' xt' xn' xl' ∧ FrN 5 mm mt mv mx mm' mt' mv' mx' ∧ itr8 (p_X1_readPlain_L37 5 (nI N) xk rc rb la (some 1) (nI e)) n (nI ts.length) xc xt xn xl (nI p) (nI 0) (nI 0) = some (xc', xt', xn', xl', la, nI p', nI 0, nI 0) ∧ itr8 (p_X6_readPage_L62 (nI K) mf mn (nI e) mpg mdi mbl mby mw mz mso mbo (nI N) mcd ml kx) n (nI ts.length) mm mt mv mx (nI p) (nI 0) (nI 0) = kx mm' mt' mv' mx' (nI p') (nI 0) (nI 0)) ∨
    (∃ xc' xt' xn' xl' sx mm' mt' mv' mx' sm d q, d ≠ nI 0 ∧ FrX 5 xc xt xn xl xc' xt' xn' xl' ∧ FrN 5 mm mt mv mx mm' mt' mv' mx' ∧ itr8 (p_X1_readPlain_L37 5 (nI N) xk rc rb la (some 1) (nI e)) n (nI ts.length) xc xt xn xl (nI p) (nI 0) (nI 0) = some (xc', xt', xn', xl', la, sx, d, q) ∧ itr8 (p_X6_readPage_L62 (nI K) mf mn (nI e) mpg mdi mbl mby mw mz mso mbo (nI N) mcd ml kx) n (nI ts.length) mm mt mv mx (nI p) (nI 0) (nI 0) = some (nI 0, mm', mt', mv', mx', mn, sm, nI e, d, q, mpg, mdi, mbl, mby, mw, mz, mso, mbo, nI N, mcd, ml)) := by
  intro m
  induction m with
  | zero =>
    intro n p ts xc xt xn xl mm mt mv mx h1 h2 h3 hp hr
    cases n with
    | zero => omega
    | succ n =>
      left
      refine ⟨ts, p, xc, xt, xn, xl, mm, mt, mv, mx, by omega, by omega, hp, hr, FrX.rf, FrN.rf, ?_, ?_⟩
      · show p_X1_readPlain_L37 5 (nI N) xk rc rb la (some 1) (nI e) _ (nI ts.length) xc xt xn xl (nI p) (nI 0) (nI 0) = _
        rw [p_X1_readPlain_L37, if_neg (by rw [ltI (by omega) (by omega)]; omega)]
      · show p_X6_readPage_L62 (nI K) mf mn (nI e) mpg mdi mbl mby mw mz mso mbo (nI N) mcd ml kx _ (nI ts.length) mm mt mv mx (nI p) (nI 0) (nI 0) = _
        rw [p_X6_readPage_L62, if_neg (by rw [ltI (by omega) (by omega)]; omega)]
  | succ m ih =>
    intro n p ts xc xt xn xl mm mt mv mx h1 h2 h3 hp hr
    cases n with
    | zero => omega
    | succ n =>
      cases n with
      | zero => omega
      | succ n =>
        have hM : itr8 (p_X6_readPage_L62 (nI K) mf mn (nI e) mpg mdi mbl mby mw mz mso mbo (nI N) mcd ml kx) (n + 1 + 1) (nI ts.length) mm mt mv mx (nI p) (nI 0) (nI 0) = p_X6_readPage_L62 (nI K) mf mn (nI e) mpg mdi mbl mby mw mz mso mbo (nI N) mcd ml kx (fun a b c d f g h i => itr8 (p_X6_readPage_L62 (nI K) mf mn (nI e) mpg mdi mbl mby mw mz mso mbo (nI N) mcd ml kx) (n + 1) a b c d f g h i) (nI ts.length) mm mt mv mx (nI p) (nI 0) (nI 0) := rfl
        rw [hM, p_X6_readPage_L62, if_pos (show nI ts.length < nI N by rw [ltI (by omega) (by omega)]; omega), addI]
        rcases L_plain1 (cx := 5) (cm := 5) (K := K) (N := N) (j := ts.length) (n := n) (la := la) hs hS heS hS2 hp hK hK3 (B := 0 + ts.length) (Bm := ts.length) hr.1 (by omega) (by omega) hr.2.1 (by omega) (by omega) hN with ⟨t, p1, q1, q2, q3, q4, q5⟩ | ⟨xc1, xt1, xn1, xl1, sx, sm, d, q, hd, q3, q4, q5⟩
        · have hr2 := hr.put q3
          have hlen : (ts ++ [t]).length = ts.length + 1 := by simp
          have hgo := ih (n + 1) p1 (ts ++ [t]) _ _ _ _ _ _ _ _ (by omega) (by omega) (by omega) q2 hr2
          rw [hlen] at hgo
          have f1 : FrX 5 xc xt xn xl (up xc 5 (nI (0 + ts.length + 1))) (up xt 5 (up (xt 5) (0 + ts.length) (nI 1))) (up xn 5 (up (xn 5) (0 + ts.length) t.1)) (up xl 5 (wr (xl 5) ((0 + ts.length) * 40) t.2)) := fun d hd => ⟨up_n hd, up_n hd, up_n hd, up_n hd⟩
          have f2 : FrN 5 mm mt mv mx (up mm 5 (nI (ts.length + 1))) (up mt (200 * 5 + ts.length) (nI 1)) (up mv (200 * 5 + ts.length) t.1) (wr mx (40 * (200 * 5 + ts.length)) (l40 t.2)) := FrN.put (some t) (by omega)
          rw [q5, bdS8, if_neg (show ¬ nI 1 = nI 0 by decide)]
          rcases hgo with ⟨ts2, p2, xc2, xt2, xn2, xl2, mm2, mt2, mv2, mx2, r1, r2, r3, r4, r5, r6, r7, r8⟩ | ⟨xc2, xt2, xn2, xl2, sx, mm2, mt2, mv2, mx2, sm, d, q, hd, r5, r6, r7, r8⟩
          · exact Or.inl ⟨ts2, p2, xc2, xt2, xn2, xl2, mm2, mt2, mv2, mx2, r1, by omega, r3, r4, f1.tr r5, f2.tr r6, q4.trans r7, r8⟩
          · exact Or.inr ⟨xc2, xt2, xn2, xl2, sx, mm2, mt2, mv2, mx2, sm, d, q, hd, f1.tr r5, f2.tr r6, q4.trans r7, r8⟩
        · rw [q5, bdS8, if_pos (show nI 0 = nI 0 from rfl)]
          exact Or.inr ⟨xc1, xt1, xn1, xl1, sx, mm, mt, mv, mx, sm, d, q, hd, q3, FrN.rf, q4, rfl⟩
end
section
/-- a page's plain values -/
theorem L_plainv_L {pre : Nat → AV} {B K N e S : Nat} {xk rc : Nat → Int32} {rb : Nat → Nat → Int32} {la : Nat → Nat → Int64} {mf : Nat → Int32} {mn : Nat → Int64} {mbl mby : Int32} {mw : Nat → Int32} (hs : Src rb mf e) (hS : rc 1 = nI S) (heS : e ≤ S) (hS2 : S ≤ 12000) (hK : xk 4 = nI K) (hK3 : K < 3) (hN : B + N ≤ 200) : ∀ (m n p : Nat) (ts : List TV) (xc : Nat → Int32) (xt : Nat → Nat → Int32) (xn : Nat → Nat → Int64) (xl : Nat → Nat → Int32) (mm mt : Nat → Int32) (mv : Nat → Int64) (mx : Nat → Int32), N - ts.length = m → ts.length ≤ N → m + 1 < n → p ≤ e → RS pre 4 B 6 K ts xc xt xn xl mm mt mv mx →
    (∃ ts' p' xc' xt' xn' xl' mm' mt' mv' mx', ts'.length = N ∧ p ≤ p' ∧ p' ≤ e ∧ RS pre 4 B 6 K ts' xc' xt' xn' xl' mm' mt' mv' mx' ∧ FrX 4 xc xt xn xl xc' xt' xn' xl' ∧ FrN 6 mm mt mv mx mm' mt' mv' mx' ∧ itr8 (p_X1_readPlain_L37 4 (nI N) xk rc rb la (some 1) (nI e)) n (nI ts.length) xc xt xn xl (nI p) (nI 0) (nI 0) = some (xc', xt', xn', xl', la, nI p', nI 0, nI 0) ∧ itr9 (p_X6_readValues_L84 (nI K) (nI N) mf mn (nI e) mbl mby mw) n (nI 1) (nI ts.length) mm mt mv mx (nI p) (nI 0) (nI 0) = some (nI 1, mm', mt', mv', mx', mn, nI p', nI e, nI 0, nI 0, mbl, mby, mw)) ∨
    (∃ xc' xt' xn' xl' sx mm' mt' mv' mx' sm d q, d ≠ nI 0 ∧ FrX 4 xc xt xn xl xc' xt' xn' xl' ∧ FrN 6 mm mt mv mx mm' mt' mv' mx' ∧ itr8 (p_X1_readPlain_L37 4 (nI N) xk rc rb la (some 1) (nI e)) n (nI ts.length) xc xt xn xl (nI p) (nI 0) (nI 0) = some (xc', xt', xn', xl', la, sx, d, q) ∧ itr9 (p_X6_readValues_L84 (nI K) (nI N) mf mn (nI e) mbl mby mw) n (nI 1) (nI ts.length) mm mt mv mx (nI p) (nI 0) (nI 0) = some (nI 0, mm', mt', mv', mx', mn, sm, nI e, d, q, mbl, mby, mw)) := by
  have b1 : isB (nI 1) = true := by decide
  have b0 : isB (nI 0) = true := by decide
  intro m
  induction m with
  | zero =>
    intro n p ts xc xt xn xl mm mt mv mx h1 h2 h3 hp hr
    cases n with
    | zero => omega
    | succ n =>
      left
      refine ⟨ts, p, xc, xt, xn, xl, mm, mt, mv, mx, by omega, by omega, hp, hr, FrX.rf, FrN.rf, ?_, ?_⟩
      · show p_X1_readPlain_L37 4 (nI N) xk rc rb la (some 1) (nI e) _ (nI ts.length) xc xt xn xl (nI p) (nI 0) (nI 0) = _
        rw [p_X1_readPlain_L37, if_neg (by rw [ltI (by omega) (by omega)]; omega)]
      · show p_X6_readValues_L84 (nI K) (nI N) mf mn (nI e) mbl mby mw _ (nI 1) (nI ts.length) mm mt mv mx (nI p) (nI 0) (nI 0) = _
        rw [p_X6_readValues_L84, if_neg (by rw [ltI (by omega) (by omega)]; omega), gdT b1]
  | succ m ih =>
    intro n p ts xc xt xn xl mm mt mv mx h1 h2 h3 hp hr
    cases n with
    | zero => omega
    | succ n =>
      cases n with
      | zero => omega
      | succ n =>
        have hM : itr9 (p_X6_readValues_L84 (nI K) (nI N) mf mn (nI e) mbl mby mw) (n + 1 + 1) (nI 1) (nI ts.length) mm mt mv mx (nI p) (nI 0) (nI 0) = p_X6_readValues_L84 (nI K) (nI N) mf mn (nI e) mbl mby mw (fun a b c d f g h i j => itr9 (p_X6_readValues_L84 (nI K) (nI N) mf mn (nI e) mbl mby mw) (n + 1) a b c d f g h i j) (nI 1) (nI ts.length) mm mt mv mx (nI p) (nI 0) (nI 0) := rfl
        rw [hM, p_X6_readValues_L84, if_pos (show nI ts.length < nI N by rw [ltI (by omega) (by omega)]; omega), if_neg (show ¬ nI 1 = nI 0 by decide), addI]
        rcases L_plain1 (cx := 4) (cm := 6) (K := K) (N := N) (j := ts.length) (n := n) (la := la) hs hS heS hS2 hp hK hK3 (B := B + ts.length) (Bm := ts.length) hr.1 (by omega) (by omega) hr.2.1 (by omega) (by omega) (by omega) with ⟨t, p1, q1, q2, q3, q4, q5⟩ | ⟨xc1, xt1, xn1, xl1, sx, sm, d, q, hd, q3, q4, q5⟩
        · have hr2 := hr.put q3
          have hlen : (ts ++ [t]).length = ts.length + 1 := by simp
          have hgo := ih (n + 1) p1 (ts ++ [t]) _ _ _ _ _ _ _ _ (by omega) (by omega) (by omega) q2 hr2
          rw [hlen] at hgo
          have f1 : FrX 4 xc xt xn xl (up xc 4 (nI (B + ts.length + 1))) (up xt 4 (up (xt 4) (B + ts.length) (nI 1))) (up xn 4 (up (xn 4) (B + ts.length) t.1)) (up xl 4 (wr (xl 4) ((B + ts.length) * 40) t.2)) := fun d hd => ⟨up_n hd, up_n hd, up_n hd, up_n hd⟩
          have f2 : FrN 6 mm mt mv mx (up mm 6 (nI (ts.length + 1))) (up mt (200 * 6 + ts.length) (nI 1)) (up mv (200 * 6 + ts.length) t.1) (wr mx (40 * (200 * 6 + ts.length)) (l40 t.2)) := FrN.put (some t) (by omega)
          rw [q5, bdS8]
          rcases hgo with ⟨ts2, p2, xc2, xt2, xn2, xl2, mm2, mt2, mv2, mx2, r1, r2, r3, r4, r5, r6, r7, r8⟩ | ⟨xc2, xt2, xn2, xl2, sx, mm2, mt2, mv2, mx2, sm, d, q, hd, r5, r6, r7, r8⟩
          · exact Or.inl ⟨ts2, p2, xc2, xt2, xn2, xl2, mm2, mt2, mv2, mx2, r1, by omega, r3, r4, f1.tr r5, f2.tr r6, q4.trans r7, r8⟩
          · exact Or.inr ⟨xc2, xt2, xn2, xl2, sx, mm2, mt2, mv2, mx2, sm, d, q, hd, f1.tr r5, f2.tr r6, q4.trans r7, r8⟩
        · rw [q5, bdS8]
          right
          refine ⟨xc1, xt1, xn1, xl1, sx, mm, mt, mv, mx, sm, d, q, hd, q3, FrN.rf, q4, ?_⟩
          show p_X6_readValues_L84 (nI K) (nI N) mf mn (nI e) mbl mby mw _ (nI 0) (nI (ts.length + 1)) mm mt mv mx sm d q = _
          rw [p_X6_readValues_L84, if_pos (show nI 0 = nI 0 from rfl), gdT b0, ite_self]
/-- numbers gathered before, put into the column -/
theorem L_push_L {pre : Nat → AV} {B K N : Nat} {xk : Nat → Int32} {la : Nat → Nat → Int64} {mn : Nat → Int64} {ma me mbl mby : Int32} {mw : Nat → Int32} (hK : xk 4 = nI K) (hK3 : K ≤ 3) (hK2 : K ≠ 2) (hN : B + N ≤ 200) (hk : Lk 2 N la mn) (hv : ∀ j, j < N → nvB K (mn j) = mn j) : ∀ (m n : Nat) (ts : List TV) (xc : Nat → Int32) (xt : Nat → Nat → Int32) (xn : Nat → Nat → Int64) (xl : Nat → Nat → Int32) (mm mt : Nat → Int32) (mv : Nat → Int64) (mx : Nat → Int32), N - ts.length = m → ts.length ≤ N → m + 1 < n → RS pre 4 B 6 K ts xc xt xn xl mm mt mv mx →
    ∃ ts' xc' xt' xn' mm' mt' mv' mx' xl', ts'.length = N ∧ RS pre 4 B 6 K ts' xc' xt' xn' xl' mm' mt' mv' mx' ∧ xl' = xl ∧ FrX 4 xc xt xn xl xc' xt' xn' xl' ∧ FrN 6 mm mt mv mx mm' mt' mv' mx' ∧ itr4 (p_X1_pushNumbers_L2 (nI N) xk la (nI 0)) n (nI ts.length) xc xt xn = some (xc', xt', xn') ∧ itr5 (p_X6_readValues_L143 (nI N) mn ma me (nI 0) (nI 0) mbl mby mw) n (nI ts.length) mm mt mv mx = some (nI 1, mm', mt', mv', mx', mn, ma, me, nI 0, nI 0, mbl, mby, mw) := by
  have es : p_X4_isSound (nI 0) = some (nI 1) := rfl
  intro m
  induction m with
  | zero =>
    intro n ts xc xt xn xl mm mt mv mx h1 h2 h3 hr
    cases n with
    | zero => omega
    | succ n =>
      refine ⟨ts, xc, xt, xn, mm, mt, mv, mx, xl, by omega, hr, rfl, FrX.rf, FrN.rf, ?_, ?_⟩
      · show p_X1_pushNumbers_L2 (nI N) xk la (nI 0) _ (nI ts.length) xc xt xn = _
        rw [p_X1_pushNumbers_L2, if_neg (by rw [ltI (by omega) (by omega)]; omega)]
      · show p_X6_readValues_L143 (nI N) mn ma me (nI 0) (nI 0) mbl mby mw _ (nI ts.length) mm mt mv mx = _
        rw [p_X6_readValues_L143, if_neg (by rw [ltI (by omega) (by omega)]; omega)]
  | succ m ih =>
    intro n ts xc xt xn xl mm mt mv mx h1 h2 h3 hr
    cases n with
    | zero => omega
    | succ n =>
      have ht : TVok K (mn ts.length, []) := ⟨by simp, b8L_nil, by rw [if_neg hK2]⟩
      have hr2 := hr.put ht
      have hlen : (ts ++ [(mn ts.length, ([] : List Int32))]).length = ts.length + 1 := by simp
      obtain ⟨ts2, xc2, xt2, xn2, mm2, mt2, mv2, mx2, xl2, r1, r2, r3, r4, r5, r6, r7⟩ := ih n (ts ++ [(mn ts.length, [])]) _ _ _ _ _ _ _ _ (by omega) (by omega) (by omega) hr2
      rw [hlen] at r6 r7
      have exl : up xl 4 (wr (xl 4) ((B + ts.length) * 40) (mn ts.length, ([] : List Int32)).2) = xl := by rw [wr_nil, up_id]
      have f1 : FrX 4 xc xt xn xl (up xc 4 (nI (B + ts.length + 1))) (up xt 4 (up (xt 4) (B + ts.length) (nI 1))) (up xn 4 (up (xn 4) (B + ts.length) (mn ts.length))) (up xl 4 (wr (xl 4) ((B + ts.length) * 40) (mn ts.length, ([] : List Int32)).2)) := fun d hd => ⟨up_n hd, up_n hd, up_n hd, up_n hd⟩
      have f2 : FrN 6 mm mt mv mx (up mm 6 (nI (ts.length + 1))) (up mt (200 * 6 + ts.length) (nI 1)) (up mv (200 * 6 + ts.length) (mn ts.length)) (wr mx (40 * (200 * 6 + ts.length)) (l40 [])) := FrN.put (some (mn ts.length, [])) (by omega)
      refine ⟨ts2, xc2, xt2, xn2, mm2, mt2, mv2, mx2, xl2, r1, r2, r3.trans exl, f1.tr r4, f2.tr r5, ?_, ?_⟩
      · show p_X1_pushNumbers_L2 (nI N) xk la (nI 0) _ (nI ts.length) xc xt xn = _
        rw [p_X1_pushNumbers_L2, if_pos (by rw [ltI (by omega) (by omega)]; omega), if_pos (by rw [ltI (by omega) (by omega)]; omega), es, bdS1, if_neg (show ¬ nI 1 = nI 0 by decide), inbI (by omega), gdD (by omega), ixI (by omega), hk ts.length (by omega), X_pushNumber hK hK3 hr.1 (by omega), bdS3, addI, hv ts.length (by omega)]
        exact r6
      · show p_X6_readValues_L143 (nI N) mn ma me (nI 0) (nI 0) mbl mby mw _ (nI ts.length) mm mt mv mx = _
        rw [p_X6_readValues_L143, if_pos (by rw [ltI (by omega) (by omega)]; omega), inbI (by omega), gdD (by omega), ixI (by omega)]
        unfold p_X6_reads
        rw [M_adds (by omega) (by omega) hr.2.1 (by omega), bdS5, bdS4, addI]
        exact r7
end
section
/-! what was read becomes the column -/
theorem X_become_L {c K : Nat} {xk xo : Nat → Int32} {vals : List AV} (hc : c < 4) (hK : xk c = nI K) (hK3 : K ≤ 3) (hw : ∀ a ∈ vals, wfv K a) (hl : vals.length ≤ 200) : ∀ (m n j : Nat) (xc : Nat → Int32) (xt : Nat → Nat → Int32) (xn : Nat → Nat → Int64) (xl : Nat → Nat → Int32), vals.length - j = m → j ≤ vals.length → m < n → xc 4 = nI vals.length → xc c = nI j → (∀ (i : Nat) (h : i < vals.length), XV xt xn xl 4 i vals[i]) → (∀ (i : Nat) (h : i < vals.length), i < j → XV xt xn xl c i vals[i]) → ∃ xt' xn' xl', itr5 (p_X0_become_L14 c 4 xk xo) n (nI j) xc xt xn xl = some (xk, xo, up xc c (nI vals.length), xt', xn', xl') ∧ (∀ (i : Nat) (h : i < vals.length), XV xt' xn' xl' c i vals[i]) ∧ FrC c xt xn xl xt' xn' xl' := by
  intro m
  induction m with
  | zero =>
    intro n j xc xt xn xl h1 h2 h3 h4 h5 h6 h7
    have : j = vals.length := by omega
    subst this
    cases n with
    | zero => omega
    | succ n =>
      refine ⟨xt, xn, xl, ?_, fun i hi => h7 i hi hi, FrC.rf⟩
      show p_X0_become_L14 c 4 xk xo _ (nI vals.length) xc xt xn xl = _
      rw [p_X0_become_L14, h4, if_neg (by rw [ltI (by omega) (by omega)]; omega), ← h5, up_id]
  | succ m ih =>
    intro n j xc xt xn xl h1 h2 h3 h4 h5 h6 h7
    cases n with
    | zero => omega
    | succ n =>
      have hj : j < vals.length := by omega
      have hwj := hw _ (List.getElem_mem hj)
      have e1 := X_setCopy (c := c) (i := j) (c2 := 4) (j := j) (by omega) (by omega) hK hK3 hwj (h6 j hj)
      obtain ⟨xt2, xn2, xl2, e2, g2, f2⟩ := ih n (j + 1) (up xc c (nI (j + 1))) (up xt c (up (xt c) j (nI (th vals[j])))) (up xn c (up (xn c) j (nu vals[j]))) (up xl c (wr (xl c) (j * 40) (le vals[j]))) (by omega) (by omega) (by omega) (by rw [up_n (show 4 ≠ c by omega)]; exact h4) up_s (fun i hi => by
        obtain ⟨a1, b1, d1⟩ := h6 i hi
        exact ⟨by rw [up_n (show 4 ≠ c by omega)]; exact a1, by rw [up_n (show 4 ≠ c by omega)]; exact b1, fun k hk => by rw [up_n (show 4 ≠ c by omega)]; exact d1 k hk⟩) (fun i hi hij => by
        by_cases e : i = j
        · subst e
          exact XV_set _
        · exact XV_set_n e hwj.1 (hw _ (List.getElem_mem hi)).1 (h7 i hi (by omega)))
      refine ⟨xt2, xn2, xl2, ?_, g2, FrC.tr (fun d hd => ⟨up_n hd, up_n hd, up_n hd⟩) f2⟩
      have ep : p_X0_pushCopy c 4 (nI j) xk xc xt xn xl = some (up xc c (nI (j + 1)), up xt c (up (xt c) j (nI (th vals[j]))), up xn c (up (xn c) j (nu vals[j])), up xl c (wr (xl c) (j * 40) (le vals[j]))) := by
        unfold p_X0_pushCopy
        rw [h5, if_neg (by rw [ltI (by omega) (by omega)]; omega), if_pos (by rw [ltI (by omega) (by omega)]; omega), e1, bdS3, addI]
      show p_X0_become_L14 c 4 xk xo _ (nI j) xc xt xn xl = _
      rw [p_X0_become_L14, h4, if_pos (by rw [ltI (by omega) (by omega)]; omega), ep, bdS4, addI]
      refine e2.trans ?_
      rw [up_up]
theorem M_become_L {c K : Nat} {vals : List AV} {mm : Nat → Int32} {mn : Nat → Int64} {ma me mb mba mpg mdi mbl mby : Int32} {mw : Nat → Int32} {mz mso mbo mco mcd : Int32} {ml : Nat → Int32} {mr : Int32} (hc : c < 4) (hw : ∀ a ∈ vals, wfv K a) (hl : vals.length ≤ 200) (h4 : mm 4 = nI vals.length) : ∀ (m n j : Nat) (mt : Nat → Int32) (mv : Nat → Int64) (mx : Nat → Int32), vals.length - j = m → j ≤ vals.length → m < n → MCol mt mv mx 4 vals → (∀ (i : Nat) (h : i < vals.length), i < j → MV mt mv mx (200 * c + i) vals[i]) → ∃ mt' mv' mx', itr4 (p_X6_read_L105 (nI c) mm mn ma me mb mba mpg mdi mbl mby mw mz mso mbo mco mcd ml mr) n (nI j) mt mv mx = some (mm c, mm, mt', mv', mx', mn, ma, me, mb, mba, mpg, mdi, mbl, mby, mw, mz, mso, mbo, mco, mcd, ml, mr) ∧ MCol mt' mv' mx' c vals ∧ FrM c mt mv mx mt' mv' mx' := by
  intro m
  induction m with
  | zero =>
    intro n j mt mv mx h1 h2 h3 h5 h6
    have : j = vals.length := by omega
    subst this
    cases n with
    | zero => omega
    | succ n =>
      refine ⟨mt, mv, mx, ?_, fun i hi => h6 i hi hi, fun _ _ _ h => h⟩
      show p_X6_read_L105 (nI c) mm mn ma me mb mba mpg mdi mbl mby mw mz mso mbo mco mcd ml mr _ (nI vals.length) mt mv mx = _
      rw [p_X6_read_L105, gdT (by decide), show ix (nI 4) = 4 from rfl, h4, if_neg (by rw [ltI (by omega) (by omega)]; omega), inbI (by omega), gdD (by omega), ixI (by omega)]
  | succ m ih =>
    intro n j mt mv mx h1 h2 h3 h5 h6
    cases n with
    | zero => omega
    | succ n =>
      have hj : j < vals.length := by omega
      have hwj := hw _ (List.getElem_mem hj)
      have e1 := M_copies (s1 := 200 * c + j) (s2 := 800 + j) (by omega) (by omega) hwj.2.1 (h5 j hj)
      obtain ⟨mt2, mv2, mx2, e2, g2, f2⟩ := ih n (j + 1) (up mt (200 * c + j) (nI (th vals[j]))) (up mv (200 * c + j) (nu vals[j])) (wr mx (40 * (200 * c + j)) (l40 (le vals[j]))) (by omega) (by omega) (by omega) (fun i hi => MV_wr_n (a := vals[j]) (s := 200 * c + j) (by omega) (h5 i hi)) (fun i hi hij => by
        by_cases e : i = j
        · subst e
          exact MV_wr _
        · exact MV_wr_n (by omega) (h6 i hi (by omega)))
      refine ⟨mt2, mv2, mx2, ?_, g2, fun s a hs hv => f2 s a hs (MV_wr_n (by omega) hv)⟩
      show p_X6_read_L105 (nI c) mm mn ma me mb mba mpg mdi mbl mby mw mz mso mbo mco mcd ml mr _ (nI j) mt mv mx = _
      rw [p_X6_read_L105, gdT (by decide), show ix (nI 4) = 4 from rfl, h4, if_pos (by rw [ltI (by omega) (by omega)]; omega), mulI, addI, addI, e1, bdS3, addI]
      exact e2
end
section
/-! a page's head while no fault is there: its last half -/
theorem splitL (x : Int64) : x < lN 0 ∨ ∃ j : Nat, j < 2 ^ 63 ∧ x = lN j := by
  by_cases h : x < lN 0
  · exact Or.inl h
  · exact Or.inr (pk_lOf h)
theorem isB_n {n : Nat} (h : n ≤ 1) : isB (nI n) = true := by
  have : n = 0 ∨ n = 1 := by omega
  rcases this with rfl | rfl <;> decide
def gcn (K rd : Nat) (a : Int64) : Nat := if a = lN 5 then (if K < 2 then 1 else 0) else if a = lN 6 then (if K = 2 then 1 else 0) else if a = lN 3 then (if K = 3 then 1 else 0) else if a = lN 8 then rd else if a = lN 0 then 1 else 0
theorem gcn_le {K rd : Nat} {a : Int64} (hr : rd ≤ 1) : gcn K rd a ≤ 1 := by
  unfold gcn
  repeat' split
  all_goals omega
theorem gcn_cd {K rd : Nat} {a : Int64} (h : gcn K rd a ≠ 0) : ∃ cd, cd ≤ 8 ∧ a = lN cd := by
  unfold gcn at h
  by_cases a5 : a = lN 5
  · exact ⟨5, by omega, a5⟩
  · by_cases a6 : a = lN 6
    · exact ⟨6, by omega, a6⟩
    · by_cases a3 : a = lN 3
      · exact ⟨3, by omega, a3⟩
      · by_cases a8 : a = lN 8
        · exact ⟨8, by omega, a8⟩
        · by_cases a0 : a = lN 0
          · exact ⟨0, by omega, a0⟩
          · rw [if_neg a5, if_neg a6, if_neg a3, if_neg a8, if_neg a0] at h
            exact absurd rfl h
theorem X_code {K rd : Nat} {a : Int64} {xk : Nat → Int32} (hK : xk 4 = nI K) (hK3 : K ≤ 3) (hr : rd ≤ 1) : p_X1_isDataCode a xk (nI rd) = some (nI (gcn K rd a)) := by
  have h4 : K = 0 ∨ K = 1 ∨ K = 2 ∨ K = 3 := by omega
  unfold p_X1_isDataCode gcn
  rw [hK, gdT (isB_n hr)]
  by_cases a5 : a = lN 5
  · rw [if_pos a5, if_pos a5]
    rcases h4 with rfl | rfl | rfl | rfl <;> rfl
  · rw [if_neg a5, if_neg a5]
    by_cases a6 : a = lN 6
    · rw [if_pos a6, if_pos a6]
      rcases h4 with rfl | rfl | rfl | rfl <;> rfl
    · rw [if_neg a6, if_neg a6]
      by_cases a3 : a = lN 3
      · rw [if_pos a3, if_pos a3]
        rcases h4 with rfl | rfl | rfl | rfl <;> rfl
      · rw [if_neg a3, if_neg a3]
        by_cases a8 : a = lN 8
        · rw [if_pos a8, if_pos a8]
        · rw [if_neg a8, if_neg a8]
          by_cases a0 : a = lN 0
          · rw [if_pos a0, if_pos a0]
          · rw [if_neg a0, if_neg a0]
theorem M_code {K rd : Nat} {a : Int64} {ma mz mdi mco : Int32} (hK3 : K ≤ 3) (hr : rd ≤ 1) (hdi : mdi < nI 0 ↔ rd = 0) : (if a = lN 0 then p_X6_readInner_J115 (nI K) a (nI 1) ma (nI 0) (nI 0) mdi mz (nI 0) mco else p_X6_readInner_J115 (nI K) a (nI 0) ma (nI 0) (nI 0) mdi mz (nI 0) mco) = if gcn K rd a = 0 then some (nI 0, ma, nI 8, mz, mz, mco, l2i a) else some (nI 1, ma, nI 0, nI 0, mz, mco, l2i a) := by
  have good : p_X6_readInner_J183 a ma (nI 0) (nI 0) mz mco = some (nI 1, ma, nI 0, nI 0, mz, mco, l2i a) := rfl
  have bad : p_X6_readInner_J187 a ma (nI 0) (nI 0) mz mco = some (nI 0, ma, nI 8, mz, mz, mco, l2i a) := rfl
  have n1 : ¬ nI 1 = nI 0 := by decide
  have ne : ∀ i j : Nat, i < 100 → j < 100 → i ≠ j → a = lN i → ¬ a = lN j := fun i j hi hj hij h1 h2 => by
    rw [h1, eqL (by omega) (by omega)] at h2
    exact hij h2
  unfold gcn
  by_cases a0 : a = lN 0
  · rw [if_pos a0, p_X6_readInner_J115, if_pos rfl, if_neg n1, good, if_neg (ne 0 5 (by omega) (by omega) (by omega) a0), if_neg (ne 0 6 (by omega) (by omega) (by omega) a0), if_neg (ne 0 3 (by omega) (by omega) (by omega) a0), if_neg (ne 0 8 (by omega) (by omega) (by omega) a0), if_pos a0, if_neg (by decide)]
  · rw [if_neg a0, p_X6_readInner_J115, if_pos rfl, if_pos rfl]
    by_cases a5 : a = lN 5
    · rw [if_pos a5, if_pos a5, p_X6_readInner_J142, if_neg (ne 5 6 (by omega) (by omega) (by omega) a5), p_X6_readInner_J155, if_neg (ne 5 3 (by omega) (by omega) (by omega) a5), p_X6_readInner_J168, if_neg (ne 5 8 (by omega) (by omega) (by omega) a5), good, bad]
      by_cases k : K < 2
      · rw [if_pos (show nI K < nI 2 by rw [ltI (by omega) (by omega)]; exact k), if_pos k, if_neg (by decide)]
      · rw [if_neg (show ¬ nI K < nI 2 by rw [ltI (by omega) (by omega)]; exact k), if_neg k, if_pos rfl]
    · rw [if_neg a5, if_neg a5, p_X6_readInner_J142]
      by_cases a6 : a = lN 6
      · rw [if_pos a6, if_pos a6, p_X6_readInner_J155, if_neg (ne 6 3 (by omega) (by omega) (by omega) a6), p_X6_readInner_J168, if_neg (ne 6 8 (by omega) (by omega) (by omega) a6), good, bad]
        by_cases k : K = 2
        · rw [if_pos (show nI K = nI 2 by rw [k]), if_pos k, if_neg (by decide)]
        · rw [if_neg (show ¬ nI K = nI 2 by rw [eqI (by omega) (by omega)]; exact k), if_neg k, if_pos rfl]
      · rw [if_neg a6, if_neg a6, p_X6_readInner_J155]
        by_cases a3 : a = lN 3
        · rw [if_pos a3, if_pos a3, p_X6_readInner_J168, if_neg (ne 3 8 (by omega) (by omega) (by omega) a3), good, bad]
          by_cases k : K = 3
          · rw [if_pos (show nI K = nI 3 by rw [k]), if_pos k, if_neg (by decide)]
          · rw [if_neg (show ¬ nI K = nI 3 by rw [eqI (by omega) (by omega)]; exact k), if_neg k, if_pos rfl]
        · rw [if_neg a3, if_neg a3, p_X6_readInner_J168]
          by_cases a8 : a = lN 8
          · rw [if_pos a8, if_pos a8, good, bad]
            by_cases k : rd = 0
            · rw [if_pos (hdi.mpr k), if_pos k]
            · rw [if_neg (fun h => k (hdi.mp h)), if_neg k]
          · rw [if_neg a8, if_neg a8, bad, if_neg a0, if_pos rfl]
theorem b246 {v4 : Int32} {v5 v9 : Int64} {xk : Nat → Int32} {rb : Nat → Nat → Int32} {srow : Option Nat} {ssp sen stp rdr rpd rpv rpc rzp : Int32} : p_X1_readHead_J246 v4 v5 v9 (nI 0) xk rb srow ssp sen (nI 0) stp rdr rpd rpv rpc rzp = p_X1_readHead_J246 v4 v5 v9 (nI 1) xk rb srow ssp sen (nI 8) rzp rdr rpd rpv rpc rzp := by
  unfold p_X1_readHead_J246
  rw [demF, d_demand (show nI 8 ≠ nI 0 by decide)]
theorem b291 {v4 : Int32} {v5 v9 v12 : Int64} {rb : Nat → Nat → Int32} {srow : Option Nat} {ssp sen stp rpd rpv rpc rzp : Int32} : p_X1_readHead_J291 v4 v5 v9 v12 (nI 0) rb srow ssp sen (nI 0) stp rpd rpv rpc rzp = p_X1_readHead_J291 v4 v5 v9 v12 (nI 1) rb srow ssp sen (nI 8) rzp rpd rpv rpc rzp := by
  unfold p_X1_readHead_J291
  rw [demF, d_demand (show nI 8 ≠ nI 0 by decide)]
abbrev IM : Type := Int32 × Int32 × Int32 × Int32 × Int32 × Int32 × Int32
/-- the code of a page -/
theorem L_codes {K N S p rd dat : Nat} {v5 : Int64} {xk : Nat → Int32} {rb : Nat → Nat → Int32} {mf : Nat → Int32} {mdi mso mz mcd rpd rpv rpc rzp : Int32} (hs : Src rb mf S) (hp : p ≤ S) (hK : xk 4 = nI K) (hK3 : K ≤ 3) (hr : rd ≤ 1) (hdi : mdi < nI 0 ↔ rd = 0) (hso : (dat = 1 ∧ mso = nI 0) ∨ (dat = 0 ∧ mso = nI 2)) :
    (∃ p' cd z zm, p < p' ∧ p' ≤ S ∧ (dat = 1 → gcn K rd (lN cd) = 1) ∧ (dat = 0 → cd = 0) ∧ cd ≤ 8 ∧ p_X1_readHead_J246 (nI dat) v5 (lN N) (nI 1) xk rb (some 1) (nI p) (nI S) (nI 0) (nI 0) (nI rd) rpd rpv rpc rzp = p_X1_readHead_J291 (nI dat) v5 (lN N) (lN cd) (nI 1) rb (some 1) (nI p') (nI S) (nI 0) (nI 0) rpd rpv rpc z ∧ p_X6_readInner_J73 (nI K) (lN N) mf (nI p) (nI S) (nI 0) (nI 0) mdi mz mso mcd = some (nI 1, nI p', nI 0, nI 0, zm, nI N, nI cd)) ∨
    (∃ d q sm zm co cd, d ≠ nI 0 ∧ HD (nI S) d q rpd rpv rpc (p_X1_readHead_J246 (nI dat) v5 (lN N) (nI 1) xk rb (some 1) (nI p) (nI S) (nI 0) (nI 0) (nI rd) rpd rpv rpc rzp) ∧ p_X6_readInner_J73 (nI K) (lN N) mf (nI p) (nI S) (nI 0) (nI 0) mdi mz mso mcd = some (nI 0, sm, d, q, zm, co, cd)) := by
  have n1 : ¬ nI 1 = nI 0 := by decide
  have hrB := isB_n hr
  have fail : p_X6_fails (nI 8) (nI (p + 1)) (nI 0) (nI 0) = some (nI 0, nI 8, nI (p + 1)) := rfl
  rw [p_X1_readHead_J246, p_X6_readInner_J73, demT, bdS2, l2iL]
  rcases L_zf (rzp := rzp) (mz := mz) hs hp with ⟨a, p1, q1, q2, e1, e2, e3⟩ | ⟨a, sx, z, sm, d, q, hd, e1, e2⟩ | ⟨a, sx, z, am, sm, zm, d, q, hd, e1, e2, e3⟩
  · rw [e1, e2, bdS5, bdS4, if_neg n1, e3, bdS5, if_pos (show nI 0 = nI 0 from rfl)]
    have bad : HD (nI S) (nI 8) (nI (p + 1)) rpd rpv rpc (p_X1_readHead_J291 (nI dat) v5 (lN N) a (nI 0) rb (some 1) (nI p1) (nI S) (nI 0) (nI 0) rpd rpv rpc (nI (p + 1))) := by
      rw [b291]
      exact dh_291 (by decide)
    rcases hso with ⟨rfl, rfl⟩ | ⟨rfl, rfl⟩
    · rw [if_neg n1, X_code hK hK3 hr, bdS1, M_code hK3 hr hdi]
      by_cases hg : gcn K rd a = 0
      · right
        rw [if_pos hg, hg]
        exact ⟨_, _, _, _, _, _, by decide, bad, rfl⟩
      · left
        obtain ⟨cd, hcd, rfl⟩ := gcn_cd hg
        have hg1 : gcn K rd (lN cd) = 1 := by have := gcn_le (K := K) (a := lN cd) hr; omega
        rw [if_neg hg, hg1, l2iL]
        exact ⟨p1, cd, nI (p + 1), nI (p + 1), by omega, q2, fun _ => hg1, fun h => by omega, hcd, rfl, rfl⟩
    · rw [if_pos (show nI 0 = nI 0 from rfl)]
      by_cases ha : a = lN 0
      · left
        subst ha
        rw [if_pos rfl, if_pos rfl, p_X6_readInner_J115, if_neg (show ¬ nI 2 = nI 0 by decide), p_X6_readInner_J190, if_neg n1, l2iL]
        exact ⟨p1, 0, nI (p + 1), nI (p + 1), by omega, q2, fun h => by omega, fun _ => rfl, by omega, rfl, rfl⟩
      · right
        rw [if_neg ha, if_neg ha, p_X6_readInner_J115, if_neg (show ¬ nI 2 = nI 0 by decide), p_X6_readInner_J190, if_pos rfl, fail, bdS3, if_pos rfl]
        exact ⟨_, _, _, _, _, _, by decide, bad, rfl⟩
  · right
    obtain ⟨b, eb⟩ := isData_any a (xk := xk) hrB
    rw [e1, e2, bdS5, bdS4, if_pos (show nI 0 = nI 0 from rfl), eb, bdS1]
    refine ⟨_, _, _, _, _, _, hd, ?_, rfl⟩
    split
    · split
      · exact dh_291 hd
      · exact dh_291 hd
    · exact dh_291 hd
  · right
    obtain ⟨b, eb⟩ := isData_any a (xk := xk) hrB
    rw [e1, e2, bdS5, bdS4, if_neg n1, e3, bdS5, if_neg hd, eb, bdS1]
    refine ⟨_, _, _, _, _, _, hd, ?_, rfl⟩
    split
    · split
      · exact dh_291 hd
      · exact dh_291 hd
    · exact dh_291 hd
def inX (v4 : Int32) (v5 : Int64) (xk xc : Nat → Int32) (rb : Nat → Nat → Int32) (ssp sen str stp rdr rpd rpv rpc rzp : Int32) : Option HX :=
  bd5 (p_X1_nextZigField rb (some 1) ssp sen str stp rzp) <| fun a_35 ssp_36 str_37 stp_38 rzp_39 =>
  if v4 = (nI 0) then
    p_X1_readHead_J219 v4 v5 a_35 (nI 200) xk rb (some 1) ssp_36 sen str_37 stp_38 rdr rpd rpv rpc rzp_39
  else
    p_X1_readHead_J219 v4 v5 a_35 ((nI 200) - (xc 4)) xk rb (some 1) ssp_36 sen str_37 stp_38 rdr rpd rpv rpc rzp_39
/-- how many values, and the code -/
theorem L_inner {K B S p rd dat : Nat} {v5 : Int64} {xk xc : Nat → Int32} {rb : Nat → Nat → Int32} {mf mm : Nat → Int32} {mdi mso mz mco mcd rpd rpv rpc rzp : Int32} (hs : Src rb mf S) (hp : p ≤ S) (hK : xk 4 = nI K) (hK3 : K ≤ 3) (hB : xc 4 = nI B) (hm : mm 4 = nI B) (hB2 : B ≤ 200) (hr : rd ≤ 1) (hdi : mdi < nI 0 ↔ rd = 0) (hso : (dat = 1 ∧ mso = nI 0) ∨ (dat = 0 ∧ mso = nI 2)) :
    (∃ p' N cd z zm, p < p' ∧ p' ≤ S ∧ N ≤ 200 ∧ (dat = 1 → N + B ≤ 200 ∧ gcn K rd (lN cd) = 1) ∧ (dat = 0 → cd = 0) ∧ cd ≤ 8 ∧ inX (nI dat) v5 xk xc rb (nI p) (nI S) (nI 0) (nI 0) (nI rd) rpd rpv rpc rzp = p_X1_readHead_J291 (nI dat) v5 (lN N) (lN cd) (nI 1) rb (some 1) (nI p') (nI S) (nI 0) (nI 0) rpd rpv rpc z ∧ p_X6_readInner (nI K) mm mf (nI p) (nI S) (nI 0) (nI 0) mdi mz mso mco mcd = some (nI 1, nI p', nI 0, nI 0, zm, nI N, nI cd)) ∨
    (∃ d q sm zm co cd, d ≠ nI 0 ∧ HD (nI S) d q rpd rpv rpc (inX (nI dat) v5 xk xc rb (nI p) (nI S) (nI 0) (nI 0) (nI rd) rpd rpv rpc rzp) ∧ p_X6_readInner (nI K) mm mf (nI p) (nI S) (nI 0) (nI 0) mdi mz mso mco mcd = some (nI 0, sm, d, q, zm, co, cd)) := by
  have n1 : ¬ nI 1 = nI 0 := by decide
  have hrB := isB_n hr
  have fail : p_X6_fails (nI 8) (nI (p + 1)) (nI 0) (nI 0) = some (nI 0, nI 8, nI (p + 1)) := rfl
  unfold inX p_X6_readInner
  rcases L_zf (rzp := rzp) (mz := mz) hs hp with ⟨a, p1, q1, q2, e1, e2, e3⟩ | ⟨a, sx, z, sm, d, q, hd, e1, e2⟩ | ⟨a, sx, z, am, sm, zm, d, q, hd, e1, e2, e3⟩
  · rw [e1, e2, bdS5, bdS4, if_neg n1, e3, bdS5, if_pos (show nI 0 = nI 0 from rfl), fail, bdS3, gdT (show isB (nI 0) = true by decide), hB, show ix (nI 4) = 4 from rfl, hm, subI (by omega)]
    have bad : HD (nI S) (nI 8) (nI (p + 1)) rpd rpv rpc (p_X1_readHead_J246 (nI dat) v5 a (nI 0) xk rb (some 1) (nI p1) (nI S) (nI 0) (nI 0) (nI rd) rpd rpv rpc (nI (p + 1))) := by
      rw [b246]
      exact dh_246 hrB (by decide)
    have bad219 : ∀ s0 : Nat, s0 < 2 ^ 31 → (a < lN 0 ∨ lN s0 < a) → HD (nI S) (nI 8) (nI (p + 1)) rpd rpv rpc (p_X1_readHead_J219 (nI dat) v5 a (nI s0) xk rb (some 1) (nI p1) (nI S) (nI 0) (nI 0) (nI rd) rpd rpv rpc (nI (p + 1))) := by
      intro s0 hs0 h
      rw [p_X1_readHead_J219, p_X1_readHead_J245, i2lI hs0]
      rcases h with h | h
      · rw [if_pos h]; exact bad
      · rw [if_pos h, ite_self]; exact bad
    have good219 : ∀ s0 N : Nat, s0 < 2 ^ 31 → N ≤ s0 → a = lN N → p_X1_readHead_J219 (nI dat) v5 a (nI s0) xk rb (some 1) (nI p1) (nI S) (nI 0) (nI 0) (nI rd) rpd rpv rpc (nI (p + 1)) = p_X1_readHead_J246 (nI dat) v5 (lN N) (nI 1) xk rb (some 1) (nI p1) (nI S) (nI 0) (nI 0) (nI rd) rpd rpv rpc (nI (p + 1)) := by
      intro s0 N hs0 h1 h2
      rw [p_X1_readHead_J219, i2lI hs0, h2, if_neg (show ¬ lN N < lN 0 by rw [ltL (by omega) (by omega)]; omega), if_neg (show ¬ lN s0 < lN N by rw [ltL (by omega) (by omega)]; omega)]
    rcases splitL a with hneg | ⟨N, hN, hNe⟩
    · right
      rw [if_pos hneg]
      refine ⟨_, _, _, _, _, _, by decide, ?_, rfl⟩
      split
      · exact bad219 200 (by omega) (Or.inl hneg)
      · exact bad219 _ (by omega) (Or.inl hneg)
    · have hn0 : ¬ a < lN 0 := by rw [hNe, ltL (by omega) (by omega)]; omega
      rw [if_neg hn0]
      by_cases h200 : 200 < N
      · right
        have hl : lN 200 < a := by rw [hNe, ltL (by omega) (by omega)]; exact h200
        rw [if_pos hl]
        refine ⟨_, _, _, _, _, _, by decide, ?_, rfl⟩
        split
        · exact bad219 200 (by omega) (Or.inr hl)
        · exact bad219 _ (by omega) (Or.inr (by rw [hNe, ltL (by omega) (by omega)]; omega))
      · have hl : ¬ lN 200 < a := by rw [hNe, ltL (by omega) (by omega)]; exact h200
        rw [if_neg hl, i2lI (by omega)]
        rcases hso with ⟨rfl, rfl⟩ | ⟨rfl, rfl⟩
        · rw [if_neg n1, if_pos (show nI 0 = nI 0 from rfl), gdT (by decide)]
          by_cases hb : 200 < N + B
          · right
            have hl2 : lN 200 < a + lN B := by rw [hNe, addL, ltL (by omega) (by omega)]; exact hb
            rw [if_pos hl2]
            refine ⟨_, _, _, _, _, _, by decide, ?_, rfl⟩
            exact bad219 _ (by omega) (Or.inr (by rw [hNe, ltL (by omega) (by omega)]; omega))
          · have hl2 : ¬ lN 200 < a + lN B := by rw [hNe, addL, ltL (by omega) (by omega)]; exact hb
            rw [if_neg hl2, good219 _ N (by omega) (by omega) hNe, hNe]
            rcases L_codes (v5 := v5) (N := N) (rpd := rpd) (rpv := rpv) (rpc := rpc) (rzp := nI (p + 1)) (mz := nI (p + 1)) (mcd := mcd) (mso := nI 0) (dat := 1) hs q2 hK hK3 hr hdi (Or.inl ⟨rfl, rfl⟩) with ⟨p', cd, z, zm, r1, r2, r3, r4, r5, r6, r7⟩ | ⟨d, q, sm, zm, co, cd, hd, r6, r7⟩
            · exact Or.inl ⟨p', N, cd, z, zm, by omega, r2, by omega, fun h => ⟨by omega, r3 h⟩, r4, r5, r6, r7⟩
            · exact Or.inr ⟨d, q, sm, zm, co, cd, hd, r6, r7⟩
        · rw [if_pos (show nI 0 = nI 0 from rfl), if_neg (show ¬ nI 2 = nI 0 by decide), good219 _ N (by omega) (by omega) hNe, hNe]
          rcases L_codes (v5 := v5) (N := N) (rpd := rpd) (rpv := rpv) (rpc := rpc) (rzp := nI (p + 1)) (mz := nI (p + 1)) (mcd := mcd) (mso := nI 2) (dat := 0) hs q2 hK hK3 hr hdi (Or.inr ⟨rfl, rfl⟩) with ⟨p', cd, z, zm, r1, r2, r3, r4, r5, r6, r7⟩ | ⟨d, q, sm, zm, co, cd, hd, r6, r7⟩
          · exact Or.inl ⟨p', N, cd, z, zm, by omega, r2, by omega, fun h => by omega, r4, r5, r6, r7⟩
          · exact Or.inr ⟨d, q, sm, zm, co, cd, hd, r6, r7⟩
  · right
    rw [e1, e2, bdS5, bdS4, if_pos (show nI 0 = nI 0 from rfl)]
    refine ⟨_, _, _, _, _, _, hd, ?_, rfl⟩
    split
    · exact dh_219 hrB hd
    · exact dh_219 hrB hd
  · right
    rw [e1, e2, bdS5, bdS4, if_neg n1, e3, bdS5, if_neg hd]
    refine ⟨_, _, _, _, _, _, hd, ?_, rfl⟩
    split
    · exact dh_219 hrB hd
    · exact dh_219 hrB hd
end
section
/-! a page's head while no fault is there: the whole -/
theorem L_291 {dat S p : Nat} {v5 v9 v12 : Int64} {rb : Nat → Nat → Int32} {mf : Nat → Int32} {rpd rpv rpc rzp : Int32} (hs : Src rb mf S) (hp : p ≤ S) :
    (p + 2 ≤ S ∧ p_X1_readHead_J291 (nI dat) v5 v9 v12 (nI 1) rb (some 1) (nI p) (nI S) (nI 0) (nI 0) rpd rpv rpc rzp = (if i2l (nI (S - (p + 2))) < v5 then p_X1_readHead_J339 (nI dat) v5 v9 v12 (nI 0) (nI (p + 2)) (nI S) (nI 0) (nI 0) rpd rpv rpc rzp else p_X1_readHead_J339 (nI dat) v5 v9 v12 (nI 1) (nI (p + 2)) (nI S) (nI 0) (nI 0) rpd rpv rpc rzp) ∧ p_X6_field (nI 0) mf (nI p) (nI S) (nI 0) (nI 0) = some (nI 1, nI (p + 1), nI 0, nI 0) ∧ p_X6_field (nI 0) mf (nI (p + 1)) (nI S) (nI 0) (nI 0) = some (nI 1, nI (p + 2), nI 0, nI 0)) ∨
    (∃ d q sm, d ≠ nI 0 ∧ HD (nI S) d q rpd rpv rpc (p_X1_readHead_J291 (nI dat) v5 v9 v12 (nI 1) rb (some 1) (nI p) (nI S) (nI 0) (nI 0) rpd rpv rpc rzp) ∧ (p_X6_field (nI 0) mf (nI p) (nI S) (nI 0) (nI 0) = some (nI 0, sm, d, q) ∨ (p_X6_field (nI 0) mf (nI p) (nI S) (nI 0) (nI 0) = some (nI 1, nI (p + 1), nI 0, nI 0) ∧ p_X6_field (nI 0) mf (nI (p + 1)) (nI S) (nI 0) (nI 0) = some (nI 0, sm, d, q)))) := by
  rw [p_X1_readHead_J291, demT, bdS2]
  unfold p_X4_left
  rcases L_expect (c := nI 0) hs hp with ⟨hlt, e1, e2⟩ | ⟨sx, sm, d, q, hd, e1, e2⟩
  · rcases L_expect (c := nI 0) hs (show p + 1 ≤ S by omega) with ⟨hlt2, e3, e4⟩ | ⟨sx, sm, d, q, hd, e3, e4⟩
    · left
      rw [e1, bdS3, e3, bdS3, bdS1, subI (by omega)]
      exact ⟨by omega, rfl, e2, e4⟩
    · right
      rw [e1, bdS3, e3, bdS3, bdS1]
      refine ⟨d, q, sm, hd, ?_, Or.inr ⟨e2, e4⟩⟩
      split
      · exact dh_339 hd
      · exact dh_339 hd
  · right
    rw [e1, bdS3, d_expect hd, bdS3, bdS1]
    refine ⟨d, q, sm, hd, ?_, Or.inl e2⟩
    split
    · exact dh_339 hd
    · exact dh_339 hd
abbrev HMt : Type := Int32 × Int32 × Int32 × Int32 × Int32 × Int32 × Int32 × Int32 × Int32 × Int32
/-- of a head: it stands; it stands but its body is not there whole; a fault -/
def HOut (K B S p rd : Nat) (rpd rpv rpc : Int32) (P : Nat → Prop) (x : Option HX) (m : Option HMt) : Prop :=
  (∃ p' bd N cd dat z zm so, p < p' ∧ p' + bd ≤ S ∧ N ≤ 200 ∧ cd ≤ 8 ∧ ((dat = 1 ∧ so = nI 0 ∧ N + B ≤ 200 ∧ gcn K rd (lN cd) = 1) ∨ (dat = 0 ∧ so = nI 2 ∧ cd = 0)) ∧ P dat ∧ x = some (nI p', nI (p' + bd), nI 0, nI 0, nI (1 - dat), nI N, nI cd, z) ∧ m = some (nI 1, nI p', nI S, nI 0, nI 0, zm, so, nI bd, nI N, nI cd)) ∨
  (∃ p' bd zm so co cd, p' ≤ S ∧ bd ≤ S ∧ S < p' + bd ∧ HD (nI S) (nI 1) (nI S) rpd rpv rpc x ∧ m = some (nI 1, nI p', nI S, nI 0, nI 0, zm, so, nI bd, co, cd)) ∨
  (∃ d q sm me zm so bo co cd, d ≠ nI 0 ∧ HD (nI S) d q rpd rpv rpc x ∧ m = some (nI 0, sm, me, d, q, zm, so, bo, co, cd))
theorem b163 {v4 : Int32} {v5 : Int64} {xk xc : Nat → Int32} {rb : Nat → Nat → Int32} {srow : Option Nat} {ssp sen stp rdr rpd rpv rpc rzp : Int32} : p_X1_readHead_J163 v4 v5 (nI 0) xk xc rb srow ssp sen (nI 0) stp rdr rpd rpv rpc rzp = p_X1_readHead_J163 v4 v5 (nI 1) xk xc rb srow ssp sen (nI 8) rzp rdr rpd rpv rpc rzp := by
  unfold p_X1_readHead_J163
  rw [demF, d_demand (show nI 8 ≠ nI 0 by decide)]
theorem b131 {v4 : Int32} {v5 : Int64} {xk xc : Nat → Int32} {rb : Nat → Nat → Int32} {srow : Option Nat} {ssp sen stp rdr rpd rpv rpc rzp : Int32} : p_X1_readHead_J131 v4 v5 (nI 0) xk xc rb srow ssp sen (nI 0) stp rdr rpd rpv rpc rzp = p_X1_readHead_J131 v4 v5 (nI 1) xk xc rb srow ssp sen (nI 8) rzp rdr rpd rpv rpc rzp := by
  unfold p_X1_readHead_J131
  rw [demF, d_demand (show nI 8 ≠ nI 0 by decide)]
theorem b89 {v1 v4 : Int32} {xk xc : Nat → Int32} {rb : Nat → Nat → Int32} {srow : Option Nat} {ssp sen stp rdr rpd rpv rpc rzp : Int32} : p_X1_readHead_J89 v1 v4 (nI 0) xk xc rb srow ssp sen (nI 0) stp rdr rpd rpv rpc rzp = p_X1_readHead_J89 v1 v4 (nI 1) xk xc rb srow ssp sen (nI 9) v1 rdr rpd rpv rpc rzp := by
  unfold p_X1_readHead_J89
  rw [demF, d_demand (show nI 9 ≠ nI 0 by decide)]
theorem b59 {v1 v4 : Int32} {xk xc : Nat → Int32} {rb : Nat → Nat → Int32} {srow : Option Nat} {ssp sen stp rwp rdr rpd rpv rpc rzp : Int32} : p_X1_readHead_J59 v1 v4 (nI 0) xk xc rb srow ssp sen (nI 0) stp rwp rdr rpd rpv rpc rzp = p_X1_readHead_J59 v1 v4 (nI 1) xk xc rb srow ssp sen (nI 8) rzp rwp rdr rpd rpv rpc rzp := by
  unfold p_X1_readHead_J59
  rw [demF, d_demand (show nI 8 ≠ nI 0 by decide)]
/-- from the byte behind the lengths on -/
theorem L_188 {K B S p rd dat bd : Nat} {P : Nat → Prop} {xk xc : Nat → Int32} {rb : Nat → Nat → Int32} {mf mm : Nat → Int32} {mdi mso mz mco mcd rpd rpv rpc rzp : Int32} (hs : Src rb mf S) (hp : p ≤ S) (hbd : bd ≤ S) (hK : xk 4 = nI K) (hK3 : K ≤ 3) (hB : xc 4 = nI B) (hm : mm 4 = nI B) (hB2 : B ≤ 200) (hr : rd ≤ 1) (hdi : mdi < nI 0 ↔ rd = 0) (hso : (dat = 1 ∧ mso = nI 0) ∨ (dat = 0 ∧ mso = nI 2)) (hP : P dat) :
    HOut K B S p rd rpd rpv rpc P (if nI dat = nI 0 then p_X1_readHead_J188 (nI dat) (lN bd) (nI 76) xk xc rb (some 1) (nI p) (nI S) (nI 0) (nI 0) (nI rd) rpd rpv rpc rzp else p_X1_readHead_J188 (nI dat) (lN bd) (nI 44) xk xc rb (some 1) (nI p) (nI S) (nI 0) (nI 0) (nI rd) rpd rpv rpc rzp) (if mso = nI 0 then p_X6_readHead_J218 (nI K) (nI 44) mm mf (nI p) (nI S) (nI 0) (nI 0) mdi mz mso (nI bd) mco mcd else p_X6_readHead_J218 (nI K) (nI 76) mm mf (nI p) (nI S) (nI 0) (nI 0) mdi mz mso (nI bd) mco mcd) := by
  have n1 : ¬ nI 1 = nI 0 := by decide
  have he := hs.1
  have hrB := isB_n hr
  have hd1 : dat ≤ 1 := by rcases hso with ⟨h, _⟩ | ⟨h, _⟩ <;> omega
  have key : ∀ c : Int32, HOut K B S p rd rpd rpv rpc P (p_X1_readHead_J188 (nI dat) (lN bd) c xk xc rb (some 1) (nI p) (nI S) (nI 0) (nI 0) (nI rd) rpd rpv rpc rzp) (p_X6_readHead_J218 (nI K) c mm mf (nI p) (nI S) (nI 0) (nI 0) mdi mz mso (nI bd) mco mcd) := by
    intro c
    have e188 : p_X1_readHead_J188 (nI dat) (lN bd) c xk xc rb (some 1) (nI p) (nI S) (nI 0) (nI 0) (nI rd) rpd rpv rpc rzp = bd3 (p_X4_expect c rb (some 1) (nI p) (nI S) (nI 0) (nI 0)) (fun ssp_31 str_32 stp_33 => inX (nI dat) (lN bd) xk xc rb ssp_31 (nI S) str_32 stp_33 (nI rd) rpd rpv rpc rzp) := rfl
    rw [e188, p_X6_readHead_J218]
    rcases L_expect (c := c) hs hp with ⟨hlt, e1, e2⟩ | ⟨sx, sm, d, q, hd, e1, e2⟩
    · rw [e1, e2, bdS3, bdS4, if_neg n1]
      rcases L_inner (v5 := lN bd) (rpd := rpd) (rpv := rpv) (rpc := rpc) (rzp := rzp) (mz := mz) (mco := mco) (mcd := mcd) (mso := mso) (dat := dat) hs (show p + 1 ≤ S by omega) hK hK3 hB hm hB2 hr hdi hso with ⟨p1, N, cd, z, zm, r1, r2, r3, r4, r5, r6, r7, r8⟩ | ⟨d, q, sm, zm, co, cd, hd, r7, r8⟩
      · rw [r7, r8, bdS7, if_neg n1]
        rcases L_291 (dat := dat) (v5 := lN bd) (v9 := lN N) (v12 := lN cd) (rpd := rpd) (rpv := rpv) (rpc := rpc) (rzp := z) hs r2 with ⟨g1, g2, g3, g4⟩ | ⟨d, q, sm, hd, g2, g3⟩
        · rw [g2, g3, bdS4, if_neg n1, g4, bdS4, if_neg n1, i2lI (by omega)]
          by_cases hov : S - (p1 + 2) < bd
          · right; left
            rw [if_pos (show lN (S - (p1 + 2)) < lN bd by rw [ltL (by omega) (by omega)]; exact hov)]
            refine ⟨p1 + 2, bd, zm, mso, nI N, nI cd, g1, hbd, by omega, ?_, rfl⟩
            rw [p_X1_readHead_J339, demF, bdS2, d_sound (by decide), bdS1, if_pos rfl]
            exact ⟨_, _, rfl⟩
          · left
            rw [if_neg (show ¬ lN (S - (p1 + 2)) < lN bd by rw [ltL (by omega) (by omega)]; exact hov)]
            have es : p_X4_isSound (nI 0) = some (nI 1) := rfl
            have hx : p_X1_readHead_J339 (nI dat) (lN bd) (lN N) (lN cd) (nI 1) (nI (p1 + 2)) (nI S) (nI 0) (nI 0) rpd rpv rpc z = some (nI (p1 + 2), nI (p1 + 2 + bd), nI 0, nI 0, nI (1 - dat), nI N, nI cd, z) := by
              rw [p_X1_readHead_J339, demT, bdS2, es, bdS1, if_neg n1, p_X1_readHead_J371, p_X1_readHead_J371, l2iL, l2iL, l2iL, addI, gdT (by decide), gdT (by decide)]
              have : dat = 0 ∨ dat = 1 := by omega
              rcases this with rfl | rfl
              · rw [if_pos rfl]
              · rw [if_neg n1]
            rw [hx]
            refine ⟨p1 + 2, bd, N, cd, dat, z, zm, mso, by omega, by omega, r3, r6, ?_, hP, rfl, rfl⟩
            rcases hso with ⟨h1, h2⟩ | ⟨h1, h2⟩
            · exact Or.inl ⟨h1, h2, (r4 h1).1, (r4 h1).2⟩
            · exact Or.inr ⟨h1, h2, r5 h1⟩
        · right; right
          rcases g3 with g3 | ⟨g3, g4⟩
          · rw [g3, bdS4, if_pos rfl]
            exact ⟨d, q, sm, _, _, _, _, _, _, hd, g2, rfl⟩
          · rw [g3, bdS4, if_neg n1, g4, bdS4, if_pos rfl]
            exact ⟨d, q, sm, _, _, _, _, _, _, hd, g2, rfl⟩
      · right; right
        rw [r8, bdS7, if_pos rfl]
        exact ⟨d, q, sm, _, _, _, _, _, _, hd, r7, rfl⟩
    · right; right
      rw [e1, e2, bdS3, bdS4, if_pos rfl]
      refine ⟨d, q, sm, _, _, _, _, _, _, hd, ?_, rfl⟩
      unfold inX
      obtain ⟨a, ea⟩ := d_zig (rb := rb) (srow := some 1) (ssp := sx) (sen := nI S) (stp := q) (rzp := rzp) hd
      rw [ea, bdS5]
      split
      · exact dh_219 hrB hd
      · exact dh_219 hrB hd
  rcases hso with ⟨h1, h2⟩ | ⟨h1, h2⟩
  · rw [if_neg (show ¬ nI dat = nI 0 by rw [h1]; exact n1), if_pos h2]
    exact key (nI 44)
  · rw [if_pos (show nI dat = nI 0 by rw [h1]), if_neg (show ¬ mso = nI 0 by rw [h2]; decide)]
    exact key (nI 76)
theorem HOut.mono {K B S p p1 rd : Nat} {rpd rpv rpc : Int32} {P : Nat → Prop} {x : Option HX} {m : Option HMt} (h : HOut K B S p1 rd rpd rpv rpc P x m) (hp : p ≤ p1) : HOut K B S p rd rpd rpv rpc P x m := by
  rcases h with ⟨p', bd, N, cd, dat, z, zm, so, a1, a2⟩ | h
  · exact Or.inl ⟨p', bd, N, cd, dat, z, zm, so, by omega, a2⟩
  · exact Or.inr h
/-- from the lengths on -/
theorem L_89 {K B S p rd dat : Nat} {P : Nat → Prop} {v1 : Int32} {xk xc : Nat → Int32} {rb : Nat → Nat → Int32} {mf mm : Nat → Int32} {mdi mso mz mbo mco mcd rpd rpv rpc rzp : Int32} (hs : Src rb mf S) (hp : p ≤ S) (hK : xk 4 = nI K) (hK3 : K ≤ 3) (hB : xc 4 = nI B) (hm : mm 4 = nI B) (hB2 : B ≤ 200) (hr : rd ≤ 1) (hdi : mdi < nI 0 ↔ rd = 0) (hso : (dat = 1 ∧ mso = nI 0) ∨ (dat = 0 ∧ mso = nI 2)) (hP : P dat) :
    HOut K B S p rd rpd rpv rpc P (p_X1_readHead_J89 v1 (nI dat) (nI 1) xk xc rb (some 1) (nI p) (nI S) (nI 0) (nI 0) (nI rd) rpd rpv rpc rzp) (p_X6_readHead_J94 (nI K) mm mf (nI S) (nI p) (nI S) (nI 0) (nI 0) mdi mz mso mbo mco mcd) := by
  have n1 : ¬ nI 1 = nI 0 := by decide
  have he := hs.1
  have hrB := isB_n hr
  have g0 : isB (nI 0) = true := by decide
  have fail : ∀ z : Int32, p_X6_fails (nI 8) z (nI 0) (nI 0) = some (nI 0, nI 8, z) := fun _ => rfl
  rw [p_X1_readHead_J89, demT, bdS2, p_X6_readHead_J94]
  unfold p_X4_left
  rcases L_zf (rzp := rzp) (mz := mz) hs hp with ⟨a, p1, q1, q2, e1, e2, e3⟩ | ⟨a, sx, z, sm, d, q, hd, e1, e2⟩ | ⟨a, sx, z, am, sm, zm, d, q, hd, e1, e2, e3⟩
  · rw [e1, e2, bdS5, bdS4, bdS1, if_neg n1, e3, bdS5, if_pos (show nI 0 = nI 0 from rfl), fail, bdS3, gdT g0, subI q2, i2lI (by omega), p_X1_readHead_J130]
    have bad : HD (nI S) (nI 8) (nI (p + 1)) rpd rpv rpc (p_X1_readHead_J131 (nI dat) a (nI 0) xk xc rb (some 1) (nI p1) (nI S) (nI 0) (nI 0) (nI rd) rpd rpv rpc (nI (p + 1))) := by
      rw [b131]
      exact dh_131 hrB (by decide)
    rcases splitL a with hneg | ⟨bd, hbd, hbe⟩
    · right; right
      rw [if_pos hneg, if_pos hneg]
      exact ⟨_, _, _, _, _, _, _, _, _, by decide, bad, rfl⟩
    · have hn0 : ¬ a < lN 0 := by rw [hbe, ltL (by omega) (by omega)]; omega
      rw [if_neg hn0, if_neg hn0]
      by_cases hov : S - p1 < bd
      · right; right
        have hl : lN (S - p1) < a := by rw [hbe, ltL (by omega) (by omega)]; exact hov
        rw [if_pos hl, if_pos hl]
        exact ⟨_, _, _, _, _, _, _, _, _, by decide, bad, rfl⟩
      · have hl : ¬ lN (S - p1) < a := by rw [hbe, ltL (by omega) (by omega)]; exact hov
        rw [if_neg hl, if_neg hl, hbe, l2iL, i2lI (by omega), p_X1_readHead_J131, demT, bdS2]
        rcases L_zf (rzp := nI (p + 1)) (mz := nI (p + 1)) hs q2 with ⟨a2, p2, q3, q4, e4, e5, e6⟩ | ⟨a2, sx, z, sm, d, q, hd, e4, e5⟩ | ⟨a2, sx, z, am, sm, zm, d, q, hd, e4, e5, e6⟩
        · rw [e4, e5, bdS5, bdS4, if_neg n1, e6, bdS5, if_pos (show nI 0 = nI 0 from rfl)]
          by_cases heq : a2 = lN bd
          · rw [if_pos heq, if_pos heq, p_X1_readHead_J163, demT, bdS2]
            exact (L_188 (bd := bd) hs q4 (by omega) hK hK3 hB hm hB2 hr hdi hso hP).mono (by omega)
          · right; right
            rw [if_neg heq, if_neg heq, fail, bdS3, gdT g0, b163]
            exact ⟨_, _, _, _, _, _, _, _, _, by decide, dh_163 hrB (by decide), rfl⟩
        · right; right
          rw [e4, e5, bdS5, bdS4, if_pos (show nI 0 = nI 0 from rfl)]
          refine ⟨_, _, _, _, _, _, _, _, _, hd, ?_, rfl⟩
          split
          · exact dh_163 hrB hd
          · exact dh_163 hrB hd
        · right; right
          rw [e4, e5, bdS5, bdS4, if_neg n1, e6, bdS5, if_neg hd]
          refine ⟨_, _, _, _, _, _, _, _, _, hd, ?_, rfl⟩
          split
          · exact dh_163 hrB hd
          · exact dh_163 hrB hd
  · right; right
    rw [e1, e2, bdS5, bdS4, bdS1, if_pos (show nI 0 = nI 0 from rfl), p_X1_readHead_J130]
    refine ⟨_, _, _, _, _, _, _, _, _, hd, ?_, rfl⟩
    split
    · exact dh_131 hrB hd
    · split
      · exact dh_131 hrB hd
      · exact dh_131 hrB hd
  · right; right
    rw [e1, e2, bdS5, bdS4, bdS1, if_neg n1, e3, bdS5, if_neg hd, p_X1_readHead_J130]
    refine ⟨_, _, _, _, _, _, _, _, _, hd, ?_, rfl⟩
    split
    · exact dh_131 hrB hd
    · split
      · exact dh_131 hrB hd
      · exact dh_131 hrB hd
/-- the head -/
theorem L_head {K B S p rd pg : Nat} {xk xc : Nat → Int32} {rb : Nat → Nat → Int32} {mf mm : Nat → Int32} {me mdi mso mz mbo mco mcd rpd rpv rpc rzp : Int32} (hs : Src rb mf S) (hp : p ≤ S) (hpg : pg ≤ p) (hpp : pg = 0 ↔ p = 0) (hK : xk 4 = nI K) (hK3 : K ≤ 3) (hB : xc 4 = nI B) (hm : mm 4 = nI B) (hB2 : B ≤ 200) (hr : rd ≤ 1) (hdi : mdi < nI 0 ↔ rd = 0) :
    HOut K B S p rd rpd rpv rpc (fun dat => dat = 0 → K ≠ 3 ∧ p = 0) (p_X1_readHead xk xc rb (some 1) (nI p) (nI S) (nI 0) (nI 0) (nI pg) (nI rd) rpd rpv rpc rzp) (p_X6_readHead (nI K) mm mf (nI S) (nI p) me (nI 0) (nI 0) mdi mz mso mbo mco mcd) := by
  have n1 : ¬ nI 1 = nI 0 := by decide
  have he := hs.1
  have hrB := isB_n hr
  have g0 : isB (nI 0) = true := by decide
  have fail : ∀ c z : Int32, p_X6_fails c z (nI 0) (nI 0) = some (nI 0, c, z) := fun _ _ => rfl
  unfold p_X1_readHead p_X6_readHead
  rcases L_zf (rzp := rzp) (mz := mz) hs hp with ⟨a, p1, q1, q2, e1, e2, e3⟩ | ⟨a, sx, z, sm, d, q, hd, e1, e2⟩ | ⟨a, sx, z, am, sm, zm, d, q, hd, e1, e2, e3⟩
  · rw [e1, e2, bdS5, bdS4, if_neg n1, e3, bdS5, if_pos (show nI 0 = nI 0 from rfl), fail, bdS3, gdT g0]
    by_cases a0 : a = lN 0
    · subst a0
      rw [if_pos rfl, if_pos rfl, p_X1_readHead_J24, if_neg n1, p_X1_readHead_J54, p_X1_readHead_J59, demT, bdS2, if_neg n1, p_X1_readHead_J84, p_X6_readHead_J68, l2iL, if_neg (show ¬ nI 0 = nI 2 by decide)]
      exact (L_89 (dat := 1) hs q2 hK hK3 hB hm hB2 hr hdi (Or.inl ⟨rfl, rfl⟩) (fun h => by omega)).mono (by omega)
    · rw [if_neg a0, if_neg a0, p_X1_readHead_J24, if_pos rfl, hK]
      have bad : HD (nI S) (nI 8) (nI (p + 1)) rpd rpv rpc (p_X1_readHead_J58 (nI p) (nI 0) xk xc rb (some 1) (nI p1) (nI S) (nI 0) (nI 0) (nI pg) (nI rd) rpd rpv rpc (nI (p + 1))) := by
        rw [p_X1_readHead_J58, b59]
        exact dh_59 hrB (by decide)
      by_cases a2 : a = lN 2
      · subst a2
        rw [if_pos rfl, if_pos rfl]
        by_cases k3 : K = 3
        · right; right
          rw [if_pos (show nI K = nI 3 by rw [k3]), if_pos (show nI K = nI 3 by rw [k3])]
          exact ⟨_, _, _, _, _, _, _, _, _, by decide, bad, rfl⟩
        · have hk3 : ¬ nI K = nI 3 := by rw [eqI (by omega) (by omega)]; exact k3
          rw [if_neg hk3, if_neg hk3, p_X1_readHead_J54, p_X1_readHead_J59, demT, bdS2, if_pos rfl, p_X6_readHead_J68, l2iL, if_pos rfl]
          by_cases p0 : p = 0
          · rw [if_pos (show nI pg = nI 0 by rw [hpp.mpr p0]), if_neg (show ¬ nI 0 < nI p by rw [p0]; decide), p_X1_readHead_J84]
            exact (L_89 (dat := 0) hs q2 hK hK3 hB hm hB2 hr hdi (Or.inr ⟨rfl, rfl⟩) (fun h => ⟨k3, p0⟩)).mono (by omega)
          · right; right
            rw [if_neg (show ¬ nI pg = nI 0 by rw [eqI (by omega) (by omega)]; exact fun h => p0 (hpp.mp h)), if_pos (show nI 0 < nI p by rw [ltI (by omega) (by omega)]; omega), fail, bdS3, gdT g0, b89]
            exact ⟨_, _, _, _, _, _, _, _, _, by decide, dh_89 hrB (by decide), rfl⟩
      · right; right
        rw [if_neg a2, if_neg a2]
        exact ⟨_, _, _, _, _, _, _, _, _, by decide, bad, rfl⟩
  · right; right
    rw [e1, e2, bdS5, bdS4, if_pos (show nI 0 = nI 0 from rfl)]
    refine ⟨_, _, _, _, _, _, _, _, _, hd, ?_, rfl⟩
    split
    · exact dh_24 hrB hd
    · exact dh_24 hrB hd
  · right; right
    rw [e1, e2, bdS5, bdS4, if_neg n1, e3, bdS5, if_neg hd]
    refine ⟨_, _, _, _, _, _, _, _, _, hd, ?_, rfl⟩
    split
    · exact dh_24 hrB hd
    · exact dh_24 hrB hd
end
section
/-! how great what the reference reads can be -/
def hiB (w : Nat) (v : Int64) : Prop := ∀ i, w ≤ i → i < 64 → lb v i = false
theorem hiB_nat {w : Nat} {v : Int64} (h : hiB w v) : ∃ x, x < 2 ^ w ∧ v = lN x := by
  refine ⟨v.toBitVec.toNat, ?_, ?_⟩
  · apply Nat.lt_pow_two_of_testBit
    intro i hi
    by_cases h64 : i < 64
    · exact h i hi h64
    · exact lb_big v (by omega)
  · apply Int64.toBitVec_inj.mp
    show _ = BitVec.ofNat 64 _
    rw [BitVec.ofNat_toNat, BitVec.setWidth_eq]
theorem hiB_mono {w k : Nat} {v : Int64} (h : hiB k v) (hk : k ≤ w) : hiB w v := fun i h1 h2 => h i (by omega) h2
theorem and1_nat (x : Int32) : ∃ b, b ≤ 1 ∧ x &&& nI 1 = nI b := by
  have key : ∀ y : BitVec 32, y &&& 1#32 = 0#32 ∨ y &&& 1#32 = 1#32 := by
    intro y
    have h : (y &&& 1#32).toNat = y.toNat % 2 := by
      rw [BitVec.toNat_and]
      exact Nat.and_one_is_mod _
    have h2 : y.toNat % 2 = 0 ∨ y.toNat % 2 = 1 := by omega
    rcases h2 with h2 | h2
    · left
      apply BitVec.eq_of_toNat_eq
      rw [h, h2]
      rfl
    · right
      apply BitVec.eq_of_toNat_eq
      rw [h, h2]
      rfl
  rcases key x.toBitVec with h | h
  · exact ⟨0, by omega, Int32.toBitVec_inj.mp h⟩
  · exact ⟨1, by omega, Int32.toBitVec_inj.mp h⟩
theorem hiB_put {j : Nat} {x : Int64} {y : Int32} (h : hiB j x) (hj : j < 64) : hiB (j + 1) (x ||| lshl (i2l (y &&& nI 1)) (nI j)) := by
  obtain ⟨b, hb, e⟩ := and1_nat y
  intro i h1 h2
  rw [e, i2lI (by omega), lb_or, h i (by omega) h2, lb_shl _ hj h2, lb_lN _ (by omega)]
  have : b = 0 ∨ b = 1 := by omega
  rcases this with rfl | rfl
  · simp
  · have e2 : Nat.testBit 1 (i - j) = false := by
      apply Nat.testBit_lt_two_pow
      exact Nat.one_lt_two_pow (by omega)
    rw [e2]
    simp
theorem R_packed {w : Nat} {mf : Nat → Int32} {ma me mb mba mbl mby : Int32} {v : Int64} {a b c d f : Int32} (hw : w ≤ 64) (h : p_X6_readPacked (nI w) mf ma me mb mba mbl mby = some (v, a, b, c, d, f)) : hiB w v := by
  have key := itr7_ind (F := p_X6_readPacked_L5 (nI w) mf me) (r := (v, a, b, c, d, f)) (P := fun v2 v4 _ _ _ _ _ => ∀ k, v4 = nI k → k ≤ w → hiB k v2 → hiB w v) (by
    intro k ih x1 x2 x3 x4 x5 x6 x7 hF j hj hjw hh
    subst hj
    rw [p_X6_readPacked_L5] at hF
    have stop : some (x1, x3, x4, x5, x6, x7) = some (v, a, b, c, d, f) → hiB w v := by
      intro h
      rw [← (inj6 h).1]
      exact hiB_mono hh hjw
    by_cases hjk : j < w
    · rw [if_pos (by rw [ltI (by omega) (by omega)]; exact hjk)] at hF
      have cont : ∀ m b2 c2 l y, p_X6_readPacked_J39 x1 (nI j) m b2 c2 l y k = some (v, a, b, c, d, f) → hiB w v := by
        intro m b2 c2 l y h
        rw [p_X6_readPacked_J39, addI] at h
        exact ih _ _ _ _ _ _ _ h (j + 1) rfl (by omega) (hiB_put hh (by omega))
      by_cases hm : x4 = nI 0
      · rw [if_pos hm] at hF
        by_cases hl : x6 = nI 0
        · rw [if_pos hl] at hF
          obtain ⟨y1, y2, y3, y4, _, h2⟩ := bd4_some hF
          exact cont _ _ _ _ _ h2
        · rw [if_neg hl] at hF
          exact cont _ _ _ _ _ hF
      · rw [if_neg hm] at hF
        exact stop hF
    · rw [if_neg (by rw [ltI (by omega) (by omega)]; exact hjk)] at hF
      exact stop hF) fu (lN 0) (nI 0) ma mb mba mbl mby h
  exact key 0 rfl (by omega) (fun i _ _ => lb_zero i)
theorem hiB_ushr {w : Nat} {v : Int64} (hw : w < 64) (h : lushr v (nI w) = lN 0) : hiB w v := fun i h1 _ => bl_hi (by have := (ushr_zero hw).mp h; omega)
theorem R_runs {n w : Nat} {mf : Nat → Int32} {mn mn' : Nat → Int64} {ma me mb mba mbl mby a b c d f : Int32} (hn : n ≤ 200) (hw : w < 64) (h : p_X6_readRuns (nI n) (nI w) mf mn ma me mb mba mbl mby = some (nI 1, mn', a, b, c, d, f)) : ∀ t, t < n → hiB w (mn' t) := by
  have key := itr7_ind (F := p_X6_readRuns_L2 (nI n) (nI w) mf me) (r := (nI 1, mn', a, b, c, d, f)) (P := fun v3 mn _ _ _ _ _ => ∀ i, v3 = nI i → i ≤ 500 → (∀ t, t < i → hiB w (mn t)) → ∀ t, t < n → hiB w (mn' t)) (by
    intro k ih x1 x2 x3 x4 x5 x6 x7 hF i hi hi5 hh
    subst hi
    have nofail : ∀ (f1 f2 g1 g2 q1 q2 q3 : Int32) (m : Nat → Int64), (bd3 (p_X6_fails f1 f2 g1 g2) fun a_6 mb_7 mba_8 => gd (isB a_6) (some (a_6, m, q1, mb_7, mba_8, q2, q3))) = some (nI 1, mn', a, b, c, d, f) → False := by
      intro f1 f2 g1 g2 q1 q2 q3 m h
      rw [p_X6_fails, bdS3, gdT (by decide)] at h
      exact absurd (inj7 h).1 (by decide)
    have j82 : ∀ (v4 : Int32) (v7 : Int64) (v9 : Int32) (s0 : Int64) (s1 ma2 mb2 mba2 l y : Int32), p_X6_readRuns_J82 (nI n) (nI w) (nI i) v4 v7 v9 s0 s1 mf x2 ma2 me mb2 mba2 l y k = some (nI 1, mn', a, b, c, d, f) → ∀ t, t < n → hiB w (mn' t) := by
      intro v4 v7 v9 s0 s1 ma2 mb2 mba2 l y h
      rw [p_X6_readRuns_J82] at h
      by_cases c1 : i2l s1 < s0
      · rw [if_pos c1] at h
        exact (nofail _ _ _ _ _ _ _ _ h).elim
      · rw [if_neg c1] at h
        by_cases c2 : v9 = nI 0
        · rw [if_pos c2] at h
          obtain ⟨y1, y2, y3, y4, _, h⟩ := bd4_some h
          by_cases c3 : y3 = nI 0
          · rw [if_pos c3] at h
            by_cases c4 : lushr y1 (nI w) = lN 0
            · rw [if_pos c4] at h
              have hv := hiB_ushr hw c4
              have k3 := itr3_ind (F := p_X6_readRuns_L208 v7 y1 (fun v3_22 mn_23 => k v3_22 mn_23 y2 y3 y4 l y)) (r := (nI 1, mn', a, b, c, d, f)) (P := fun v3 _ m => ∀ i, v3 = nI i → i ≤ 500 → (∀ t, t < i → hiB w (m t)) → ∀ t, t < n → hiB w (mn' t)) (by
                intro k3 ih3 z1 z2 z3 hF i hi hi5 hh
                subst hi
                rw [p_X6_readRuns_L208] at hF
                by_cases c5 : z2 < l2i v7
                · rw [if_pos c5] at hF
                  obtain ⟨g1, hF⟩ := gd_some hF
                  rw [inbI (by omega)] at g1
                  have g2 : i < 500 := of_decide_eq_true g1
                  rw [addI, ixI (by omega)] at hF
                  refine ih3 _ _ _ hF (i + 1) rfl (by omega) (fun t ht => ?_)
                  by_cases e : t = i
                  · rw [e, up_s]; exact hv
                  · rw [up_n e]; exact hh t (by omega)
                · rw [if_neg c5] at hF
                  exact ih _ _ _ _ _ _ _ hF i rfl hi5 hh) fu (nI i) (nI 0) x2 h
              exact k3 i rfl hi5 hh
            · rw [if_neg c4] at h
              exact (nofail _ _ _ _ _ _ _ _ h).elim
          · rw [if_neg c3] at h
            exact absurd (inj7 h).1 (by decide)
        · rw [if_neg c2] at h
          have k8 := itr8_ind (F := p_X6_readRuns_L108 (nI n) (nI w) v7 mf me (fun v3_37 mn_38 ma_39 mb_40 mba_41 mbl_42 mby_43 => k v3_37 mn_38 ma_39 mb_40 mba_41 mbl_42 mby_43)) (r := (nI 1, mn', a, b, c, d, f)) (P := fun v3 _ m _ _ _ _ _ => ∀ i, v3 = nI i → i ≤ 500 → (∀ t, t < i → hiB w (m t)) → ∀ t, t < n → hiB w (mn' t)) (by
            intro k8 ih8 z1 z2 z3 z4 z5 z6 z7 z8 hF i hi hi5 hh
            subst hi
            rw [p_X6_readRuns_L108] at hF
            by_cases c5 : z2 < nI 8 * l2i v7
            · rw [if_pos c5] at hF
              obtain ⟨y1, y2, y3, y4, y5, y6, e1, hF⟩ := bd6_some hF
              have hv := R_packed (by omega) e1
              by_cases c6 : y3 = nI 0
              · rw [if_pos c6] at hF
                by_cases c7 : nI i < nI n
                · rw [if_pos c7] at hF
                  obtain ⟨g1, hF⟩ := gd_some hF
                  rw [inbI (by omega)] at g1
                  have g2 : i < 500 := of_decide_eq_true g1
                  rw [addI, ixI (by omega)] at hF
                  refine ih8 _ _ _ _ _ _ _ _ hF (i + 1) rfl (by omega) (fun t ht => ?_)
                  by_cases e : t = i
                  · rw [e, up_s]; exact hv
                  · rw [up_n e]; exact hh t (by omega)
                · rw [if_neg c7] at hF
                  exact ih8 _ _ _ _ _ _ _ _ hF i rfl hi5 hh
              · rw [if_neg c6] at hF
                exact absurd (inj7 hF).1 (by decide)
            · rw [if_neg c5] at hF
              exact ih _ _ _ _ _ _ _ hF i rfl hi5 hh) fu (nI i) (nI 0) x2 ma2 mb2 mba2 (nI 0) y h
          exact k8 i rfl hi5 hh
    have j48 : ∀ (v4 : Int32) (v7 : Int64) (s0 ma2 mb2 mba2 l y : Int32), p_X6_readRuns_J48 (nI n) (nI w) (nI i) v4 v7 s0 mf x2 ma2 me mb2 mba2 l y k = some (nI 1, mn', a, b, c, d, f) → ∀ t, t < n → hiB w (mn' t) := by
      intro v4 v7 s0 ma2 mb2 mba2 l y h
      rw [p_X6_readRuns_J48] at h
      by_cases c1 : v7 = lN 0
      · rw [if_pos c1] at h
        exact (nofail _ _ _ _ _ _ _ _ h).elim
      · rw [if_neg c1] at h
        by_cases c2 : s0 = nI 0
        · rw [if_pos c2] at h
          exact j82 _ _ _ _ _ _ _ _ _ _ h
        · rw [if_neg c2] at h
          exact j82 _ _ _ _ _ _ _ _ _ _ h
    rw [p_X6_readRuns_L2] at hF
    by_cases c1 : nI i < nI n
    · rw [if_pos c1] at hF
      obtain ⟨y1, y2, y3, y4, _, hF⟩ := bd4_some hF
      by_cases c2 : y3 = nI 0
      · rw [if_pos c2] at hF
        by_cases c3 : y1 &&& lN 1 = lN 1
        · rw [if_pos c3] at hF
          exact j48 _ _ _ _ _ _ _ _ hF
        · rw [if_neg c3] at hF
          exact j48 _ _ _ _ _ _ _ _ hF
      · rw [if_neg c2] at hF
        exact absurd (inj7 hF).1 (by decide)
    · rw [if_neg c1] at hF
      rw [← (inj7 hF).2.1]
      intro t ht
      rw [ltI (by omega) (by omega)] at c1
      exact hh t (by omega)) fu (nI 0) mn ma mb mba mbl mby h
  exact key 0 rfl (by omega) (fun t ht => by omega)
end
section
/-! numbers gathered, then put into the column; truths packed -/
def XSt (pre : Nat → AV) (B : Nat) (f : Nat → Int64) (j : Nat) (xc : Nat → Int32) (xt : Nat → Nat → Int32) (xn : Nat → Nat → Int64) (xl : Nat → Nat → Int32) : Prop := xc 4 = nI (B + j) ∧ (∀ t, t < j → XV xt xn xl 4 (B + t) (some (f t, []))) ∧ ∀ t, t < B → XV xt xn xl 4 t (pre t)
def MSt (f : Nat → Int64) (j : Nat) (mm mt : Nat → Int32) (mv : Nat → Int64) (mx : Nat → Int32) : Prop := mm 6 = nI j ∧ ∀ t, t < j → MV mt mv mx (200 * 6 + t) (some (f t, []))
theorem XSt.put {pre : Nat → AV} {B : Nat} {f : Nat → Int64} {j : Nat} {xc : Nat → Int32} {xt : Nat → Nat → Int32} {xn : Nat → Nat → Int64} {xl : Nat → Nat → Int32} (h : XSt pre B f j xc xt xn xl) (hpre : ∀ j, (le (pre j)).length ≤ 40) : XSt pre B f (j + 1) (up xc 4 (nI (B + j + 1))) (up xt 4 (up (xt 4) (B + j) (nI 1))) (up xn 4 (up (xn 4) (B + j) (f j))) xl := by
  obtain ⟨h1, h2, h3⟩ := h
  have ex : up xl 4 (wr (xl 4) ((B + j) * 40) []) = xl := by rw [wr_nil, up_id]
  have hs := XV_set (xt := xt) (xn := xn) (xl := xl) (c := 4) (i := B + j) (some (f j, []))
  have hn : ∀ (i : Nat) (b : AV), i ≠ B + j → (le b).length ≤ 40 → XV xt xn xl 4 i b → XV (up xt 4 (up (xt 4) (B + j) (nI 1))) (up xn 4 (up (xn 4) (B + j) (f j))) xl 4 i b := by
    intro i b hi hb hv
    have := XV_set_n (a := some (f j, [])) hi (by simp [le]) hb hv
    rw [show le (some (f j, ([] : List Int32))) = [] from rfl, ex] at this
    exact this
  rw [show le (some (f j, ([] : List Int32))) = [] from rfl, ex] at hs
  refine ⟨up_s, fun t ht => ?_, fun t ht => hn t _ (by omega) (hpre t) (h3 t ht)⟩
  by_cases e : t = j
  · rw [e]; exact hs
  · exact hn _ _ (by omega) (by simp [le]) (h2 t (by omega))
theorem X_push_L {pre : Nat → AV} {B K N : Nat} {xk : Nat → Int32} {la : Nat → Nat → Int64} {f : Nat → Int64} {xl : Nat → Nat → Int32} (hK : xk 4 = nI K) (hK3 : K ≤ 3) (hN : B + N ≤ 200) (hk : ∀ t, t < N → nvB K (la 2 t) = f t) (hpre : ∀ j, (le (pre j)).length ≤ 40) : ∀ (m n j : Nat) (xc : Nat → Int32) (xt : Nat → Nat → Int32) (xn : Nat → Nat → Int64), N - j = m → j ≤ N → m < n → XSt pre B f j xc xt xn xl → ∃ xc' xt' xn', XSt pre B f N xc' xt' xn' xl ∧ FrX 4 xc xt xn xl xc' xt' xn' xl ∧ itr4 (p_X1_pushNumbers_L2 (nI N) xk la (nI 0)) n (nI j) xc xt xn = some (xc', xt', xn') := by
  have es : p_X4_isSound (nI 0) = some (nI 1) := rfl
  intro m
  induction m with
  | zero =>
    intro n j xc xt xn h1 h2 h3 hr
    have : j = N := by omega
    subst this
    cases n with
    | zero => omega
    | succ n =>
      refine ⟨xc, xt, xn, hr, FrX.rf, ?_⟩
      show p_X1_pushNumbers_L2 (nI j) xk la (nI 0) _ (nI j) xc xt xn = _
      rw [p_X1_pushNumbers_L2, if_neg (by rw [ltI (by omega) (by omega)]; omega)]
  | succ m ih =>
    intro n j xc xt xn h1 h2 h3 hr
    cases n with
    | zero => omega
    | succ n =>
      obtain ⟨xc2, xt2, xn2, r1, r2, r3⟩ := ih n (j + 1) _ _ _ (by omega) (by omega) (by omega) (hr.put hpre)
      refine ⟨xc2, xt2, xn2, r1, FrX.tr (fun d hd => ⟨up_n hd, up_n hd, up_n hd, rfl⟩) r2, ?_⟩
      show p_X1_pushNumbers_L2 (nI N) xk la (nI 0) _ (nI j) xc xt xn = _
      rw [p_X1_pushNumbers_L2, if_pos (by rw [ltI (by omega) (by omega)]; omega), if_pos (by rw [ltI (by omega) (by omega)]; omega), es, bdS1, if_neg (show ¬ nI 1 = nI 0 by decide), inbI (by omega), gdD (by omega), ixI (by omega), X_pushNumber hK hK3 hr.1 (by omega), bdS3, addI, hk j (by omega)]
      exact r3
theorem MSt.put {f : Nat → Int64} {j : Nat} {mm mt : Nat → Int32} {mv : Nat → Int64} {mx : Nat → Int32} (h : MSt f j mm mt mv mx) : MSt f (j + 1) (up mm 6 (nI (j + 1))) (up mt (200 * 6 + j) (nI 1)) (up mv (200 * 6 + j) (f j)) (wr mx (40 * (200 * 6 + j)) (l40 [])) := by
  refine ⟨up_s, fun t ht => ?_⟩
  by_cases e : t = j
  · rw [e]; exact MV_wr (some (f j, []))
  · exact MV_wr_n (a := some (f j, [])) (by omega) (h.2 t (by omega))
theorem MSt.cg {f g : Nat → Int64} {j : Nat} {mm mt : Nat → Int32} {mv : Nat → Int64} {mx : Nat → Int32} (h : MSt f j mm mt mv mx) (e : ∀ t, t < j → g t = f t) : MSt g j mm mt mv mx := ⟨h.1, fun t ht => by rw [e t ht]; exact h.2 t ht⟩
theorem M_push_L {N : Nat} {mn f : Nat → Int64} {ma me mbl mby : Int32} {mw : Nat → Int32} (hN : N ≤ 200) (hk : ∀ t, t < N → mn t = f t) : ∀ (m n j : Nat) (mm mt : Nat → Int32) (mv : Nat → Int64) (mx : Nat → Int32), N - j = m → j ≤ N → m < n → MSt f j mm mt mv mx → ∃ mm' mt' mv' mx', MSt f N mm' mt' mv' mx' ∧ FrN 6 mm mt mv mx mm' mt' mv' mx' ∧ itr5 (p_X6_readValues_L143 (nI N) mn ma me (nI 0) (nI 0) mbl mby mw) n (nI j) mm mt mv mx = some (nI 1, mm', mt', mv', mx', mn, ma, me, nI 0, nI 0, mbl, mby, mw) := by
  intro m
  induction m with
  | zero =>
    intro n j mm mt mv mx h1 h2 h3 hr
    have : j = N := by omega
    subst this
    cases n with
    | zero => omega
    | succ n =>
      refine ⟨mm, mt, mv, mx, hr, FrN.rf, ?_⟩
      show p_X6_readValues_L143 (nI j) mn ma me (nI 0) (nI 0) mbl mby mw _ (nI j) mm mt mv mx = _
      rw [p_X6_readValues_L143, if_neg (by rw [ltI (by omega) (by omega)]; omega)]
  | succ m ih =>
    intro n j mm mt mv mx h1 h2 h3 hr
    cases n with
    | zero => omega
    | succ n =>
      obtain ⟨mm2, mt2, mv2, mx2, r1, r2, r3⟩ := ih n (j + 1) _ _ _ _ (by omega) (by omega) (by omega) hr.put
      refine ⟨mm2, mt2, mv2, mx2, r1, FrN.tr (FrN.put (some (f j, [])) (by omega)) r2, ?_⟩
      show p_X6_readValues_L143 (nI N) mn ma me (nI 0) (nI 0) mbl mby mw _ (nI j) mm mt mv mx = _
      rw [p_X6_readValues_L143, if_pos (by rw [ltI (by omega) (by omega)]; omega), inbI (by omega), gdD (by omega), ixI (by omega), hk j (by omega)]
      unfold p_X6_reads
      rw [M_adds (by omega) (by omega) hr.1 (by omega), bdS5, bdS4, addI]
      exact r3
theorem L258_eq : @p_X6_readValues_L258 = @p_X6_readValues_L143 := rfl
def tvs (f : Nat → Int64) (N : Nat) : List TV := (List.range N).map (fun t => (f t, []))
theorem tvs_len {f : Nat → Int64} {N : Nat} : (tvs f N).length = N := by simp [tvs]
theorem tvs_at {f : Nat → Int64} {N j : Nat} (h : j < (tvs f N).length) : (tvs f N)[j] = (f j, []) := by simp [tvs]
theorem RS_of {pre : Nat → AV} {B K N : Nat} {f : Nat → Int64} {xc : Nat → Int32} {xt : Nat → Nat → Int32} {xn : Nat → Nat → Int64} {xl : Nat → Nat → Int32} {mm mt : Nat → Int32} {mv : Nat → Int64} {mx : Nat → Int32} (hx : XSt pre B f N xc xt xn xl) (hm : MSt f N mm mt mv mx) (hK : K ≠ 2) (hpre : ∀ j, (le (pre j)).length ≤ 40) : RS pre 4 B 6 K (tvs f N) xc xt xn xl mm mt mv mx := by
  refine ⟨by rw [tvs_len]; exact hx.1, by rw [tvs_len]; exact hm.1, fun j hj => ?_, fun j hj => ?_, fun t ht => ?_, hpre, hx.2.2⟩
  · rw [tvs_at]; rw [tvs_len] at hj; exact hx.2.1 j hj
  · rw [tvs_at]; rw [tvs_len] at hj; exact hm.2 j hj
  · obtain ⟨i, _, rfl⟩ := List.mem_map.mp ht
    exact ⟨by simp, b8L_nil, by rw [if_neg hK]⟩
theorem M_bit_in {mf : Nat → Int32} {p e c : Nat} {mby : Int32} (hc : c ≠ 0) (hc8 : c ≤ 8) : ∃ v, p_X6_readPacked (nI 1) mf (nI p) (nI e) (nI 0) (nI 0) (nI c) mby = some (v, nI p, nI 0, nI 0, nI (c - 1), mby) := by
  unfold p_X6_readPacked
  rw [fu_eq]
  refine ⟨lN 0 ||| lshl (i2l (ishr mby (nI 8 - nI c) &&& nI 1)) (nI 0), ?_⟩
  show p_X6_readPacked_L5 (nI 1) mf (nI e) _ (lN 0) (nI 0) (nI p) (nI 0) (nI 0) (nI c) mby = _
  rw [p_X6_readPacked_L5, if_pos (by decide), if_pos rfl, if_neg (show ¬ nI c = nI 0 by rw [eqI (by omega) (by omega)]; exact hc), p_X6_readPacked_J39, addI, subI (show 1 ≤ c by omega)]
  show p_X6_readPacked_L5 (nI 1) mf (nI e) _ _ (nI (0 + 1)) (nI p) (nI 0) (nI 0) (nI (c - 1)) mby = _
  rw [p_X6_readPacked_L5, if_neg (by decide)]
theorem M_bit_0 {rb : Nat → Nat → Int32} {mf : Nat → Int32} {p e : Nat} {mby : Int32} (hs : Src rb mf e) (hp : p ≤ e) : (∃ v y, p < e ∧ p_X6_readPacked (nI 1) mf (nI p) (nI e) (nI 0) (nI 0) (nI 0) mby = some (v, nI (p + 1), nI 0, nI 0, nI 7, y)) ∨ (∃ v x y z, p_X6_readPacked (nI 1) mf (nI p) (nI e) (nI 0) (nI 0) (nI 0) mby = some (v, x, nI 1, nI p, y, z)) := by
  unfold p_X6_readPacked
  rw [fu_eq]
  show (∃ v y, p < e ∧ p_X6_readPacked_L5 (nI 1) mf (nI e) _ (lN 0) (nI 0) (nI p) (nI 0) (nI 0) (nI 0) mby = some (v, nI (p + 1), nI 0, nI 0, nI 7, y)) ∨ (∃ v x y z, p_X6_readPacked_L5 (nI 1) mf (nI e) _ (lN 0) (nI 0) (nI p) (nI 0) (nI 0) (nI 0) mby = some (v, x, nI 1, nI p, y, z))
  rw [p_X6_readPacked_L5, if_pos (by decide), if_pos rfl, if_pos rfl]
  rcases L_next hs hp with ⟨b, hb, hlt, e1, e2⟩ | ⟨rfl, e1, e2⟩
  · left
    rw [e2, bdS4, p_X6_readPacked_J39, addI, show nI 8 - nI 1 = nI 7 by decide]
    refine ⟨lN 0 ||| lshl (i2l (ishr (nI b) (nI 8 - nI 8) &&& nI 1)) (nI 0), nI b, hlt, ?_⟩
    show p_X6_readPacked_L5 (nI 1) mf (nI e) _ _ (nI (0 + 1)) (nI (p + 1)) (nI 0) (nI 0) (nI 7) (nI b) = _
    rw [p_X6_readPacked_L5, if_neg (by decide)]
  · right
    rw [e2, bdS4, p_X6_readPacked_J39, addI]
    refine ⟨lN 0 ||| lshl (i2l (ishr (nI 0) (nI 8 - nI 8) &&& nI 1)) (nI 0), nI p, nI 8 - nI 1, nI 0, ?_⟩
    show p_X6_readPacked_L5 (nI 1) mf (nI p) _ _ (nI (0 + 1)) (nI p) (nI 1) (nI p) _ _ = _
    rw [p_X6_readPacked_L5, if_neg (by decide)]
theorem M_bit_c {rb : Nat → Nat → Int32} {mf : Nat → Int32} {p e c p' c' : Nat} {mby y : Int32} {v : Int64} (hs : Src rb mf e) (hp : p ≤ e) (hc : c < 8) (hc' : c' ≤ 8) (hp' : p' ≤ e) (h : p_X6_readPacked (nI 1) mf (nI p) (nI e) (nI 0) (nI 0) (nI c) mby = some (v, nI p', nI 0, nI 0, nI c', y)) : (c ≠ 0 → p' = p ∧ c' = c - 1) ∧ (c = 0 → c' = 7) := by
  have he := hs.1
  refine ⟨fun h0 => ?_, fun h0 => ?_⟩
  · obtain ⟨v2, e2⟩ := M_bit_in (mf := mf) (p := p) (e := e) (mby := mby) h0 (by omega)
    rw [e2] at h
    obtain ⟨_, h2, _, _, h5, _⟩ := inj6 h
    rw [eqI (by omega) (by omega)] at h2 h5
    exact ⟨h2.symm, h5.symm⟩
  · subst h0
    rcases M_bit_0 (mby := mby) hs hp with ⟨v2, y2, _, e2⟩ | ⟨v2, x2, y2, z2, e2⟩
    · rw [e2] at h
      obtain ⟨_, _, _, _, h5, _⟩ := inj6 h
      rw [eqI (by omega) (by omega)] at h5
      exact h5.symm
    · rw [e2] at h
      obtain ⟨_, _, h3, _, _, _⟩ := inj6 h
      exact absurd h3 (by decide)
/-- the bits that are left of the last byte -/
theorem X_tail {N G p e : Nat} {rb : Nat → Nat → Int32} {mf : Nat → Int32} (hs : Src rb mf e) (hp : p ≤ e) (hN : N ≤ 200) (hG : G < 2 ^ 30) : ∀ (c n j : Nat) (v6 mby : Int32) (la : Nat → Nat → Int64), j + c = G → N ≤ j → c < 8 → c + 1 < n → PB c v6 mby → itr7 (p_X4_nextPacked_L9 2 (nI 0) (nI N) (nI G) (nI 1) rb (some 1) (nI e)) n v6 (nI c) (nI (0 + j)) la (nI p) (nI 0) (nI 0) = some (la, nI p, nI 0, nI 0) := by
  have he := hs.1
  intro c
  induction c with
  | zero =>
    intro n j v6 mby la h1 h2 h3 h4 hc
    cases n with
    | zero => omega
    | succ n =>
      have : j = G := by omega
      subst this
      exact X_L9_end (by omega)
  | succ c ih =>
    intro n j v6 mby la h1 h2 h3 h4 hc
    cases n with
    | zero => omega
    | succ n =>
      cases n with
      | zero => omega
      | succ n =>
        obtain ⟨v2, e2⟩ := M_bit_in (mf := mf) (p := p) (e := e) (c := c + 1) (mby := mby) (by omega) (by omega)
        rcases X_L9 (r := 2) (a := 0) (lim := N) (cnt := G) (w := 1) (j := j) (n := n) (la := la) hs (by omega) hN (by omega) (by omega) hp hc with ⟨v', c', p', v6', mby', q1, q2, q3, q4, q5⟩ | ⟨la', sx, vm, sm, d, q, cm, bm, hd, q3, q4, q5⟩
        · have hcc := (M_bit_c hs hp (by omega) q3.1 q2 q4).1 (by omega)
          rw [q5, hcc.1, hcc.2, Nat.add_sub_cancel]
          have es : stA la 2 (0 + j) N v' = la := by unfold stA; rw [if_neg (by omega)]
          rw [es]
          rw [hcc.2, Nat.add_sub_cancel] at q3
          exact ih (n + 1) (j + 1) v6' mby' la (by omega) (by omega) (by omega) (by omega) q3
        · rw [e2] at q4
          exact absurd (inj6 q4).2.2.1.symm hd
abbrev VM : Type := Int32 × (Nat → Int32) × (Nat → Int32) × (Nat → Int64) × (Nat → Int32) × (Nat → Int64) × Int32 × Int32 × Int32 × Int32 × Int32 × Int32 × (Nat → Int32)
theorem L_truth_L {N e : Nat} {rb : Nat → Nat → Int32} {mf : Nat → Int32} {mn : Nat → Int64} {mw : Nat → Int32} (hs : Src rb mf e) (hN : N ≤ 200) : ∀ (m n j p c : Nat) (v6 mby : Int32) (la : Nat → Nat → Int64) (mm mt : Nat → Int32) (mv : Nat → Int64) (mx : Nat → Int32), N - j = m → j ≤ N → m + 10 < n → p ≤ e → PB c v6 mby → c < 8 → (c + j) % 8 = 0 → MSt (la 2) j mm mt mv mx → (∀ t, t < j → hiB 1 (la 2 t)) →
    (∃ la' p' c' mby' mm' mt' mv' mx', p ≤ p' ∧ p' ≤ e ∧ FrA 2 la la' ∧ MSt (la' 2) N mm' mt' mv' mx' ∧ (∀ t, t < N → hiB 1 (la' 2 t)) ∧ FrN 6 mm mt mv mx mm' mt' mv' mx' ∧ itr7 (p_X4_nextPacked_L9 2 (nI 0) (nI N) (nI ((N + 7) / 8 * 8)) (nI 1) rb (some 1) (nI e)) n v6 (nI c) (nI (0 + j)) la (nI p) (nI 0) (nI 0) = some (la', nI p', nI 0, nI 0) ∧ itr10 (p_X6_readValues_L33 (nI N) mf mn (nI e) mw) n (nI j) mm mt mv mx (nI p) (nI 0) (nI 0) (nI c) mby = some (nI 1, mm', mt', mv', mx', mn, nI p', nI e, nI 0, nI 0, nI c', mby', mw)) ∨
    (∃ la' sx mm' mt' mv' mx' sm d q cm bm, d ≠ nI 0 ∧ FrA 2 la la' ∧ FrN 6 mm mt mv mx mm' mt' mv' mx' ∧ itr7 (p_X4_nextPacked_L9 2 (nI 0) (nI N) (nI ((N + 7) / 8 * 8)) (nI 1) rb (some 1) (nI e)) n v6 (nI c) (nI (0 + j)) la (nI p) (nI 0) (nI 0) = some (la', sx, d, q) ∧ itr10 (p_X6_readValues_L33 (nI N) mf mn (nI e) mw) n (nI j) mm mt mv mx (nI p) (nI 0) (nI 0) (nI c) mby = some (nI 0, mm', mt', mv', mx', mn, sm, nI e, d, q, cm, bm, mw)) := by
  have he := hs.1
  intro m
  induction m with
  | zero =>
    intro n j p c v6 mby la mm mt mv mx h1 h2 h3 hp hc hc8 hcj hm hh
    have : j = N := by omega
    subst this
    cases n with
    | zero => omega
    | succ n =>
      left
      refine ⟨la, p, c, mby, mm, mt, mv, mx, by omega, hp, FrA.rf, hm, hh, FrN.rf, ?_, ?_⟩
      · exact X_tail hs hp hN (by omega) c (n + 1) j v6 mby la (by omega) (by omega) hc8 (by omega) hc
      · show p_X6_readValues_L33 (nI j) mf mn (nI e) mw _ (nI j) mm mt mv mx (nI p) (nI 0) (nI 0) (nI c) mby = _
        rw [p_X6_readValues_L33, if_neg (by rw [ltI (by omega) (by omega)]; omega)]
  | succ m ih =>
    intro n j p c v6 mby la mm mt mv mx h1 h2 h3 hp hc hc8 hcj hm hh
    cases n with
    | zero => omega
    | succ n =>
      cases n with
      | zero => omega
      | succ n =>
        have hM : itr10 (p_X6_readValues_L33 (nI N) mf mn (nI e) mw) (n + 1 + 1) (nI j) mm mt mv mx (nI p) (nI 0) (nI 0) (nI c) mby = p_X6_readValues_L33 (nI N) mf mn (nI e) mw (fun a b c d f g h i j k => itr10 (p_X6_readValues_L33 (nI N) mf mn (nI e) mw) (n + 1) a b c d f g h i j k) (nI j) mm mt mv mx (nI p) (nI 0) (nI 0) (nI c) mby := rfl
        rw [hM, p_X6_readValues_L33, if_pos (show nI j < nI N by rw [ltI (by omega) (by omega)]; omega)]
        rcases X_L9 (r := 2) (a := 0) (lim := N) (cnt := (N + 7) / 8 * 8) (w := 1) (j := j) (n := n) (la := la) hs (by omega) hN (by omega) (by omega) hp hc with ⟨v', c', p', v6', mby', q1, q2, q3, q4, q5⟩ | ⟨la', sx, vm, sm, d, q, cm, bm, hd, q3, q4, q5⟩
        · have hcc := M_bit_c hs hp hc8 q3.1 q2 q4
          have hhv := R_packed (by omega) q4
          rw [q4, bdS6, if_pos (show nI 0 = nI 0 from rfl)]
          unfold p_X6_reads
          rw [M_adds (by omega) (by omega) hm.1 (by omega), bdS5, bdS4, addI]
          have e0 : 0 + j = j := Nat.zero_add j
          have est : ∀ t, stA la 2 (0 + j) N v' 2 t = if t = j then v' else la 2 t := by
            intro t
            unfold stA
            rw [if_pos (by omega), up_s, e0]
            rfl
          have hm2 : MSt (stA la 2 (0 + j) N v' 2) (j + 1) (up mm 6 (nI (j + 1))) (up mt (200 * 6 + j) (nI 1)) (up mv (200 * 6 + j) v') (wr mx (40 * (200 * 6 + j)) (l40 [])) := by
            have := (hm.cg (g := fun t => stA la 2 (0 + j) N v' 2 t) (fun t ht => by rw [est, if_neg (by omega)])).put
            rw [show stA la 2 (0 + j) N v' 2 j = v' by rw [est, if_pos rfl]] at this
            exact this
          have hcn : c' < 8 ∧ (c' + (j + 1)) % 8 = 0 := by
            by_cases h0 : c = 0
            · have := hcc.2 h0; omega
            · have := (hcc.1 h0).2; omega
          rcases ih (n + 1) (j + 1) p' c' v6' mby' _ _ _ _ _ (by omega) (by omega) (by omega) q2 q3 hcn.1 hcn.2 hm2 (fun t ht => by
            rw [est]
            by_cases e : t = j
            · rw [if_pos e]; exact hhv
            · rw [if_neg e]; exact hh t (by omega)) with ⟨la2, p2, c2, by2, mm2, mt2, mv2, mx2, r1, r2, r3, r4, r5, r6, r7, r8⟩ | ⟨la2, sx, mm2, mt2, mv2, mx2, sm, d, q, cm, bm, hd, r3, r6, r7, r8⟩
          · exact Or.inl ⟨la2, p2, c2, by2, mm2, mt2, mv2, mx2, by omega, r2, stA_fr.tr r3, r4, r5, FrN.tr (FrN.put (some (v', [])) (by omega)) r6, q5.trans r7, r8⟩
          · exact Or.inr ⟨la2, sx, mm2, mt2, mv2, mx2, sm, d, q, cm, bm, hd, stA_fr.tr r3, FrN.tr (FrN.put (some (v', [])) (by omega)) r6, q5.trans r7, r8⟩
        · rw [q4, bdS6, if_neg hd]
          exact Or.inr ⟨la', sx, mm, mt, mv, mx, sm, d, q, cm, bm, hd, q3, FrN.rf, q5, rfl⟩
end
section
/-! a page's values, whatever their code; texts by their lengths -/
abbrev VX : Type := (Nat → Int32) × (Nat → Nat → Int32) × (Nat → Nat → Int64) × (Nat → Nat → Int32) × (Nat → Nat → Int64) × Int32 × Int32 × Int32 × Int32 × (Nat → Int32)
def VOut (pre : Nat → AV) (B K N p e : Nat) (xk xo : Nat → Int32) (rpv : Int32) (la : Nat → Nat → Int64) (xc : Nat → Int32) (xt : Nat → Nat → Int32) (xn : Nat → Nat → Int64) (xl : Nat → Nat → Int32) (mm mt : Nat → Int32) (mv : Nat → Int64) (mx : Nat → Int32) (x : Option VX) (m : Option VM) : Prop :=
  (∃ ts p' xc' xt' xn' xl' la' swd' mm' mt' mv' mx' mn' c b mw', ts.length = N ∧ p ≤ p' ∧ p' ≤ e ∧ RS pre 4 B 6 K ts xc' xt' xn' xl' mm' mt' mv' mx' ∧ FrX 4 xc xt xn xl xc' xt' xn' xl' ∧ FrN 6 mm mt mv mx mm' mt' mv' mx' ∧ FrA 2 la la' ∧ x = p_X1_readData_J169 (nI B) xk xo xc' xt' xn' xl' la' (nI p') (nI e) (nI 0) (nI 0) swd' rpv ∧ m = some (nI 1, mm', mt', mv', mx', mn', nI p', nI e, nI 0, nI 0, c, b, mw')) ∨
  (∃ xc' xt' xn' xl' la' sx sn swd' mm' mt' mv' mx' mn' sm me d q c b mw', d ≠ nI 0 ∧ FrX 4 xc xt xn xl xc' xt' xn' xl' ∧ FrN 6 mm mt mv mx mm' mt' mv' mx' ∧ x = some (xc', xt', xn', xl', la', sx, sn, d, q, swd') ∧ m = some (nI 0, mm', mt', mv', mx', mn', sm, me, d, q, c, b, mw'))
theorem d_169 {v1 : Int32} {xk xo xc : Nat → Int32} {xt : Nat → Nat → Int32} {xn : Nat → Nat → Int64} {xl : Nat → Nat → Int32} {la : Nat → Nat → Int64} {ssp sen d q : Int32} {swd : Nat → Int32} {rpv : Int32} (hd : d ≠ nI 0) : p_X1_readData_J169 v1 xk xo xc xt xn xl la ssp sen d q swd rpv = some (xc, xt, xn, xl, la, ssp, sen, d, q, swd) := by
  rw [p_X1_readData_J169, d_sound hd, bdS1, if_pos rfl, ite_self]
def sumF (f : Nat → Nat) : Nat → Nat → Nat
  | 0, _ => 0
  | k + 1, j => f j + sumF f k (j + 1)
def lnF (mn : Nat → Int64) (t : Nat) : Nat := ix (l2i (mn t))
theorem lnF_of {mn : Nat → Int64} {t l : Nat} (h : mn t = lN l) (hl : l ≤ 40) : lnF mn t = l := by
  unfold lnF
  rw [h, l2iL, ixI (by omega)]
theorem L_good_L {N : Nat} {la : Nat → Nat → Int64} {mn : Nat → Int64} {β γ : Type} {k91 : Int64 → Int32 → Option (((Nat → Int32) × (Nat → Nat → Int32) × (Nat → Nat → Int64) × (Nat → Nat → Int32) × (Nat → Nat → Int64) × Int32 × Int32 × Int32 × (Nat → Int32)))} {k70 : Int64 → Int32 → Option (Int32 × (Nat → Int32) × (Nat → Int32) × (Nat → Int64) × (Nat → Int32) × (Nat → Int64) × Int32 × Int32 × Int32 × Int32 × Int32 × (Nat → Int32))} (hk : Lk 2 N la mn) (hN : N ≤ 200) : ∀ (m n j : Nat) (sum : Int64) (fl : Nat), N - j = m → j ≤ N → m < n → fl ≤ 1 → ∃ sum' fl', fl' ≤ 1 ∧ (fl' = 1 → fl = 1 ∧ (∀ t, j ≤ t → t < N → ∃ l, l ≤ 40 ∧ mn t = lN l) ∧ ∀ s : Nat, sum = lN s → sum' = lN (s + sumF (lnF mn) (N - j) j)) ∧ itr3 (p_X1_readLengths_L21 (nI N) la k91) n sum (nI fl) (nI j) = k91 sum' (nI fl') ∧ itr3 (p_X6_readTexts_L19 (nI N) mn k70) n sum (nI fl) (nI j) = k70 sum' (nI fl') := by
  have n1 : ¬ nI 1 = nI 0 := by decide
  intro m
  induction m with
  | zero =>
    intro n j sum fl h1 h2 h3 hf
    have : j = N := by omega
    subst this
    cases n with
    | zero => omega
    | succ n =>
      refine ⟨sum, fl, hf, fun h => ⟨h, fun t ht1 ht2 => by omega, fun s hs => by rw [h1]; exact hs⟩, ?_, ?_⟩
      · show p_X1_readLengths_L21 (nI j) la k91 _ sum (nI fl) (nI j) = _
        rw [p_X1_readLengths_L21, if_neg (by rw [ltI (by omega) (by omega)]; omega)]
      · show p_X6_readTexts_L19 (nI j) mn k70 _ sum (nI fl) (nI j) = _
        rw [p_X6_readTexts_L19, if_neg (by rw [ltI (by omega) (by omega)]; omega)]
  | succ m ih =>
    intro n j sum fl h1 h2 h3 hf
    cases n with
    | zero => omega
    | succ n =>
      have hX : itr3 (p_X1_readLengths_L21 (nI N) la k91) (n + 1) sum (nI fl) (nI j) = p_X1_readLengths_L21 (nI N) la k91 (fun a b c => itr3 (p_X1_readLengths_L21 (nI N) la k91) n a b c) sum (nI fl) (nI j) := rfl
      have hM : itr3 (p_X6_readTexts_L19 (nI N) mn k70) (n + 1) sum (nI fl) (nI j) = p_X6_readTexts_L19 (nI N) mn k70 (fun a b c => itr3 (p_X6_readTexts_L19 (nI N) mn k70) n a b c) sum (nI fl) (nI j) := rfl
      have x73 : ∀ s0 : Int32, p_X1_readLengths_J73 sum (nI j) s0 la (fun a b c => itr3 (p_X1_readLengths_L21 (nI N) la k91) n a b c) = itr3 (p_X1_readLengths_L21 (nI N) la k91) n (sum + mn j) s0 (nI (j + 1)) := by
        intro s0
        rw [p_X1_readLengths_J73, inbI (by omega), gdD (by omega), ixI (by omega), hk j (by omega), addI]
      have m52 : ∀ s0 : Int32, p_X6_readTexts_J52 sum (nI j) s0 mn (fun a b c => itr3 (p_X6_readTexts_L19 (nI N) mn k70) n a b c) = itr3 (p_X6_readTexts_L19 (nI N) mn k70) n (sum + mn j) s0 (nI (j + 1)) := by
        intro s0
        rw [p_X6_readTexts_J52, inbI (by omega), gdD (by omega), ixI (by omega), addI]
      rw [hX, hM, p_X1_readLengths_L21, p_X6_readTexts_L19, if_pos (show nI j < nI N by rw [ltI (by omega) (by omega)]; omega), if_pos (show nI j < nI 200 by rw [ltI (by omega) (by omega)]; omega), if_pos (show nI j < nI N by rw [ltI (by omega) (by omega)]; omega), p_X1_readLengths_J72, p_X6_readTexts_J51, x73, x73, m52, m52, inbI (by omega), gdD (by omega), gdD (by omega), inbI (by omega), gdD (by omega), ixI (by omega), hk j (by omega), M_in]
      have bad : ∃ sum' fl', fl' ≤ 1 ∧ (fl' = 1 → fl = 1 ∧ (∀ t, j ≤ t → t < N → ∃ l, l ≤ 40 ∧ mn t = lN l) ∧ ∀ s : Nat, sum = lN s → sum' = lN (s + sumF (lnF mn) (N - j) j)) ∧ itr3 (p_X1_readLengths_L21 (nI N) la k91) n (sum + mn j) (nI 0) (nI (j + 1)) = k91 sum' (nI fl') ∧ itr3 (p_X6_readTexts_L19 (nI N) mn k70) n (sum + mn j) (nI 0) (nI (j + 1)) = k70 sum' (nI fl') := by
        obtain ⟨s2, f2, r1, r2, r3, r4⟩ := ih n (j + 1) (sum + mn j) 0 (by omega) (by omega) (by omega) (by omega)
        exact ⟨s2, f2, r1, fun h => by have := (r2 h).1; omega, r3, r4⟩
      by_cases f0 : fl = 0
      · subst f0
        rw [if_pos (show nI 0 = nI 0 from rfl), if_pos (show nI 0 = nI 0 from rfl)]
        exact bad
      · have f1 : fl = 1 := by omega
        subst f1
        rw [if_neg n1, if_neg n1, bdS1, lN_toInt (show 0 < 2 ^ 31 by omega), lN_toInt (show 40 < 2 ^ 31 by omega)]
        rcases splitL (mn j) with hneg | ⟨l, hl, he⟩
        · have : (mn j).toInt < 0 := by
            have := Int64.lt_iff_toInt_lt.mp hneg
            rw [lN_toInt (by omega)] at this
            omega
          rw [if_pos hneg, if_neg (show ¬ (((0 : Nat) : Int) ≤ (mn j).toInt ∧ (mn j).toInt ≤ ((40 : Nat) : Int)) by omega), if_pos (show nI 0 = nI 0 from rfl)]
          exact bad
        · have e1 : (mn j).toInt = (l : Int) := by rw [he]; exact pk_lT hl
          rw [if_neg (show ¬ mn j < lN 0 by rw [he, ltL (by omega) (by omega)]; omega)]
          by_cases h40 : 40 < l
          · rw [if_pos (show lN 40 < mn j by rw [he, ltL (by omega) (by omega)]; exact h40), if_neg (show ¬ (((0 : Nat) : Int) ≤ (mn j).toInt ∧ (mn j).toInt ≤ ((40 : Nat) : Int)) by omega), if_pos (show nI 0 = nI 0 from rfl)]
            exact bad
          · rw [if_neg (show ¬ lN 40 < mn j by rw [he, ltL (by omega) (by omega)]; exact h40), if_pos (show (((0 : Nat) : Int) ≤ (mn j).toInt ∧ (mn j).toInt ≤ ((40 : Nat) : Int)) by omega), if_neg n1]
            obtain ⟨s2, f2, r1, r2, r3, r4⟩ := ih n (j + 1) (sum + mn j) 1 (by omega) (by omega) (by omega) (by omega)
            refine ⟨s2, f2, r1, fun h => ⟨rfl, fun t ht1 ht2 => ?_, fun s hs => ?_⟩, r3, r4⟩
            · by_cases e : t = j
              · rw [e]; exact ⟨l, by omega, he⟩
              · exact (r2 h).2.1 t (by omega) ht2
            · have e2 : N - j = (N - (j + 1)) + 1 := by omega
              rw [(r2 h).2.2 (s + l) (by rw [hs, he, addL]), e2]
              show _ = lN (s + (lnF mn j + sumF (lnF mn) (N - (j + 1)) (j + 1)))
              rw [lnF_of he (by omega), Nat.add_assoc]
/-- the letters of texts whose lengths are known to fit -/
theorem L_texts_L {pre : Nat → AV} {B N e S : Nat} {rc : Nat → Int32} {rb : Nat → Nat → Int32} {la : Nat → Nat → Int64} {mf : Nat → Int32} {mn : Nat → Int64} {mbl mby : Int32} {mw swd : Nat → Int32} (hs : Src rb mf e) (hS : rc 1 = nI S) (heS : e ≤ S) (hS2 : S ≤ 12000) (hN : B + N ≤ 200) (hk : Lk 2 N la mn) (hl : ∀ t, t < N → ∃ l, l ≤ 40 ∧ mn t = lN l) : ∀ (m n p : Nat) (ts : List TV) (xc : Nat → Int32) (xt : Nat → Nat → Int32) (xn : Nat → Nat → Int64) (xl : Nat → Nat → Int32) (mm mt : Nat → Int32) (mv : Nat → Int64) (mx : Nat → Int32), N - ts.length = m → ts.length ≤ N → m + 1 < n → p + sumF (lnF mn) (N - ts.length) ts.length ≤ e → RS pre 4 B 6 2 ts xc xt xn xl mm mt mv mx →
    ∃ ts' p' xc' xt' xn' xl' mm' mt' mv' mx', ts'.length = N ∧ p ≤ p' ∧ p' ≤ e ∧ RS pre 4 B 6 2 ts' xc' xt' xn' xl' mm' mt' mv' mx' ∧ FrX 4 xc xt xn xl xc' xt' xn' xl' ∧ FrN 6 mm mt mv mx mm' mt' mv' mx' ∧ itr6 (p_X1_readLengths_L133 (nI N) rc rb la (some 1) (nI e) (nI 0) (nI 0) swd) n (nI ts.length) xc xt xn xl (nI p) = some (xc', xt', xn', xl', la, nI p', nI 0, nI 0, swd) ∧ itr8 (p_X6_readTexts_L101 (nI N) mf mn (nI e) mbl mby mw) n (nI ts.length) mm mt mv mx (nI p) (nI 0) (nI 0) = some (nI 1, mm', mt', mv', mx', mn, nI p', nI 0, nI 0, mbl, mby, mw) := by
  have he := hs.1
  have es : p_X4_isSound (nI 0) = some (nI 1) := rfl
  have n1 : ¬ nI 1 = nI 0 := by decide
  intro m
  induction m with
  | zero =>
    intro n p ts xc xt xn xl mm mt mv mx h1 h2 h3 hp hr
    cases n with
    | zero => omega
    | succ n =>
      refine ⟨ts, p, xc, xt, xn, xl, mm, mt, mv, mx, by omega, by omega, by omega, hr, FrX.rf, FrN.rf, ?_, ?_⟩
      · show p_X1_readLengths_L133 (nI N) rc rb la (some 1) (nI e) (nI 0) (nI 0) swd _ (nI ts.length) xc xt xn xl (nI p) = _
        rw [p_X1_readLengths_L133, if_neg (by rw [ltI (by omega) (by omega)]; omega)]
      · show p_X6_readTexts_L101 (nI N) mf mn (nI e) mbl mby mw _ (nI ts.length) mm mt mv mx (nI p) (nI 0) (nI 0) = _
        rw [p_X6_readTexts_L101, if_neg (by rw [ltI (by omega) (by omega)]; omega)]
  | succ m ih =>
    intro n p ts xc xt xn xl mm mt mv mx h1 h2 h3 hp hr
    cases n with
    | zero => omega
    | succ n =>
      obtain ⟨l, hl40, hle⟩ := hl ts.length (by omega)
      have e2 : N - ts.length = (N - (ts.length + 1)) + 1 := by omega
      rw [e2] at hp
      have hp2 : p + (lnF mn ts.length + sumF (lnF mn) (N - (ts.length + 1)) (ts.length + 1)) ≤ e := hp
      rw [lnF_of hle hl40] at hp2
      have ht : TVok 2 (lN l, fl mf p l) := ⟨by rw [fl_len]; exact hl40, b8L_fl _ _ _, by rw [if_pos rfl, fl_len]⟩
      have hr2 := hr.put ht
      have hlen : (ts ++ [(lN l, fl mf p l)]).length = ts.length + 1 := by simp
      have hgo := ih n (p + l) (ts ++ [(lN l, fl mf p l)]) _ _ _ _ _ _ _ _ (by omega) (by omega) (by omega) (by rw [hlen]; omega) hr2
      rw [hlen] at hgo
      obtain ⟨ts2, p2, xc2, xt2, xn2, xl2, mm2, mt2, mv2, mx2, r1, r2, r3, r4, r5, r6, r7, r8⟩ := hgo
      refine ⟨ts2, p2, xc2, xt2, xn2, xl2, mm2, mt2, mv2, mx2, r1, by omega, r3, r4, FrX.tr (fun d hd => ⟨up_n hd, up_n hd, up_n hd, up_n hd⟩) r5, FrN.tr (FrN.put (some (lN l, fl mf p l)) (by omega)) r6, ?_, ?_⟩
      · show p_X1_readLengths_L133 (nI N) rc rb la (some 1) (nI e) (nI 0) (nI 0) swd _ (nI ts.length) xc xt xn xl (nI p) = _
        rw [p_X1_readLengths_L133, if_pos (by rw [ltI (by omega) (by omega)]; omega), if_pos (by rw [ltI (by omega) (by omega)]; omega), es, bdS1, if_neg n1, inbI (by omega), gdD (by omega), ixI (by omega), hk ts.length (by omega), hle, l2iL, X_ntext hs hS heS hS2 hr.1 (by omega) hl40 (by omega), bdS5, addI]
        exact r7
      · show p_X6_readTexts_L101 (nI N) mf mn (nI e) mbl mby mw _ (nI ts.length) mm mt mv mx (nI p) (nI 0) (nI 0) = _
        rw [p_X6_readTexts_L101, if_pos (by rw [ltI (by omega) (by omega)]; omega), inbI (by omega), gdD (by omega), ixI (by omega), hle, l2iL, M_ltr hs (by omega) hr.2.1 (by omega) hl40 (by omega), bdS8, if_neg n1, addI]
        exact r8
end
