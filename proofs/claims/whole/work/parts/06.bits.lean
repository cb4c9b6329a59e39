/-! bytes of numbers -/
theorem b8_and (x : Int32) : b8 (x &&& nI 255) = b8 x := by
  unfold b8
  rw [show nI 255 = 255 from rfl, fa_byte_low]
theorem b8_0 : b8 (nI 0) = nI 0 := by decide
def lb (x : Int64) (i : Nat) : Bool := x.toBitVec.getLsbD i
theorem lb_ext {x y : Int64} (h : ∀ i, i < 64 → lb x i = lb y i) : x = y := Int64.toBitVec_inj.mp (BitVec.eq_of_getLsbD_eq (fun i hi => h i hi))
theorem amt_u : ∀ k, k < 64 → ((BitVec.signExtend 64 (nI k).toBitVec).toNat &&& 63) % 64 = k := by decide +kernel
theorem amt_s : ∀ k, k < 64 → ((BitVec.signExtend 64 (nI k).toBitVec &&& 63#64).smod 64#64).toNat = k := by decide +kernel
theorem lushr_bv (w : Int64) {k : Nat} (h : k < 64) : (lushr w (nI k)).toBitVec = w.toBitVec >>> k := by
  unfold lushr
  simp [amt_u k h]
theorem lshr_bv (w : Int64) {k : Nat} (h : k < 64) : (lshr w (nI k)).toBitVec = w.toBitVec.sshiftRight k := by
  unfold lshr
  simp [amt_s k h]
theorem lshl_bv (w : Int64) {k : Nat} (h : k < 64) : (lshl w (nI k)).toBitVec = w.toBitVec <<< k := by
  unfold lshl
  simp [amt_s k h]
theorem lb_ushr (w : Int64) {k i : Nat} (h : k < 64) : lb (lushr w (nI k)) i = lb w (k + i) := by
  unfold lb
  rw [lushr_bv w h, BitVec.getLsbD_ushiftRight]
theorem lb_shr (w : Int64) {k i : Nat} (h : k < 64) (hi : k + i < 64) : lb (lshr w (nI k)) i = lb w (k + i) := by
  unfold lb
  rw [lshr_bv w h, BitVec.getLsbD_sshiftRight]
  simp [hi]
  omega
theorem lb_shl (w : Int64) {k i : Nat} (h : k < 64) (hi : i < 64) : lb (lshl w (nI k)) i = (decide (k ≤ i) && lb w (i - k)) := by
  unfold lb
  rw [lshl_bv w h, BitVec.getLsbD_shiftLeft]
  by_cases h2 : k ≤ i
  · simp [hi, h2]
  · simp [h2]
theorem b8l_ext {x y : Int64} (h : ∀ i, i < 8 → lb x i = lb y i) : b8 (l2i x) = b8 (l2i y) := by
  unfold b8 l2i
  congr 1
  rw [Int64.toInt8_toInt32, Int64.toInt8_toInt32]
  apply Int8.toBitVec_inj.mp
  apply BitVec.eq_of_getLsbD_eq
  intro i hi
  have e := h i hi
  unfold lb at e
  have h64 : i < 64 := by omega
  rw [Int64.toBitVec_toInt8, Int64.toBitVec_toInt8, BitVec.getLsbD_signExtend, BitVec.getLsbD_signExtend, if_pos h64, if_pos h64, e]
theorem b8_sh (w : Int64) {k : Nat} (h : k < 8) : b8 (l2i (lushr w (nI (8 * k)))) = b8 (l2i (lshr w (nI (8 * k)))) :=
  b8l_ext (fun i hi => by rw [lb_ushr w (by omega), lb_shr w (by omega) (by omega)])
