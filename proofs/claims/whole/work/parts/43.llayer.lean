/-! the law's rows: two worlds; a call in one keeps the other -/
def PW (EX EM : GE) (wX wM : va_W) (H : Heap) : Prop := va_P EX.1 vwCl wX H ∧ va_D EX.2.2.1 wX ∧ va_P EM.1 vwCl wM H ∧ va_D EM.2.2.1 wM
def LL (κ : GK) (Z : State → Prop) (P : Heap → Prop) (pc : Nat) (lo : List (Option Value)) (st : List Value) : Prop :=
  ∀ (H : Heap) (locs : List Loc) (ls : Array Slot), P H → va_S (fun q => (ks κ).heap.size ≤ q) (ks κ).heap H locs → lv_has ls (kn κ) (lo_l 0 lo) → W (kp κ) (kl κ) (ke κ) (kR κ) (ks κ) (km κ) (kar κ) (kbe κ) (kme κ) (kc κ) H locs 600000 7302250 Z (F0 (km κ) pc ls st)
def lC (κ : GK) (EX EM : GE) (sb sL : Nat) (xs : Nat → Int32) : Prop :=
  (kp κ).tables.exec = Jvm.exec ∧ (kc κ).code = cL_law ∧ (kc κ).maxLocals = 4 ∧ (ks κ).vm.findClass RL = some (km κ).cls ∧ (∀ w ∈ gU, w.before (kar κ) (ks κ) = true) ∧ va_K EX.1 vwCl (gty EX) (ks κ) ∧ va_K EM.1 vwCl (gty EM) (ks κ) ∧ gN (ks κ) ∧ kR κ = room_1 ∧ kn κ = 4 ∧ va_X sb sL xs (ks κ) (ks κ).heap ∧ sb < (ks κ).heap.size ∧ sL ≤ 2560 ∧ (∀ q, EX.2.2.1 q → EM.2.2.1 q → False) ∧ (∀ q, EX.2.2.1 q → (ks κ).heap.size ≤ q) ∧ (∀ q, EM.2.2.1 q → (ks κ).heap.size ≤ q)
section LLs
variable {κ : GK} {Z : State → Prop} {P : Heap → Prop} {EX EM : GE} {sb sL : Nat} {xs : Nat → Int32} {pc pc' tgt : Nat} {lo lo' : List (Option Value)} {st : List Value}
theorem lC.x (h : lC κ EX EM sb sL xs) : (kp κ).tables.exec = Jvm.exec := h.1
theorem lC.b (h : lC κ EX EM sb sL xs) : (kc κ).code = cL_law := h.2.1
theorem lC.ml (h : lC κ EX EM sb sL xs) : (kc κ).maxLocals = 4 := h.2.2.1
theorem lC.o (h : lC κ EX EM sb sL xs) : (ks κ).vm.findClass RL = some (km κ).cls := h.2.2.2.1
theorem lC.t (h : lC κ EX EM sb sL xs) : ∀ w ∈ gU, w.before (kar κ) (ks κ) = true := h.2.2.2.2.1
theorem lC.KX (h : lC κ EX EM sb sL xs) : va_K EX.1 vwCl (gty EX) (ks κ) := h.2.2.2.2.2.1
theorem lC.KM (h : lC κ EX EM sb sL xs) : va_K EM.1 vwCl (gty EM) (ks κ) := h.2.2.2.2.2.2.1
theorem lC.N (h : lC κ EX EM sb sL xs) : gN (ks κ) := h.2.2.2.2.2.2.2.1
theorem lC.R (h : lC κ EX EM sb sL xs) : kR κ = room_1 := h.2.2.2.2.2.2.2.2.1
theorem lC.nn (h : lC κ EX EM sb sL xs) : kn κ = 4 := h.2.2.2.2.2.2.2.2.2.1
theorem lC.X (h : lC κ EX EM sb sL xs) : va_X sb sL xs (ks κ) (ks κ).heap := h.2.2.2.2.2.2.2.2.2.2.1
theorem lC.bl (h : lC κ EX EM sb sL xs) : sb < (ks κ).heap.size := h.2.2.2.2.2.2.2.2.2.2.2.1
theorem lC.L (h : lC κ EX EM sb sL xs)   : sL ≤ 2560 := h.2.2.2.2.2.2.2.2.2.2.2.2.1
theorem lC.dj (h : lC κ EX EM sb sL xs) : ∀ q, EX.2.2.1 q → EM.2.2.1 q → False := h.2.2.2.2.2.2.2.2.2.2.2.2.2.1
theorem lC.aX (h : lC κ EX EM sb sL xs) : ∀ q, EX.2.2.1 q → (ks κ).heap.size ≤ q := h.2.2.2.2.2.2.2.2.2.2.2.2.2.2.1
theorem lC.aM (h : lC κ EX EM sb sL xs) : ∀ q, EM.2.2.1 q → (ks κ).heap.size ≤ q := h.2.2.2.2.2.2.2.2.2.2.2.2.2.2.2
theorem l_aload_n {k0 : Fin 4} {i x : Nat} (hC : lC κ EX EM sb sL xs) (hd : decode cL_law pc = .ok (.aload_n k0, 1)) (hi : (k0 : Nat) = i) (hl0 : lo[i]? = some (some (.ref x))) (hp : pc + 1 = pc') (kk : LL κ Z P pc' lo (.ref x :: st)) : LL κ Z P pc lo st := by
  subst hp
  intro H locs ls hP hS hl
  exact lv_aload_n hC.x hC.b hd hi (lo_at hl hl0) (kk H locs ls hP hS hl)
theorem l_iload_n {k0 : Fin 4} {i : Nat} {x : Int32} (hC : lC κ EX EM sb sL xs) (hd : decode cL_law pc = .ok (.iload_n k0, 1)) (hi : (k0 : Nat) = i) (hl0 : lo[i]? = some (some (.int x))) (hp : pc + 1 = pc') (kk : LL κ Z P pc' lo (.int x :: st)) : LL κ Z P pc lo st := by
  subst hp
  intro H locs ls hP hS hl
  exact lv_iload_n hC.x hC.b hd hi (lo_at hl hl0) (kk H locs ls hP hS hl)
theorem l_iconst {m : Int} {v : Int32} (hC : lC κ EX EM sb sL xs) (hd : decode cL_law pc = .ok (.iconst m, 1)) (hv : Int32.ofInt m = v) (hp : pc + 1 = pc') (kk : LL κ Z P pc' lo (.int v :: st)) : LL κ Z P pc lo st := by
  subst hp
  intro H locs ls hP hS hl
  exact lv_iconst hC.x hC.b hd hv (kk H locs ls hP hS hl)
theorem l_bipush {m : Int} {v : Int32} (hC : lC κ EX EM sb sL xs) (hd : decode cL_law pc = .ok (.bipush m, 2)) (hv : (Int8.ofInt m).toInt32 = v) (hp : pc + 2 = pc') (kk : LL κ Z P pc' lo (.int v :: st)) : LL κ Z P pc lo st := by
  subst hp
  intro H locs ls hP hS hl
  exact lv_bipush hC.x hC.b hd hv (kk H locs ls hP hS hl)
theorem l_ldc2_w {idx : Nat} {v : Int64} (hC : lC κ EX EM sb sL xs) (hmem : Cond.constantLong RL idx v ∈ gU) (hd : decode cL_law pc = .ok (.ldc2_w idx, 3)) (hp : pc + 3 = pc') (kk : LL κ Z P pc' lo (.long v :: st)) : LL κ Z P pc lo st := by
  subst hp
  intro H locs ls hP hS hl
  exact lv_ldc2 hC.x hC.b hC.o (hC.t _ hmem) hd (kk H locs ls hP hS hl)
theorem l_iadd {x y : Int32} (hC : lC κ EX EM sb sL xs) (hd : decode cL_law pc = .ok (.iadd, 1)) (hp : pc + 1 = pc') (kk : LL κ Z P pc' lo (.int (x + y) :: st)) : LL κ Z P pc lo (.int y :: .int x :: st) := by
  subst hp
  intro H locs ls hP hS hl
  exact lv_iadd hC.x hC.b hd (kk H locs ls hP hS hl)
theorem l_isub {x y : Int32} (hC : lC κ EX EM sb sL xs) (hd : decode cL_law pc = .ok (.isub, 1)) (hp : pc + 1 = pc') (kk : LL κ Z P pc' lo (.int (x - y) :: st)) : LL κ Z P pc lo (.int y :: .int x :: st) := by
  subst hp
  intro H locs ls hP hS hl
  exact lv_isub hC.x hC.b hd (kk H locs ls hP hS hl)
theorem l_iand {x y : Int32} (hC : lC κ EX EM sb sL xs) (hd : decode cL_law pc = .ok (.iand, 1)) (hp : pc + 1 = pc') (kk : LL κ Z P pc' lo (.int (x &&& y) :: st)) : LL κ Z P pc lo (.int y :: .int x :: st) := by
  subst hp
  intro H locs ls hP hS hl
  exact lv_iand hC.x hC.b hd (kk H locs ls hP hS hl)
theorem l_i2l {x : Int32} (hC : lC κ EX EM sb sL xs) (hd : decode cL_law pc = .ok (.i2l, 1)) (hp : pc + 1 = pc') (kk : LL κ Z P pc' lo (.long (i2l x) :: st)) : LL κ Z P pc lo (.int x :: st) := by
  subst hp
  intro H locs ls hP hS hl
  exact lv_i2l hC.x hC.b hd rfl (kk H locs ls hP hS hl)
theorem l_lshl {x : Int64} {y : Int32} (hC : lC κ EX EM sb sL xs) (hd : decode cL_law pc = .ok (.lshl, 1)) (hp : pc + 1 = pc') (kk : LL κ Z P pc' lo (.long (lshl x y) :: st)) : LL κ Z P pc lo (.int y :: .long x :: st) := by
  subst hp
  intro H locs ls hP hS hl
  exact lv_lshl hC.x hC.b hd rfl (kk H locs ls hP hS hl)
theorem l_land {x y : Int64} (hC : lC κ EX EM sb sL xs) (hd : decode cL_law pc = .ok (.land, 1)) (hp : pc + 1 = pc') (kk : LL κ Z P pc' lo (.long (x &&& y) :: st)) : LL κ Z P pc lo (.long y :: .long x :: st) := by
  subst hp
  intro H locs ls hP hS hl
  exact lv_land hC.x hC.b hd (kk H locs ls hP hS hl)
theorem l_lor {x y : Int64} (hC : lC κ EX EM sb sL xs) (hd : decode cL_law pc = .ok (.lor, 1)) (hp : pc + 1 = pc') (kk : LL κ Z P pc' lo (.long (x ||| y) :: st)) : LL κ Z P pc lo (.long y :: .long x :: st) := by
  subst hp
  intro H locs ls hP hS hl
  exact lv_lor hC.x hC.b hd (kk H locs ls hP hS hl)
theorem l_sld {i : Int32} (hC : lC κ EX EM sb sL xs) (hi : inb i sL = true) (hd : decode cL_law pc = .ok (.iaload, 1)) (hp : pc + 1 = pc') (kk : LL κ Z P pc' lo (.int (xs (ix i)) :: st)) : LL κ Z P pc lo (.int i :: .ref sb :: st) := by
  subst hp
  intro H locs ls hP hS hl
  exact va_sld hC.x hC.b hC.X hC.bl (Nat.not_le.mpr hC.bl) hS (inb_vp hi) hd (kk H locs ls hP hS hl)
theorem l_slen (hC : lC κ EX EM sb sL xs) (hd : decode cL_law pc = .ok (.arraylength, 1)) (hp : pc + 1 = pc') (kk : LL κ Z P pc' lo (.int (nI sL) :: st)) : LL κ Z P pc lo (.ref sb :: st) := by
  subst hp
  intro H locs ls hP hS hl
  exact va_slen hC.x hC.b hC.X hC.bl (Nat.not_le.mpr hC.bl) hS hd (kk H locs ls hP hS hl)
theorem l_iinc {i : Nat} {m : Int} {x k0 : Int32} (hC : lC κ EX EM sb sL xs) (hd : decode cL_law pc = .ok (.iinc i m, 3)) (hk : lo[i]? = some (some (.int x))) (hv : Int32.ofInt m = k0) (hn : Nat.ble (i + 1) 4 = true) (hok : lo_ok lo i = true) (hlo : lo.set i (some (.int (x + k0))) = lo') (hp : pc + 3 = pc') (kk : LL κ Z P pc' lo' st) : LL κ Z P pc lo st := by
  subst hp; subst hlo
  intro H locs ls hP hS hl
  have hn2 : i + 1 ≤ kn κ := by rw [hC.nn]; exact Nat.le_of_ble_eq_true hn
  obtain ⟨j, hj⟩ := List.getElem?_of_mem ((lo_mem lo 0 i (.int x)).mpr ⟨Nat.zero_le _, hk⟩)
  exact lv_iinc hC.x hC.b hd hl hj (by rw [hv]) (by omega) rfl (fun ls' hl' => kk H locs ls' hP hS (lo_put1 hok hl'))
theorem l_goto {off : Int} (hC : lC κ EX EM sb sL xs) (hd : decode cL_law pc = .ok (.goto off, 3)) (ht : (pc : Int) + off = (tgt : Int)) (kk : LL κ Z P tgt lo st) : LL κ Z P pc lo st := by
  intro H locs ls hP hS hl
  exact lv_goto hC.x hC.b hd ht (kk H locs ls hP hS hl)
theorem l_if_eq {off : Int} {x : Int32} (hC : lC κ EX EM sb sL xs) (hd : decode cL_law pc = .ok (.ifCond .eq off, 3)) (hp : pc + 3 = pc') (ht : (pc : Int) + off = (tgt : Int)) (ka : x = 0 → LL κ Z P tgt lo st) (kb : ¬ x = 0 → LL κ Z P pc' lo st) : LL κ Z P pc lo (.int x :: st) := by
  subst hp
  intro H locs ls hP hS hl
  exact lv_if_eq hC.x hC.b hd ht (fun h => ka h H locs ls hP hS hl) (fun h => kb h H locs ls hP hS hl)
theorem l_icmp_gt {off : Int} {x y : Int32} (hC : lC κ EX EM sb sL xs) (hd : decode cL_law pc = .ok (.if_icmp .gt off, 3)) (hp : pc + 3 = pc') (ht : (pc : Int) + off = (tgt : Int)) (ka : y < x → LL κ Z P tgt lo st) (kb : ¬ y < x → LL κ Z P pc' lo st) : LL κ Z P pc lo (.int y :: .int x :: st) := by
  subst hp
  intro H locs ls hP hS hl
  exact lv_icmp_gt hC.x hC.b hd ht (fun h => ka h H locs ls hP hS hl) (fun h => kb h H locs ls hP hS hl)
theorem l_same {off : Int} {x : Int32} (hC : lC κ EX EM sb sL xs) (hd : decode cL_law pc = .ok (.if_icmp .eq off, 3)) (ht : (pc : Int) + off = (tgt : Int)) (kk : LL κ Z P tgt lo st) : LL κ Z P pc lo (.int x :: .int x :: st) := by
  intro H locs ls hP hS hl
  exact lv_icmp_eq hC.x hC.b hd ht (fun _ => kk H locs ls hP hS hl) (fun c => absurd rfl c)
theorem l_sameL {off : Int} {x : Int64} {pc1 : Nat} (hC : lC κ EX EM sb sL xs) (hd1 : decode cL_law pc = .ok (.lcmp, 1)) (hd : decode cL_law pc1 = .ok (.ifCond .eq off, 3)) (hp1 : pc + 1 = pc1) (ht : (pc1 : Int) + off = (tgt : Int)) (kk : LL κ Z P tgt lo st) : LL κ Z P pc lo (.long x :: .long x :: st) := by
  subst hp1
  intro H locs ls hP hS hl
  exact W.lcmp hC.x hC.b hd1 (lv_if_eq hC.x hC.b hd ht (fun _ => kk H locs ls hP hS hl) (fun c => absurd ((lg_cmp_eq x x).mpr rfl) c))
theorem l_tblOut {dflt lo0 hi : Int} {offs : Array Int} {len : Nat} {x : Int32} (hC : lC κ EX EM sb sL xs) (hd : decode cL_law pc = .ok (.tableswitch dflt lo0 hi offs, len)) (h : x.toInt < lo0 ∨ hi < x.toInt) (ht : (pc : Int) + dflt = (tgt : Int)) (kk : LL κ Z P tgt lo st) : LL κ Z P pc lo (.int x :: st) := by
  intro H locs ls hP hS hl
  exact lv_tableOut hC.x hC.b hd h ht (kk H locs ls hP hS hl)
theorem l_tblIn {dflt lo0 hi off : Int} {offs : Array Int} {len : Nat} {x : Int32} (hC : lC κ EX EM sb sL xs) (hd : decode cL_law pc = .ok (.tableswitch dflt lo0 hi offs, len)) (h1 : ¬ x.toInt < lo0) (h2 : ¬ hi < x.toInt) (ho : offs[(x.toInt - lo0).toNat]? = some off) (ht : (pc : Int) + off = (tgt : Int)) (kk : LL κ Z P tgt lo st) : LL κ Z P pc lo (.int x :: st) := by
  intro H locs ls hP hS hl
  exact lv_tableIn hC.x hC.b hd h1 h2 ho ht (kk H locs ls hP hS hl)
theorem l_callX {idx r maxL n : Nat} {C : String} {y : MethodName} {cb : ByteArray} {rt : Option FieldType} {rc : Room} {avs As rest st0 : List Value} {rv : Option Value} {wX wX' wM : va_W} (hC : lC κ EX EM sb sL xs) (hM : Met (kl κ) y (.code y cb maxL rt :: gU) rc (gP EX wX avs) (gQ EX wX' rv) 0 0 EX.2.2.1) (hm : gMV idx RL C y cb maxL rt n) (hrc : gRc wX r C) (hR : gRoom rc room_1 maxL) (hav : avs = .ref r :: As) (hst : avs.reverse ++ rest = st0) (hcat : Nat.ble (catsum rest) 8 = true) (hn : Nat.beq As.length n = true) (hd : decode cL_law pc = .ok (.invokevirtual idx, 3)) (hp : pc + 3 = pc') (kk : LL κ Z (PW EX EM wX' wM) pc' lo (rv.toList ++ rest)) : LL κ Z (PW EX EM wX wM) pc lo st0 := by
  subst hp; subst hav; subst hst
  intro H locs ls hP hS hl
  obtain ⟨pX, dX, pM, dM⟩ := hP
  obtain ⟨m1, m2, m3, m4, m5, m6⟩ := hm
  obtain ⟨q0, ci, fs, q, k1, k2, k3⟩ := hrc
  have hR' : kR κ = room_1 := hC.R
  have hG := g_good m5
  have hts := hC.t
  have h9 := va_recv hC.KX pX k1 k3
  rw [k2] at h9
  have hr := va_runV (p := kp κ) (e := ke κ) (R := kR κ) (meth := kme κ) (below := kbe κ) (locs := locs) (cells := 600000) (slots := 7302250) (g := F0 (km κ) pc ls ((Value.ref r :: As).reverse ++ rest)) (own := RL) (C := C) (As := As) (rest := rest) (n := n) (nL := 4) ⟨hC.x, hC.b, hC.ml, hC.o, hts⟩ hM ⟨⟨hR.1, hR.2.1, by rw [hR']; exact hR.2.2.1, by rw [hR']; exact hR.2.2.2, pay_in hts hG, List.mem_cons_self, hts _ m5, hts _ m4, m6.1, m6.len, hts _ m1⟩, hts _ m2, hts _ m3⟩ ⟨gP_blind, h9, fun U hU hW => ⟨rfl, by rw [hU]; exact pX, va_K.moved hW.alike hC.KX, gN.warm hW hC.N, dX⟩⟩ rfl (Nat.eq_of_beq_eq_true hn) (hl.1.trans hC.nn) (by simp) (lv_room (by rw [catsum_eq]; exact Nat.le_of_ble_eq_true hcat)) hd ⟨by rw [hR']; decide, by rw [hR']; decide⟩
  intro T hT X
  obtain ⟨v, st₀, t, T', Lq, h0, X', hL, e1, e2, ⟨⟨hv, hP', hK', hD'⟩, hz, hk⟩, go⟩ := hr T hT X
  cases hv
  rw [h0] at hz hk
  obtain ⟨t2, a1, b1⟩ := kk T'.heap (locs ++ Lq) ls ⟨by rw [e1]; exact hP', hD', by rw [e1]; exact pM.kept (fun k q hq => hk q.1 ((pM k q hq).lt) (fun h => hC.dj _ h (dM.2 k q hq))), dM⟩
    ⟨Nat.le_trans hS.1 (by rw [e1]; exact hz), fun q h1 h2 => by rw [e1, hk q (Nat.lt_of_lt_of_le h1 hS.1) (fun h => h2 (hC.aX q h))]; exact hS.2.1 q h1 h2, fun q hq => by
      rcases List.mem_append.mp hq with h | h
      · exact hS.2.2 q h
      · exact hC.aX _ (hL q h)⟩ hl T' rfl X'
  exact ⟨t2, go t2 a1, b1⟩
theorem l_callM {idx r maxL n : Nat} {C : String} {y : MethodName} {cb : ByteArray} {rt : Option FieldType} {rc : Room} {avs As rest st0 : List Value} {rv : Option Value} {wX wM wM' : va_W} (hC : lC κ EX EM sb sL xs) (hM : Met (kl κ) y (.code y cb maxL rt :: gU) rc (gP EM wM avs) (gQ EM wM' rv) 0 0 EM.2.2.1) (hm : gMV idx RL C y cb maxL rt n) (hrc : gRc wM r C) (hR : gRoom rc room_1 maxL) (hav : avs = .ref r :: As) (hst : avs.reverse ++ rest = st0) (hcat : Nat.ble (catsum rest) 8 = true) (hn : Nat.beq As.length n = true) (hd : decode cL_law pc = .ok (.invokevirtual idx, 3)) (hp : pc + 3 = pc') (kk : LL κ Z (PW EX EM wX wM') pc' lo (rv.toList ++ rest)) : LL κ Z (PW EX EM wX wM) pc lo st0 := by
  subst hp; subst hav; subst hst
  intro H locs ls hP hS hl
  obtain ⟨pX, dX, pM, dM⟩ := hP
  obtain ⟨m1, m2, m3, m4, m5, m6⟩ := hm
  obtain ⟨q0, ci, fs, q, k1, k2, k3⟩ := hrc
  have hR' : kR κ = room_1 := hC.R
  have hG := g_good m5
  have hts := hC.t
  have h9 := va_recv hC.KM pM k1 k3
  rw [k2] at h9
  have hr := va_runV (p := kp κ) (e := ke κ) (R := kR κ) (meth := kme κ) (below := kbe κ) (locs := locs) (cells := 600000) (slots := 7302250) (g := F0 (km κ) pc ls ((Value.ref r :: As).reverse ++ rest)) (own := RL) (C := C) (As := As) (rest := rest) (n := n) (nL := 4) ⟨hC.x, hC.b, hC.ml, hC.o, hts⟩ hM ⟨⟨hR.1, hR.2.1, by rw [hR']; exact hR.2.2.1, by rw [hR']; exact hR.2.2.2, pay_in hts hG, List.mem_cons_self, hts _ m5, hts _ m4, m6.1, m6.len, hts _ m1⟩, hts _ m2, hts _ m3⟩ ⟨gP_blind, h9, fun U hU hW => ⟨rfl, by rw [hU]; exact pM, va_K.moved hW.alike hC.KM, gN.warm hW hC.N, dM⟩⟩ rfl (Nat.eq_of_beq_eq_true hn) (hl.1.trans hC.nn) (by simp) (lv_room (by rw [catsum_eq]; exact Nat.le_of_ble_eq_true hcat)) hd ⟨by rw [hR']; decide, by rw [hR']; decide⟩
  intro T hT X
  obtain ⟨v, st₀, t, T', Lq, h0, X', hL, e1, e2, ⟨⟨hv, hP', hK', hD'⟩, hz, hk⟩, go⟩ := hr T hT X
  cases hv
  rw [h0] at hz hk
  obtain ⟨t2, a1, b1⟩ := kk T'.heap (locs ++ Lq) ls ⟨by rw [e1]; exact pX.kept (fun k q hq => hk q.1 ((pX k q hq).lt) (fun h => hC.dj _ (dX.2 k q hq) h)), dX, by rw [e1]; exact hP', hD'⟩
    ⟨Nat.le_trans hS.1 (by rw [e1]; exact hz), fun q h1 h2 => by rw [e1, hk q (Nat.lt_of_lt_of_le h1 hS.1) (fun h => h2 (hC.aM q h))]; exact hS.2.1 q h1 h2, fun q hq => by
      rcases List.mem_append.mp hq with h | h
      · exact hS.2.2 q h
      · exact hC.aM _ (hL q h)⟩ hl T' rfl X'
  exact ⟨t2, go t2 a1, b1⟩
theorem sc_in {i k : Nat} (hi : i + 5 ≤ sL) (hL : sL ≤ 2560) (hk : k < 5) : inb (nI i + nI k) sL = true := by
  rw [addI, inbI (by omega)]
  exact decide_eq_true (by omega)
theorem sc_in0 {i : Nat} (hi : i + 5 ≤ sL) (hL : sL ≤ 2560) : inb (nI i) sL = true := by
  rw [inbI (by omega)]
  exact decide_eq_true (by omega)
/-- a truth of the script: 0 or 1 -/
def bz (x : Int32) : Int32 := if x = 0 then 0 else 1
theorem isB_bz (x : Int32) : isB (bz x) = true := by
  unfold bz isB
  split <;> decide
theorem l_bool {pc1 pc2 pc3 pc4 : Nat} {x : Int32} (hC : lC κ EX EM sb sL xs) (hd0 : decode cL_law pc = .ok (.ifCond .eq 7, 3)) (hd1 : decode cL_law pc1 = .ok (.iconst 1, 1)) (hd2 : decode cL_law pc2 = .ok (.goto 4, 3)) (hd3 : decode cL_law pc3 = .ok (.iconst 0, 1)) (h1 : pc + 3 = pc1) (h2 : pc1 + 1 = pc2) (h3 : pc2 + 3 = pc3) (h4 : pc3 + 1 = pc4) (kk : LL κ Z P pc4 lo (.int (bz x) :: st)) : LL κ Z P pc lo (.int x :: st) := by
  refine l_if_eq (tgt := pc3) hC hd0 h1 (by omega) (fun h => ?_) (fun h => ?_)
  · refine l_iconst (v := 0) hC hd3 (by decide) h4 ?_
    rw [show bz x = 0 from if_pos h] at kk
    exact kk
  · refine l_iconst (v := 1) hC hd1 (by decide) h2 ?_
    refine l_goto (tgt := pc4) hC hd2 (by omega) ?_
    rw [show bz x = 1 from if_neg h] at kk
    exact kk
end LLs
/-! the relation, kept by what does not touch it -/
theorem FltR.c5 {xc xc' : Nat → Int32} {str stp rwp mr mb mba mpg mdi : Int32} (h : FltR xc str stp rwp mr mb mba mpg mdi) (e : xc' 5 = xc 5) : FltR xc' str stp rwp mr mb mba mpg mdi := by
  unfold FltR at h ⊢
  rw [e]
  exact h
theorem XRow.oth {rc rc' : Nat → Int32} {rb rb' : Nat → Nat → Int32} {r : Nat} {l : List Int32} (h : XRow rc rb r l) (h1 : rc' r = rc r) (h2 : rb' r = rb r) : XRow rc' rb' r l := ⟨h1.trans h.1, h.2.1, h.2.2.1, fun k hk => by rw [h2]; exact h.2.2.2 k hk⟩
theorem Tape.oth {rc rv rc' rv' : Nat → Int32} {rb rb' : Nat → Nat → Int32} {mp : Nat → Int32} {mtd : Int32} (h : Tape rc rv rb mp mtd) (h1 : rc' 0 = rc 0) (h2 : rv' 0 = rv 0) (h3 : rb' 0 = rb 0) : Tape rc' rv' rb' mp mtd := by
  obtain ⟨⟨l, a, c⟩, d⟩ := h
  exact ⟨⟨l, a.oth h1 h3, c⟩, h2.trans d⟩
theorem Filed.oth {rc rv rc' rv' : Nat → Int32} {rb rb' : Nat → Nat → Int32} {mf : Nat → Int32} {ms : Int32} (h : Filed rc rv rb mf ms) (h1 : rc' 1 = rc 1) (h2 : rv' 1 = rv 1) (h3 : rb' 1 = rb 1) : Filed rc' rv' rb' mf ms := by
  obtain ⟨⟨l, a, c⟩, d⟩ := h
  exact ⟨⟨l, a.oth h1 h3, c⟩, h2.trans d⟩
theorem Tape.fr {rc rv rc' rv' : Nat → Int32} {rb rb' : Nat → Nat → Int32} {mp : Nat → Int32} {mtd : Int32} (h : Tape rc rv rb mp mtd) (f : FrR 1 rc rv rb rc' rv' rb') : Tape rc' rv' rb' mp mtd := h.oth (f 0 (by decide)).1 (f 0 (by decide)).2.1 (f 0 (by decide)).2.2
theorem Filed.fr {rc rv rc' rv' : Nat → Int32} {rb rb' : Nat → Nat → Int32} {mf : Nat → Int32} {ms : Int32} (h : Filed rc rv rb mf ms) (f : FrR 0 rc rv rb rc' rv' rb') : Filed rc' rv' rb' mf ms := h.oth (f 1 (by decide)).1 (f 1 (by decide)).2.1 (f 1 (by decide)).2.2
