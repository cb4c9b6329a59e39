/-! the growing layer: constructors and the law; worlds that get cells -/
abbrev ntys (cl : Nat → ClassId) : List (ClassId × FieldType) := [(cl 0, .boolean), (cl 1, .byte), (cl 2, .int), (cl 3, .long), (cl 4, .object RX0)]
def nC (κ : GK) (D : va_G) (cl : Nat → ClassId) (A : Nat → Prop) (cc : ByteArray) (own : String) (rm : Room) (nL : Nat) : Prop :=
  (kp κ).tables.exec = Jvm.exec ∧ (kc κ).code = cc ∧ (kc κ).maxLocals = nL ∧ (ks κ).vm.findClass own = some (km κ).cls ∧ (∀ w ∈ gU, w.before (kar κ) (ks κ) = true) ∧ va_K D vwCl (ntys cl) (ks κ) ∧ (∀ q : Nat, (ks κ).heap.size ≤ q → A q) ∧ kR κ = rm ∧ kn κ = nL ∧ va_AO RX0 (ks κ)
def nIn (κ : GK) : Prop := (kme κ).name = "<init>" ∧ (kme κ).sig.returnType = none ∧ (kme κ).locks = false
def NN (κ : GK) (Q : State → Prop) (D : va_G) (A : Nat → Prop) (ws : va_W) (k n pc : Nat) (lo : List (Option Value)) (st : List Value) : Prop :=
  ∀ (H : Heap) (locs : List Loc) (ls : Array Slot), va_P D vwCl ws H → va_D A ws → va_S A (ks κ).heap H locs → lv_has ls (kn κ) (lo_l 0 lo) → W (kp κ) (kl κ) (ke κ) (kR κ) (ks κ) (km κ) (kar κ) (kbe κ) (kme κ) (kc κ) H locs k n Q (F0 (km κ) pc ls st)
def nPre (D : va_G) (cl : Nat → ClassId) (sz : Nat) (w0 : va_W) (avs : List Value) : Array Value → State → Prop := va_Pc avs (fun U => U.heap.size = sz ∧ va_P D vwCl w0 U.heap ∧ va_K D vwCl (ntys cl) U ∧ va_D (fun _ => True) w0 ∧ va_AO RX0 U)
def nPost (D : va_G) (w1 : (Nat → Nat) → va_W) (w0 : va_W) (sz : Nat) : Array Value → State → Outcome → State → Prop := va_Qv (fun _ : Nat → Nat => True) (fun f t => va_P D vwCl (w1 f) t.heap ∧ va_D (va_A w0 sz) (w1 f)) (va_A w0 sz)
theorem nPre_blind {D : va_G} {cl : Nat → ClassId} {sz : Nat} {w0 : va_W} {avs : List Value} : FrameBlind (nPre D cl sz w0 avs) := by
  intro a U g mk h
  obtain ⟨h0, h1, h2, h3, h4, h5⟩ := h
  exact ⟨h0, h1, h2, va_K.moved (u := U) (U := U.calling g mk a) (Vm.Alike.refl U.vm) h3, h4, va_AO.moved (u := U) (U := U.calling g mk a) (Vm.Alike.refl U.vm) h5⟩
section NL
variable {κ : GK} {Q : State → Prop} {D : va_G} {cl : Nat → ClassId} {A : Nat → Prop} {cc : ByteArray} {own : String} {rm : Room} {nL : Nat} {ws : va_W} {k n pc pc' tgt : Nat} {lo lo' : List (Option Value)} {st : List Value}
theorem nC.x (h : nC κ D cl A cc own rm nL) : (kp κ).tables.exec = Jvm.exec := h.1
theorem nC.b (h : nC κ D cl A cc own rm nL) : (kc κ).code = cc := h.2.1
theorem nC.ml (h : nC κ D cl A cc own rm nL) : (kc κ).maxLocals = nL := h.2.2.1
theorem nC.o (h : nC κ D cl A cc own rm nL) : (ks κ).vm.findClass own = some (km κ).cls := h.2.2.2.1
theorem nC.t (h : nC κ D cl A cc own rm nL) : ∀ w ∈ gU, w.before (kar κ) (ks κ) = true := h.2.2.2.2.1
theorem nC.K (h : nC κ D cl A cc own rm nL) : va_K D vwCl (ntys cl) (ks κ) := h.2.2.2.2.2.1
theorem nC.aa (h : nC κ D cl A cc own rm nL) : ∀ q : Nat, (ks κ).heap.size ≤ q → A q := h.2.2.2.2.2.2.1
theorem nC.R (h : nC κ D cl A cc own rm nL) : kR κ = rm := h.2.2.2.2.2.2.2.1
theorem nC.nn (h : nC κ D cl A cc own rm nL) : kn κ = nL := h.2.2.2.2.2.2.2.2.1
theorem nC.ao (h : nC κ D cl A cc own rm nL) : va_AO RX0 (ks κ) := h.2.2.2.2.2.2.2.2.2
theorem n_aload_n {k0 : Fin 4} {i x : Nat} (hC : nC κ D cl A cc own rm nL) (hd : decode cc pc = .ok (.aload_n k0, 1)) (hi : (k0 : Nat) = i) (hl0 : lo[i]? = some (some (.ref x))) (hp : pc + 1 = pc') (kk : NN κ Q D A ws k n pc' lo (.ref x :: st)) : NN κ Q D A ws k n pc lo st := by
  subst hp
  intro H locs ls hP hD hS hl
  exact lv_aload_n hC.x hC.b hd hi (lo_at hl hl0) (kk H locs ls hP hD hS hl)
theorem n_iload_n {k0 : Fin 4} {i : Nat} {x : Int32} (hC : nC κ D cl A cc own rm nL) (hd : decode cc pc = .ok (.iload_n k0, 1)) (hi : (k0 : Nat) = i) (hl0 : lo[i]? = some (some (.int x))) (hp : pc + 1 = pc') (kk : NN κ Q D A ws k n pc' lo (.int x :: st)) : NN κ Q D A ws k n pc lo st := by
  subst hp
  intro H locs ls hP hD hS hl
  exact lv_iload_n hC.x hC.b hd hi (lo_at hl hl0) (kk H locs ls hP hD hS hl)
theorem n_iconst {m : Int} {v : Int32} (hC : nC κ D cl A cc own rm nL) (hd : decode cc pc = .ok (.iconst m, 1)) (hv : Int32.ofInt m = v) (hp : pc + 1 = pc') (kk : NN κ Q D A ws k n pc' lo (.int v :: st)) : NN κ Q D A ws k n pc lo st := by
  subst hp
  intro H locs ls hP hD hS hl
  exact lv_iconst hC.x hC.b hd hv (kk H locs ls hP hD hS hl)
theorem n_bipush {m : Int} {v : Int32} (hC : nC κ D cl A cc own rm nL) (hd : decode cc pc = .ok (.bipush m, 2)) (hv : (Int8.ofInt m).toInt32 = v) (hp : pc + 2 = pc') (kk : NN κ Q D A ws k n pc' lo (.int v :: st)) : NN κ Q D A ws k n pc lo st := by
  subst hp
  intro H locs ls hP hD hS hl
  exact lv_bipush hC.x hC.b hd hv (kk H locs ls hP hD hS hl)
theorem n_sipush {m : Int} {v : Int32} (hC : nC κ D cl A cc own rm nL) (hd : decode cc pc = .ok (.sipush m, 3)) (hv : (Int16.ofInt m).toInt32 = v) (hp : pc + 3 = pc') (kk : NN κ Q D A ws k n pc' lo (.int v :: st)) : NN κ Q D A ws k n pc lo st := by
  subst hp
  intro H locs ls hP hD hS hl
  exact lv_sipush hC.x hC.b hd hv (kk H locs ls hP hD hS hl)
theorem n_ldc {idx : Nat} {v : Int32} (hC : nC κ D cl A cc own rm nL) (hmem : Cond.constant own idx v ∈ gU) (hd : decode cc pc = .ok (.ldc idx, 2)) (hp : pc + 2 = pc') (kk : NN κ Q D A ws k n pc' lo (.int v :: st)) : NN κ Q D A ws k n pc lo st := by
  subst hp
  intro H locs ls hP hD hS hl
  exact lv_ldc hC.x hC.b hC.o (hC.t _ hmem) hd (kk H locs ls hP hD hS hl)
theorem n_ldc2_w {idx : Nat} {v : Int64} (hC : nC κ D cl A cc own rm nL) (hmem : Cond.constantLong own idx v ∈ gU) (hd : decode cc pc = .ok (.ldc2_w idx, 3)) (hp : pc + 3 = pc') (kk : NN κ Q D A ws k n pc' lo (.long v :: st)) : NN κ Q D A ws k n pc lo st := by
  subst hp
  intro H locs ls hP hD hS hl
  exact lv_ldc2 hC.x hC.b hC.o (hC.t _ hmem) hd (kk H locs ls hP hD hS hl)
theorem n_dup {v : Value} (hC : nC κ D cl A cc own rm nL) (hd : decode cc pc = .ok (.dup, 1)) (hc : v.category = 1) (hp : pc + 1 = pc') (kk : NN κ Q D A ws k n pc' lo (v :: v :: st)) : NN κ Q D A ws k n pc lo (v :: st) := by
  subst hp
  intro H locs ls hP hD hS hl
  exact lv_dup hC.x hC.b hd hc (kk H locs ls hP hD hS hl)
theorem n_istore_n {i : Nat} {k0 : Fin 4} {x : Int32} (hC : nC κ D cl A cc own rm nL) (hd : decode cc pc = .ok (.istore_n k0, 1)) (hi : (k0 : Nat) = i) (hn : Nat.ble (i + 1) nL = true) (hok : lo_ok lo i = true) (hlo : lo.set i (some (.int x)) = lo') (hp : pc + 1 = pc') (kk : NN κ Q D A ws k n pc' lo' st) : NN κ Q D A ws k n pc lo (.int x :: st) := by
  subst hp; subst hlo
  intro H locs ls hP hD hS hl
  have hn2 : i + 1 ≤ kn κ := by rw [hC.nn]; exact Nat.le_of_ble_eq_true hn
  exact lv_istore_n hC.x hC.b hd hi hl (by omega) rfl (fun ls' hl' => kk H locs ls' hP hD hS (lo_put1 hok hl'))
theorem n_astore_n {i : Nat} {k0 : Fin 4} {x : Nat} (hC : nC κ D cl A cc own rm nL) (hd : decode cc pc = .ok (.astore_n k0, 1)) (hi : (k0 : Nat) = i) (hn : Nat.ble (i + 1) nL = true) (hok : lo_ok lo i = true) (hlo : lo.set i (some (.ref x)) = lo') (hp : pc + 1 = pc') (kk : NN κ Q D A ws k n pc' lo' st) : NN κ Q D A ws k n pc lo (.ref x :: st) := by
  subst hp; subst hlo
  intro H locs ls hP hD hS hl
  have hn2 : i + 1 ≤ kn κ := by rw [hC.nn]; exact Nat.le_of_ble_eq_true hn
  exact lv_astore_n hC.x hC.b hd hi hl (by omega) rfl (fun ls' hl' => kk H locs ls' hP hD hS (lo_put1 hok hl'))
theorem n_iinc {i : Nat} {m : Int} {x k0 : Int32} (hC : nC κ D cl A cc own rm nL) (hd : decode cc pc = .ok (.iinc i m, 3)) (hk : lo[i]? = some (some (.int x))) (hv : Int32.ofInt m = k0) (hn : Nat.ble (i + 1) nL = true) (hok : lo_ok lo i = true) (hlo : lo.set i (some (.int (x + k0))) = lo') (hp : pc + 3 = pc') (kk : NN κ Q D A ws k n pc' lo' st) : NN κ Q D A ws k n pc lo st := by
  subst hp; subst hlo
  intro H locs ls hP hD hS hl
  have hn2 : i + 1 ≤ kn κ := by rw [hC.nn]; exact Nat.le_of_ble_eq_true hn
  obtain ⟨j, hj⟩ := List.getElem?_of_mem ((lo_mem lo 0 i (.int x)).mpr ⟨Nat.zero_le _, hk⟩)
  exact lv_iinc hC.x hC.b hd hl hj (by rw [hv]) (by omega) rfl (fun ls' hl' => kk H locs ls' hP hD hS (lo_put1 hok hl'))
theorem n_goto {off : Int} (hC : nC κ D cl A cc own rm nL) (hd : decode cc pc = .ok (.goto off, 3)) (ht : (pc : Int) + off = (tgt : Int)) (kk : NN κ Q D A ws k n tgt lo st) : NN κ Q D A ws k n pc lo st := by
  intro H locs ls hP hD hS hl
  exact lv_goto hC.x hC.b hd ht (kk H locs ls hP hD hS hl)
theorem n_icmp_geT {off : Int} {x y : Int32} (hC : nC κ D cl A cc own rm nL) (hd : decode cc pc = .ok (.if_icmp .ge off, 3)) (ht : (pc : Int) + off = (tgt : Int)) (h : y ≤ x) (kk : NN κ Q D A ws k n tgt lo st) : NN κ Q D A ws k n pc lo (.int y :: .int x :: st) := by
  intro H locs ls hP hD hS hl
  exact lv_icmp_ge hC.x hC.b hd ht (fun _ => kk H locs ls hP hD hS hl) (fun c => absurd h c)
theorem n_icmp_geF {off : Int} {x y : Int32} (hC : nC κ D cl A cc own rm nL) (hd : decode cc pc = .ok (.if_icmp .ge off, 3)) (hp : pc + 3 = pc') (ht : (pc : Int) + off = (tgt : Int)) (h : ¬ y ≤ x) (kk : NN κ Q D A ws k n pc' lo st) : NN κ Q D A ws k n pc lo (.int y :: .int x :: st) := by
  subst hp
  intro H locs ls hP hD hS hl
  exact lv_icmp_ge hC.x hC.b hd ht (fun c => absurd c h) (fun _ => kk H locs ls hP hD hS hl)
theorem n_if_geT {off : Int} {x : Int32} (hC : nC κ D cl A cc own rm nL) (hd : decode cc pc = .ok (.ifCond .ge off, 3)) (ht : (pc : Int) + off = (tgt : Int)) (h : 0 ≤ x) (kk : NN κ Q D A ws k n tgt lo st) : NN κ Q D A ws k n pc lo (.int x :: st) := by
  intro H locs ls hP hD hS hl
  exact lv_if_ge hC.x hC.b hd ht (fun _ => kk H locs ls hP hD hS hl) (fun c => absurd h c)
theorem n_objInit {idx a : Nat} (hC : nC κ D cl A cc own rm nL) (h1 : Cond.methodLink own idx objectInit ∈ gU) (h2 : Cond.instanceMethod objectInit ∈ gU) (h3 : Cond.code objectInit ⟨#[0xb1]⟩ 1 none ∈ gU) (hd : decode cc pc = .ok (.invokespecial idx, 3)) (hcat : Nat.ble (catsum st) 8 = true) (hf : 1 ≤ rm.frames) (hlo : 20 ≤ rm.locals) (hp : pc + 3 = pc') (kk : NN κ Q D A ws k n pc' lo st) : NN κ Q D A ws k n pc lo (.ref a :: st) := by
  subst hp
  intro H locs ls hP hD hS hl
  have hR := hC.R
  have hc8 : (st.map fun v => v.category).sum ≤ 8 := by rw [catsum_eq]; exact Nat.le_of_ble_eq_true hcat
  exact W.objInit hC.x hC.b hC.o (hC.t _ h1) (hC.t _ h2) (hC.t _ h3) rfl (by rw [hC.ml]; exact hl.1.trans hC.nn) rfl hd (by rw [hR]; exact hf) (by rw [hR]; have := lv_room (m := km κ) (pc := pc) (ls := ls) (rest := Value.ref a :: st) hc8; omega) (W.eq (g2 := F0 (km κ) (pc + 3) ls st) rfl (kk H locs ls hP hD hS hl))
theorem n_new {C : String} {T : u_T} {N ci idx : Nat} {fs : List Value} (hC : nC κ D cl A cc own rm nL) (hcl : Cond.classLink own idx C ∈ gU) (hinst : Cond.instantiable C N ∈ gU) (hini : Cond.initialized C ∈ gU) (hin : ∀ w ∈ u_ws C T N, w ∈ gU) (ty : Nat → FieldType) (hty : ∀ k, k < N → parseFieldDescriptor (T k).2.2.1 = some (ty k)) (hc : vwCl[ci]? = some (C, T, N)) (hfs : ∀ j, j < N → defaultValue (ty j) = vp_V fs j) (h1 : Nat.ble (k + 1) rm.cells = true) (h2 : Nat.ble (n + N) rm.slots = true) (hd : decode cc pc = .ok (.new idx, 3)) (hp : pc + 3 = pc') (kk : ∀ q : Nat, NN κ Q D A (ws ++ [(q, .inr (ci, fs))]) (k + 1) (n + N) pc' lo (.ref q :: st)) : NN κ Q D A ws k n pc lo st := by
  subst hp
  intro H locs ls hP hD hS hl
  have hR := hC.R
  exact va_new hC.x hC.b hC.t hin ty hty hC.o (hC.t _ hcl) (hC.t _ hinst) (hC.t _ hini) hC.K hP hD hS hC.aa hc hfs (by rw [hR]; exact Nat.le_of_ble_eq_true h1) (by rw [hR]; exact Nat.le_of_ble_eq_true h2) hd (fun q H1 hP1 hD1 hS1 => kk q H1 locs ls hP1 hD1 hS1 hl)
theorem n_newa {atype : ArrayType} {ty : FieldType} {t0 N : Nat} {cA : ClassId} {v : Int32} {a0 : vp_A} (hC : nC κ D cl A cc own rm nL) (hm : Cond.arrayClass ty ∈ gU) (hty : newarray.typeOf atype = ty) (ht : (ntys cl)[t0]? = some (cA, ty)) (hn : ¬ v < 0) (hN : v.toNatClampNeg = N) (ha : ∀ c : ClassId, vp_cell c a0 = arrV c N (fun _ => defaultValue ty)) (hby : Nat.ble (N * componentBytes ty) 536870912 = true) (h1 : Nat.ble (k + 1) rm.cells = true) (h2 : Nat.ble (n + N) rm.slots = true) (hd : decode cc pc = .ok (.newarray atype, 2)) (hp : pc + 2 = pc') (kk : ∀ q : Nat, NN κ Q D A (ws ++ [(q, .inl (cA, a0))]) (k + 1) (n + N) pc' lo (.ref q :: st)) : NN κ Q D A ws k n pc lo (.int v :: st) := by
  subst hp; subst hty
  intro H locs ls hP hD hS hl
  have hR := hC.R
  refine va_newaK hC.x hC.b (hC.t _ hm) rfl hd rfl hn hN (Nat.le_of_ble_eq_true hby) (by rw [hR]; exact Nat.le_of_ble_eq_true h1) (by rw [hR]; exact Nat.le_of_ble_eq_true h2) rfl (fun H1 c e1 z1 o1 hAr hNm => ?_)
  have hRA := (hC.K.2 t0 _ ht).2
  have hnm : (ks κ).vm.findClass ("[" ++ (newarray.typeOf atype).toString) = some cA := by cases atype <;> exact hRA
  have hcA : c = cA := Option.some.inj (hNm.symm.trans hnm)
  subst hcA
  have hk : ∀ (k : Nat) (x : Nat × va_E), ws[k]? = some x → H1[x.1]? = H[x.1]? := fun k x hx => o1 x.1 ((hP k x hx).lt)
  refine kk H.size H1 locs ls ((hP.kept hk).app (fun k x hx => ?_)) (hD.push hP rfl (hC.aa _ hS.1)) ⟨Nat.le_trans hS.1 (by omega), fun x h1 h2 => (o1 x (Nat.lt_of_lt_of_le h1 hS.1)).trans (hS.2.1 x h1 h2), hS.2.2⟩ hl
  have hz : k < 1 := (List.getElem?_eq_some_iff.mp hx).1
  rw [show k = 0 by omega] at hx
  cases hx
  show H1[H.size]? = some (vp_cell _ _)
  rw [ha]
  exact e1
theorem n_newq {idx t0 N : Nat} {cA : ClassId} {v : Int32} (hC : nC κ D cl A cc own rm nL) (hcl : Cond.classLink own idx RX0 ∈ gU) (ht : (ntys cl)[t0]? = some (cA, .object RX0)) (hn : ¬ v < 0) (hN : v.toNatClampNeg = N) (hby : Nat.ble (N * 4) 536870912 = true) (h1 : Nat.ble (k + 1) rm.cells = true) (h2 : Nat.ble (n + N) rm.slots = true) (hd : decode cc pc = .ok (.anewarray idx, 3)) (hp : pc + 3 = pc') (kk : ∀ q : Nat, NN κ Q D A (ws ++ [(q, .inl (cA, N, .inr (.inr (.inr (.inr (fun _ => none))))))]) (k + 1) (n + N) pc' lo (.ref q :: st)) : NN κ Q D A ws k n pc lo (.int v :: st) := by
  subst hp
  intro H locs ls hP hD hS hl
  have hR := hC.R
  refine va_newq hC.x hC.b hC.o (hC.t _ hcl) hC.ao hC.K hP hD hS hC.aa hn hN (Nat.le_of_ble_eq_true hby) (by rw [hR]; exact Nat.le_of_ble_eq_true h1) (by rw [hR]; exact Nat.le_of_ble_eq_true h2) hd (fun q c H1 hK1 hP1 hD1 hS1 => ?_)
  obtain ⟨_, _, _, _, _, n1⟩ := (hC.K.2 t0 _ ht).2
  obtain ⟨_, _, _, _, _, n2⟩ := (hK1.2 5 (c, .object RX0) rfl).2
  have hcA : c = cA := Option.some.inj (n2.symm.trans n1)
  subst hcA
  exact kk q H1 locs ls hP1 hD1 hS1 hl
theorem n_putF {C ref : String} {T : u_T} {N ci idx a : Nat} {fs : List Value} {v : Value} {ty : FieldType} {ws' : va_W} (hC : nC κ D cl A cc own rm nL) (hI : nIn κ) (q0 : Nat) (he : ws[q0]? = some (a, .inr (ci, fs))) (hc : vwCl[ci]? = some (C, T, N)) (hin : ∀ w ∈ u_ws C T N, w ∈ gU) (ty0 : Nat → FieldType) (hty : ∀ k, k < N → parseFieldDescriptor (T k).2.2.1 = some (ty0 k)) (hnm : ∀ a, a < N → ∀ b, b < N → a ≠ b → (T a).2.1 ≠ (T b).2.1) (j : Nat) (hj : j < N) (hmem : Cond.fieldLink own idx ref (T j).2.1 (T j).2.2.1 ∈ gU) (hs : ref = (T j).1) (hfin : (T j).2.2.2 = true) (hdecl : (T j).1 = own) (hd0 : ty0 j = ty) (hn : narrow ty v = v) (hfit : fits ty v = true) (hl0 : Nat.ble (j + 1) fs.length = true) (hset : ws.set q0 (a, .inr (ci, fs.set j v)) = ws') (hd : decode cc pc = .ok (.putfield idx, 3)) (hp : pc + 3 = pc') (kk : NN κ Q D A ws' k n pc' lo st) : NN κ Q D A ws k n pc lo (v :: .ref a :: st) := by
  subst hp; subst hs; subst hset; subst hd0
  intro H locs ls hP hD hS hl
  exact va_putF hC.x hC.b hC.t hin ty0 hty hnm hC.o hC.K hP hD hS q0 he hc j hj (hC.t _ hmem) (fun _ h => h) hfin hI.1 hdecl (hty j hj) hn hfit (Nat.le_of_ble_eq_true hl0) hd (fun H1 locs1 hP1 hD1 hS1 => kk H1 locs1 ls hP1 hD1 hS1 hl)
theorem n_get {C ref : String} {T : u_T} {N ci idx a : Nat} {fs : List Value} {v : Value} (hC : nC κ D cl A cc own rm nL) (q0 : Nat) (he : ws[q0]? = some (a, .inr (ci, fs))) (hc : vwCl[ci]? = some (C, T, N)) (hin : ∀ w ∈ u_ws C T N, w ∈ gU) (j : Nat) (hj : j < N) (hmem : Cond.fieldLink own idx ref (T j).2.1 (T j).2.2.1 ∈ gU) (hs : ref = (T j).1) (hv : fs[j]? = some v) (hd : decode cc pc = .ok (.getfield idx, 3)) (hp : pc + 3 = pc') (kk : NN κ Q D A ws k n pc' lo (v :: st)) : NN κ Q D A ws k n pc lo (.ref a :: st) := by
  subst hp; subst hs
  intro H locs ls hP hD hS hl
  exact va_get hC.x hC.b hC.t hin hC.o hC.K hP q0 he hc j hj (hC.t _ hmem) (fun _ h => h) hv hd (kk H locs ls hP hD hS hl)
theorem n_aast {a N v ci : Nat} {vs : List Value} {r : vw_C} {cA : ClassId} {f : Nat → Option Nat} {i : Int32} {ws' : va_W} (hC : nC κ D cl A cc own rm nL) (q0 qk t0 : Nat) (he : ws[q0]? = some (a, .inl (cA, N, .inr (.inr (.inr (.inr f)))))) (ht : (ntys cl)[t0]? = some (cA, .object r.1)) (hv : ws[qk]? = some (v, .inr (ci, vs))) (hc : vwCl[ci]? = some r) (hi : inb i N = true) (hset : ws.set q0 (a, .inl (cA, N, .inr (.inr (.inr (.inr (va_up f i.toNatClampNeg (some v))))))) = ws') (hd : decode cc pc = .ok (.aastore, 1)) (hp : pc + 1 = pc') (kk : NN κ Q D A ws' k n pc' lo st) : NN κ Q D A ws k n pc lo (.ref v :: .int i :: .ref a :: st) := by
  subst hp; subst hset
  intro H locs ls hP hD hS hl
  exact va_astq hC.x hC.b hC.K hP hD hS q0 t0 qk ci he ht hv hc (inb_vp hi) hd (fun H1 locs1 hP1 hD1 hS1 => kk H1 locs1 ls hP1 hD1 hS1 hl)
def gMI (idx : Nat) (own : String) (y : MethodName) (b : ByteArray) (maxL : Nat) (m : Nat) : Prop := Cond.methodLink own idx y ∈ gU ∧ Cond.instanceMethod y ∈ gU ∧ Cond.initialized y.cls ∈ gU ∧ Cond.code y b maxL none ∈ gU ∧ gD y m ∧ y.name = "<init>"
theorem n_init {idx b maxL m mc ms : Nat} {y : MethodName} {cb : ByteArray} {rc : Room} {w0 wr : va_W} {w1 : (Nat → Nat) → va_W} {avs As rest st0 : List Value} (hC : nC κ D cl A cc own rm nL) (hM : ∀ sz, Met (kl κ) y (.code y cb maxL none :: gU) rc (nPre D cl sz w0 avs) (nPost D w1 w0 sz) mc ms (va_A w0 sz)) (hm : gMI idx own y cb maxL m) (hav : avs = .ref b :: As) (hst : avs.reverse ++ rest = st0) (hcat : Nat.ble (catsum rest) 8 = true) (hn : Nat.beq As.length m = true) (hRc : rc.cells = mc) (hRs : rc.slots = ms) (hRf : Nat.ble (rc.frames + 1) rm.frames = true) (hRl : Nat.ble (8 + (maxL + 11) + rc.locals) rm.locals = true) (isC isR : List Nat) (hCs : isC.map (fun i => ws[i]?) = w0.map some) (hnd : va_nd isC = true) (hRs2 : isR.map (fun i => ws[i]?) = wr.map some) (hnr : va_nd isR = true) (hdis : ∀ i ∈ isR, i ∉ isC) (h1 : Nat.ble (k + mc) rm.cells = true) (h2 : Nat.ble (n + ms) rm.slots = true) (hd : decode cc pc = .ok (.invokespecial idx, 3)) (hp : pc + 3 = pc') (kk : ∀ f : Nat → Nat, NN κ Q D A (wr ++ w1 f) (k + mc) (n + ms) pc' lo rest) : NN κ Q D A ws k n pc lo st0 := by
  subst hp; subst hav; subst hst
  intro H locs ls hP hD hS hl
  obtain ⟨m1, m2, m3, m4, m5, m6⟩ := hm
  have hR := hC.R
  have hts := hC.t
  have hPc : va_P D vwCl w0 H := hP.sub isC (by
    have := congrArg (List.filterMap id) hCs
    rw [List.filterMap_map, List.filterMap_map] at this
    simpa using this)
  have hDc := hD.sub (ws' := w0) isC hnd hCs
  have hFc := va_free (wc := w0) hD hS hC.aa isC hCs
  refine va_callv (va_runI (own := own) (As := As) (rest := rest) (n := m) (nL := nL) ⟨hC.x, hC.b, hC.ml, hC.o, hts⟩ (hM H.size) ⟨⟨hRc, hRs, by rw [hR]; exact Nat.le_of_ble_eq_true hRf, by rw [hR]; exact Nat.le_of_ble_eq_true hRl, pay_in hts (g_good m4), List.mem_cons_self, hts _ m4, hts _ m3, m5.1, m5.len, hts _ m1⟩, m6, hts _ m2⟩ ⟨nPre_blind, fun U hU hW => ⟨rfl, by rw [hU], by rw [hU]; exact hPc, va_K.moved hW.alike hC.K, hDc.weaken (fun _ _ _ _ => trivial), va_AO.moved hW.alike hC.ao⟩⟩ rfl (Nat.eq_of_beq_eq_true hn) (hl.1.trans hC.nn) (by simp) (lv_room (by rw [catsum_eq]; exact Nat.le_of_ble_eq_true hcat)) hd ⟨by rw [hR]; exact Nat.le_of_ble_eq_true h1, by rw [hR]; exact Nat.le_of_ble_eq_true h2⟩) hS (fun q _ h => hFc q h) hFc (fun f t H1 locs1 ht hvm hw hB hz1 hk1 hS1 => ?_)
  obtain ⟨hP1, hD1⟩ := hB
  rw [ht] at hP1
  obtain ⟨hP2, hD2⟩ := va_join hP hD isC isR hCs hRs2 hnr hdis hk1 hFc hP1 hD1
  exact kk f H1 locs1 ls hP2 hD2 hS1 hl
theorem n_vret {w0 : va_W} {w1 : (Nat → Nat) → va_W} {sz mc ms : Nat} (hC : nC κ D cl (va_A w0 sz) cc own rm nL) (hI : nIn κ) (f : Nat → Nat) (is : List Nat) (hnd : va_nd is = true) (hs : is.map (fun i => ws[i]?) = (w1 f).map some) (hk : Nat.ble k mc = true) (hn : Nat.ble n ms = true) (hd : decode cc pc = .ok (.return_, 1)) : NN κ (MQ (kbe κ) (nPost D w1 w0 sz) (kar κ) (ks κ) mc ms (va_A w0 sz)) D (va_A w0 sz) ws k n pc lo [] := by
  intro H locs ls hP hD hS hl
  have hPc : va_P D vwCl (w1 f) H := hP.sub is (by
    have := congrArg (List.filterMap id) hs
    rw [List.filterMap_map, List.filterMap_map] at this
    simpa using this)
  have hDc := hD.sub (ws' := w1 f) is hnd hs
  refine W.widen (Nat.le_of_ble_eq_true hk) (Nat.le_of_ble_eq_true hn) ?_
  exact W.vret hC.x hC.b hI.2.1 (fun t ht hW => ⟨⟨f, rfl, trivial, by rw [ht]; exact hPc, hDc⟩, hS.F ht⟩) hS.2.2 hd (hlocks := hI.2.2)
theorem n_ws {ws' : va_W} (h : ws = ws') (kk : NN κ Q D A ws' k n pc lo st) : NN κ Q D A ws k n pc lo st := by
  subst h
  exact kk
theorem n_fq {a N q0 : Nat} {cA : ClassId} {f g : Nat → Option Nat} {ws' : va_W} (he : ws[q0]? = some (a, .inl (cA, N, .inr (.inr (.inr (.inr f)))))) (hfg : ∀ j, j < N → f j = g j) (hset : ws.set q0 (a, .inl (cA, N, .inr (.inr (.inr (.inr g))))) = ws') (kk : NN κ Q D A ws' k n pc lo st) : NN κ Q D A ws k n pc lo st := by
  subst hset
  intro H locs ls hP hD hS hl
  have back : ∀ (i : Nat) (p : Nat × va_E), (ws.set q0 (a, .inl (cA, N, .inr (.inr (.inr (.inr g))))))[i]? = some p → ∃ p' : Nat × va_E, ws[i]? = some p' ∧ p'.1 = p.1 := by
    intro i p hp
    by_cases e : q0 = i
    · subst e
      rw [List.getElem?_set_self (List.getElem?_eq_some_iff.mp he).1] at hp
      cases hp
      exact ⟨_, he, rfl⟩
    · rw [List.getElem?_set_ne e] at hp
      exact ⟨p, hp, rfl⟩
  refine kk H locs ls (fun i p hp => ?_) ⟨fun i j p q hp hq hpq => ?_, fun i p hp => ?_⟩ hS hl
  · by_cases e : q0 = i
    · subst e
      rw [List.getElem?_set_self (List.getElem?_eq_some_iff.mp he).1] at hp
      cases hp
      have h1 : H[a]? = some (vp_cell cA (N, .inr (.inr (.inr (.inr f))))) := hP q0 _ he
      show H[a]? = some (vp_cell cA (N, .inr (.inr (.inr (.inr g)))))
      rw [h1, vp_cell_q, vp_cell_q]
      unfold arrV
      congr 3
      funext j
      show va_rf (f j.val) = va_rf (g j.val)
      rw [hfg j.val j.isLt]
    · rw [List.getElem?_set_ne e] at hp
      exact hP i p hp
  · obtain ⟨p', g1, g2⟩ := back i p hp
    obtain ⟨q', g3, g4⟩ := back j q hq
    exact hD.1 i j p' q' g1 g3 (by rw [g2, g4]; exact hpq)
  · obtain ⟨p', g1, g2⟩ := back i p hp
    rw [← g2]
    exact hD.2 i p' g1
end NL
theorem met_new {l : Launch} {y : MethodName} {cb : ByteArray} {maxL : Nat} {rm : Room} {D : va_G} {cl : Nat → ClassId} {w0 : va_W} {w1 : (Nat → Nat) → va_W} {mc ms sz : Nat} {avs : List Value} {lo : List (Option Value)} {own : String} (hy : plainName y.cls = true) (ho : y.cls = own) (hyn : y.name = "<init>") (hle : Nat.ble (lg_sl avs).length maxL = true) (hlo : lo_l 0 lo = lv_args 0 avs) (body : ∀ κ : GK, kl κ = l → nC κ D cl (va_A w0 sz) cb own rm maxL → nIn κ → NN κ (MQ (kbe κ) (nPost D w1 w0 sz) (kar κ) (ks κ) mc ms (va_A w0 sz)) D (va_A w0 sz) w0 0 0 0 lo []) : Met l y (.code y cb maxL none :: gU) rm (nPre D cl sz w0 avs) (nPost D w1 w0 sz) mc ms (va_A w0 sz) := by
  subst ho
  refine Met.ofW (cc := cb) (maxL := maxL) (ret := none) hy rfl ?_
  intro p e s m args below meth c s₁ B hml hv
  obtain ⟨rfl, hsz, hP, hK, hD0, hao⟩ := hv
  subst hsz
  have hts := atoms_spec (ws := .code y cb maxL none :: gU) B.pre
  have K := body (p, l, e, rm, s, m, avs.toArray, below, meth, c, maxL) rfl ⟨B.exec, B.bytes, hml, findClass_of_methodNamed B.named, fun w hw => hts w (List.mem_cons_of_mem _ hw), hK, fun q h => Or.inr h, rfl, rfl, hao⟩ ⟨((name_of_methodNamed B.named B.method).1).trans hyn, B.returns, B.notSynchronized⟩
  have hl := lv_entry avs (n := maxL) (Nat.le_of_ble_eq_true hle)
  rw [lg_entry_eq]
  generalize (lg_sl avs ++ List.replicate (maxL - (lg_sl avs).length) Slot.unset).toArray = ls at hl ⊢
  rw [← hlo] at hl
  exact K s.heap [] ls hP hD0.self va_S.rf hl
