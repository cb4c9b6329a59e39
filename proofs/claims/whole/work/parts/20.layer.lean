/-! the layer over the kit: W with heap, written places and slots hidden -/
abbrev GK : Type := Program × Launch × Env × Room × State × MethodId × Array Value × List Frame × Method × Code × Nat
abbrev GE : Type := va_G × (Nat → ClassId) × (Nat → Prop) × (Nat → Nat)
def ea (E : GE) : Nat → Nat := E.2.2.2
abbrev kp (κ : GK) := κ.1
abbrev kl (κ : GK) := κ.2.1
abbrev ke (κ : GK) := κ.2.2.1
abbrev kR (κ : GK) := κ.2.2.2.1
abbrev ks (κ : GK) := κ.2.2.2.2.1
abbrev km (κ : GK) := κ.2.2.2.2.2.1
abbrev kar (κ : GK) := κ.2.2.2.2.2.2.1
abbrev kbe (κ : GK) := κ.2.2.2.2.2.2.2.1
abbrev kme (κ : GK) := κ.2.2.2.2.2.2.2.2.1
abbrev kc (κ : GK) := κ.2.2.2.2.2.2.2.2.2.1
abbrev kn (κ : GK) := κ.2.2.2.2.2.2.2.2.2.2
def gty (E : GE) : List (ClassId × FieldType) := [(E.2.1 0, .boolean), (E.2.1 1, .byte), (E.2.1 2, .int), (E.2.1 3, .long), (E.2.1 4, .object RX0)]
def gN (U : State) : Prop := ∀ w ∈ nestW, va_Nw w U
theorem gN.warm {s U : State} (hW : s.WarmedH U.vm) (h : gN s) : gN U := by
  intro w hw
  have hz := h w hw
  simp only [nestW, List.mem_cons, List.not_mem_nil, or_false] at hw
  rcases hw with rfl | rfl | rfl | rfl | rfl | rfl | rfl | rfl | rfl | rfl | rfl <;> exact va_Nw.warmM hW hz
theorem gN.vm {u U : State} (hv : u.vm = U.vm) (h : gN u) : gN U := by
  intro w hw
  have hz := h w hw
  simp only [nestW, List.mem_cons, List.not_mem_nil, or_false] at hw
  rcases hw with rfl | rfl | rfl | rfl | rfl | rfl | rfl | rfl | rfl | rfl | rfl <;> exact va_Nw.same rfl hv hz
def gQ (E : GE) (ws' : va_W) (rv : Option Value) : Array Value → State → Outcome → State → Prop := fun _ st oc t => (oc = .returned rv ∧ va_P E.1 vwCl ws' t.heap ∧ va_K E.1 vwCl (gty E) t ∧ va_D E.2.2.1 ws') ∧ va_F E.2.2.1 st t
def gP (E : GE) (ws : va_W) (avs : List Value) : Array Value → State → Prop := va_Pc avs (fun U => va_P E.1 vwCl ws U.heap ∧ va_K E.1 vwCl (gty E) U ∧ gN U ∧ va_D E.2.2.1 ws)
theorem gP_blind {E : GE} {ws : va_W} {avs : List Value} : FrameBlind (gP E ws avs) := by
  intro a U g mk h
  obtain ⟨h0, h1, h2, h3, h4⟩ := h
  exact ⟨h0, h1, va_K.moved (u := U) (U := U.calling g mk a) (Vm.Alike.refl U.vm) h2, gN.vm (u := U) rfl h3, h4⟩
def lo_l : Nat → List (Option Value) → List (Nat × Value)
  | _, [] => []
  | i, none :: t => lo_l (i + 1) t
  | i, some v :: t => (i, v) :: lo_l (i + 1) t
theorem lo_mem : ∀ (lo : List (Option Value)) (i j : Nat) (v : Value), (j, v) ∈ lo_l i lo ↔ i ≤ j ∧ lo[j - i]? = some (some v) := by
  intro lo
  induction lo with
  | nil => intro i j v; simp [lo_l]
  | cons a t ih =>
    intro i j v
    have key : i + 1 ≤ j → (a :: t)[j - i]? = t[j - (i + 1)]? := by
      intro h
      have e : j - i = (j - (i + 1)) + 1 := by omega
      rw [e, List.getElem?_cons_succ]
    cases a with
    | none =>
      show (j, v) ∈ lo_l (i + 1) t ↔ _
      rw [ih]
      constructor
      · rintro ⟨h1, h2⟩
        exact ⟨by omega, by rw [key h1]; exact h2⟩
      · rintro ⟨h1, h2⟩
        by_cases e : j = i
        · subst e
          simp at h2
        · have h3 : i + 1 ≤ j := by omega
          rw [key h3] at h2
          exact ⟨h3, h2⟩
    | some w =>
      show (j, v) ∈ (i, w) :: lo_l (i + 1) t ↔ _
      rw [List.mem_cons, ih]
      constructor
      · rintro (h | ⟨h1, h2⟩)
        · cases h
          exact ⟨Nat.le_refl _, by simp⟩
        · exact ⟨by omega, by rw [key h1]; exact h2⟩
      · rintro ⟨h1, h2⟩
        by_cases e : j = i
        · subst e
          simp at h2
          subst h2
          exact Or.inl rfl
        · have h3 : i + 1 ≤ j := by omega
          rw [key h3] at h2
          exact Or.inr ⟨h3, h2⟩
theorem lo_at {ls : Array Slot} {nL : Nat} {lo : List (Option Value)} {i : Nat} {v : Value} (h : lv_has ls nL (lo_l 0 lo)) (hi : lo[i]? = some (some v)) : ls[i]? = some (.val v) := h.2.2 (i, v) ((lo_mem lo 0 i v).mpr ⟨Nat.zero_le _, hi⟩)
def lo_ok (lo : List (Option Value)) : Nat → Bool
  | 0 => true
  | i + 1 => match lo[i]? with
    | some (some v) => Nat.beq v.category 1
    | _ => true
theorem lo_ok_cat {lo : List (Option Value)} {i j : Nat} {v : Value} (h : lo_ok lo i = true) (hj : j + 1 = i) (hv : lo[j]? = some (some v)) : v.category = 1 := by
  subst hj
  simp only [lo_ok, hv] at h
  exact Nat.eq_of_beq_eq_true h
theorem lo_put1 {ls' : Array Slot} {nL i : Nat} {x : Value} {lo : List (Option Value)} (hok : lo_ok lo i = true) (h : lv_has ls' nL ((i, x) :: (lo_l 0 lo).filter (fun q => !(q.1 == i) && !(q.1 + 1 == i && q.2.category == 2)))) : lv_has ls' nL (lo_l 0 (lo.set i (some x))) := by
  refine ⟨h.1, h.2.1, ?_⟩
  rintro ⟨j, v⟩ hq
  obtain ⟨-, hv⟩ := (lo_mem _ 0 j v).mp hq
  rw [Nat.sub_zero] at hv
  by_cases e : i = j
  · subst e
    rw [List.getElem?_set] at hv
    split at hv
    · split at hv
      · cases hv
        exact h.2.2 (i, x) List.mem_cons_self
      · cases hv
    · exact absurd rfl ‹_›
  · rw [List.getElem?_set_ne e] at hv
    refine h.2.2 (j, v) (List.mem_cons_of_mem _ (List.mem_filter.mpr ⟨(lo_mem lo 0 j v).mpr ⟨Nat.zero_le _, hv⟩, ?_⟩))
    by_cases e2 : j + 1 = i
    · have := lo_ok_cat hok e2 hv
      simp [this, Ne.symm e]
    · simp [e2, Ne.symm e]
theorem lo_put2 {ls' : Array Slot} {nL i : Nat} {x : Value} {lo : List (Option Value)} (hok : lo_ok lo i = true) (h : lv_has ls' nL ((i, x) :: (lo_l 0 lo).filter (fun q => !(q.1 == i) && (!(q.1 == i + 1) && !(q.1 + 1 == i && q.2.category == 2))))) : lv_has ls' nL (lo_l 0 ((lo.set i (some x)).set (i + 1) none)) := by
  refine ⟨h.1, h.2.1, ?_⟩
  rintro ⟨j, v⟩ hq
  obtain ⟨-, hv⟩ := (lo_mem _ 0 j v).mp hq
  rw [Nat.sub_zero] at hv
  by_cases e1 : i + 1 = j
  · subst e1
    rw [List.getElem?_set] at hv
    split at hv
    · split at hv
      · cases hv
      · cases hv
    · exact absurd rfl ‹_›
  · rw [List.getElem?_set_ne e1] at hv
    by_cases e : i = j
    · subst e
      rw [List.getElem?_set] at hv
      split at hv
      · split at hv
        · cases hv
          exact h.2.2 (i, x) List.mem_cons_self
        · cases hv
      · exact absurd rfl ‹_›
    · rw [List.getElem?_set_ne e] at hv
      refine h.2.2 (j, v) (List.mem_cons_of_mem _ (List.mem_filter.mpr ⟨(lo_mem lo 0 j v).mpr ⟨Nat.zero_le _, hv⟩, ?_⟩))
      by_cases e2 : j + 1 = i
      · have := lo_ok_cat hok e2 hv
        simp [this, Ne.symm e, Ne.symm e1]
      · simp [e2, Ne.symm e, Ne.symm e1]
def lo_mask : List (Option Value) → List (Option Value) → List (Option Value)
  | none :: a, _ :: b => none :: lo_mask a b
  | some _ :: a, x :: b => x :: lo_mask a b
  | _, _ => []
theorem lo_mask_at : ∀ (a b : List (Option Value)), lo_mask a b = a → ∀ (i : Nat) (v : Value), a[i]? = some (some v) → b[i]? = some (some v) := by
  intro a
  induction a with
  | nil => intro b h i v hv; simp at hv
  | cons x a ih =>
    intro b h i v hv
    cases b with
    | nil => cases x <;> simp [lo_mask] at h
    | cons y b =>
      cases x with
      | none =>
        simp only [lo_mask, List.cons.injEq, true_and] at h
        cases i with
        | zero => simp at hv
        | succ i => rw [List.getElem?_cons_succ] at hv ⊢; exact ih b h i v hv
      | some w =>
        simp only [lo_mask, List.cons.injEq] at h
        obtain ⟨h1, h2⟩ := h
        cases i with
        | zero => rw [List.getElem?_cons_zero] at hv ⊢; rw [h1]; exact hv
        | succ i => rw [List.getElem?_cons_succ] at hv ⊢; exact ih b h2 i v hv
def catsum : List Value → Nat
  | [] => 0
  | v :: t => v.category + catsum t
theorem catsum_eq (l : List Value) : (l.map fun v => v.category).sum = catsum l := by
  induction l with
  | nil => rfl
  | cons v t ih => simp only [List.map_cons, List.sum_cons, catsum, ih]
def GG (κ : GK) (E : GE) (fin : va_W × Option Value) (ws : va_W) (pc : Nat) (lo : List (Option Value)) (st : List Value) : Prop :=
  ∀ (H : Heap) (locs : List Loc) (ls : Array Slot), va_P E.1 vwCl ws H → va_D E.2.2.1 ws → va_S E.2.2.1 (ks κ).heap H locs → lv_has ls (kn κ) (lo_l 0 lo) → W (kp κ) (kl κ) (ke κ) (kR κ) (ks κ) (km κ) (kar κ) (kbe κ) (kme κ) (kc κ) H locs 0 0 (MQ (kbe κ) (gQ E fin.1 fin.2) (kar κ) (ks κ) 0 0 E.2.2.1) (F0 (km κ) pc ls st)
def gC (κ : GK) (E : GE) (cc : ByteArray) (own : String) (ret : Option FieldType) (rm : Room) (nL : Nat) : Prop :=
  (kp κ).tables.exec = Jvm.exec ∧ (kc κ).code = cc ∧ (kme κ).sig.returnType = ret ∧ (kc κ).maxLocals = nL ∧ (ks κ).vm.findClass own = some (km κ).cls ∧ (∀ w ∈ gU, w.before (kar κ) (ks κ) = true) ∧ va_K E.1 vwCl (gty E) (ks κ) ∧ gN (ks κ) ∧ (kme κ).locks = false ∧ kR κ = rm ∧ kn κ = nL
section GL
variable {κ : GK} {E : GE} {cc : ByteArray} {own : String} {ret : Option FieldType} {rm : Room} {nL : Nat} {fin : va_W × Option Value} {ws ws' : va_W} {lo lo' : List (Option Value)} {st : List Value} {pc pc' tgt : Nat}
theorem gC.x (h : gC κ E cc own ret rm nL) : (kp κ).tables.exec = Jvm.exec := h.1
theorem gC.b (h : gC κ E cc own ret rm nL) : (kc κ).code = cc := h.2.1
theorem gC.r (h : gC κ E cc own ret rm nL) : (kme κ).sig.returnType = ret := h.2.2.1
theorem gC.ml (h : gC κ E cc own ret rm nL) : (kc κ).maxLocals = nL := h.2.2.2.1
theorem gC.o (h : gC κ E cc own ret rm nL) : (ks κ).vm.findClass own = some (km κ).cls := h.2.2.2.2.1
theorem gC.t (h : gC κ E cc own ret rm nL) : ∀ w ∈ gU, w.before (kar κ) (ks κ) = true := h.2.2.2.2.2.1
theorem gC.K (h : gC κ E cc own ret rm nL) : va_K E.1 vwCl (gty E) (ks κ) := h.2.2.2.2.2.2.1
theorem gC.N (h : gC κ E cc own ret rm nL) : gN (ks κ) := h.2.2.2.2.2.2.2.1
theorem gC.lk (h : gC κ E cc own ret rm nL) : (kme κ).locks = false := h.2.2.2.2.2.2.2.2.1
theorem gC.R (h : gC κ E cc own ret rm nL) : kR κ = rm := h.2.2.2.2.2.2.2.2.2.1
theorem gC.n (h : gC κ E cc own ret rm nL) : kn κ = nL := h.2.2.2.2.2.2.2.2.2.2
theorem g_weak (hm : lo_mask lo' lo = lo') (k : GG κ E fin ws pc lo' st) : GG κ E fin ws pc lo st := by
  intro H locs ls hP hD hS hl
  refine k H locs ls hP hD hS ⟨hl.1, hl.2.1, ?_⟩
  rintro ⟨j, v⟩ hq
  obtain ⟨-, hv⟩ := (lo_mem _ 0 j v).mp hq
  exact lo_at hl (lo_mask_at _ _ hm _ _ hv)
theorem g_iconst {n : Int} {v : Int32} (hC : gC κ E cc own ret rm nL) (hd : decode cc pc = .ok (.iconst n, 1)) (hv : Int32.ofInt n = v) (hp : pc + 1 = pc') (kk : GG κ E fin ws pc' lo (.int v :: st)) : GG κ E fin ws pc lo st := by
  subst hp
  intro H locs ls hP hD hS hl
  exact lv_iconst hC.x hC.b hd hv (kk H locs ls hP hD hS hl)
theorem g_bipush {n : Int} {v : Int32} (hC : gC κ E cc own ret rm nL) (hd : decode cc pc = .ok (.bipush n, 2)) (hv : (Int8.ofInt n).toInt32 = v) (hp : pc + 2 = pc') (kk : GG κ E fin ws pc' lo (.int v :: st)) : GG κ E fin ws pc lo st := by
  subst hp
  intro H locs ls hP hD hS hl
  exact lv_bipush hC.x hC.b hd hv (kk H locs ls hP hD hS hl)
theorem g_sipush {n : Int} {v : Int32} (hC : gC κ E cc own ret rm nL) (hd : decode cc pc = .ok (.sipush n, 3)) (hv : (Int16.ofInt n).toInt32 = v) (hp : pc + 3 = pc') (kk : GG κ E fin ws pc' lo (.int v :: st)) : GG κ E fin ws pc lo st := by
  subst hp
  intro H locs ls hP hD hS hl
  exact lv_sipush hC.x hC.b hd hv (kk H locs ls hP hD hS hl)
theorem g_lconst {n : Fin 2} {v : Int64} (hC : gC κ E cc own ret rm nL) (hd : decode cc pc = .ok (.lconst n, 1)) (hv : Int64.ofNat (n : Nat) = v) (hp : pc + 1 = pc') (kk : GG κ E fin ws pc' lo (.long v :: st)) : GG κ E fin ws pc lo st := by
  subst hp
  intro H locs ls hP hD hS hl
  exact lv_lconst hC.x hC.b hd hv (kk H locs ls hP hD hS hl)
theorem g_lload_n {k : Fin 4} {i : Nat} {x : Int64} (hC : gC κ E cc own ret rm nL) (hd : decode cc pc = .ok (.lload_n k, 1)) (hi : (k : Nat) = i) (hl0 : lo[i]? = some (some (.long x))) (hp : pc + 1 = pc') (kk : GG κ E fin ws pc' lo (.long x :: st)) : GG κ E fin ws pc lo st := by
  subst hp
  intro H locs ls hP hD hS hl
  exact lv_lload_n hC.x hC.b hd hi (lo_at hl hl0) (kk H locs ls hP hD hS hl)
theorem g_lload {i : Nat} {x : Int64} (hC : gC κ E cc own ret rm nL) (hd : decode cc pc = .ok (.lload i, 2)) (hl0 : lo[i]? = some (some (.long x))) (hp : pc + 2 = pc') (kk : GG κ E fin ws pc' lo (.long x :: st)) : GG κ E fin ws pc lo st := by
  subst hp
  intro H locs ls hP hD hS hl
  exact lv_lload hC.x hC.b hd (lo_at hl hl0) (kk H locs ls hP hD hS hl)
theorem g_iload_n {k : Fin 4} {i : Nat} {x : Int32} (hC : gC κ E cc own ret rm nL) (hd : decode cc pc = .ok (.iload_n k, 1)) (hi : (k : Nat) = i) (hl0 : lo[i]? = some (some (.int x))) (hp : pc + 1 = pc') (kk : GG κ E fin ws pc' lo (.int x :: st)) : GG κ E fin ws pc lo st := by
  subst hp
  intro H locs ls hP hD hS hl
  exact lv_iload_n hC.x hC.b hd hi (lo_at hl hl0) (kk H locs ls hP hD hS hl)
theorem g_iload {i : Nat} {x : Int32} (hC : gC κ E cc own ret rm nL) (hd : decode cc pc = .ok (.iload i, 2)) (hl0 : lo[i]? = some (some (.int x))) (hp : pc + 2 = pc') (kk : GG κ E fin ws pc' lo (.int x :: st)) : GG κ E fin ws pc lo st := by
  subst hp
  intro H locs ls hP hD hS hl
  exact lv_iload hC.x hC.b hd (lo_at hl hl0) (kk H locs ls hP hD hS hl)
theorem g_aload_n {k : Fin 4} {i : Nat} {x : Nat} (hC : gC κ E cc own ret rm nL) (hd : decode cc pc = .ok (.aload_n k, 1)) (hi : (k : Nat) = i) (hl0 : lo[i]? = some (some (.ref x))) (hp : pc + 1 = pc') (kk : GG κ E fin ws pc' lo (.ref x :: st)) : GG κ E fin ws pc lo st := by
  subst hp
  intro H locs ls hP hD hS hl
  exact lv_aload_n hC.x hC.b hd hi (lo_at hl hl0) (kk H locs ls hP hD hS hl)
theorem g_aload {i : Nat} {x : Nat} (hC : gC κ E cc own ret rm nL) (hd : decode cc pc = .ok (.aload i, 2)) (hl0 : lo[i]? = some (some (.ref x))) (hp : pc + 2 = pc') (kk : GG κ E fin ws pc' lo (.ref x :: st)) : GG κ E fin ws pc lo st := by
  subst hp
  intro H locs ls hP hD hS hl
  exact lv_aload hC.x hC.b hd (lo_at hl hl0) (kk H locs ls hP hD hS hl)
theorem g_aload_nN {k : Fin 4} {i : Nat} (hC : gC κ E cc own ret rm nL) (hd : decode cc pc = .ok (.aload_n k, 1)) (hi : (k : Nat) = i) (hl0 : lo[i]? = some (some .null)) (hp : pc + 1 = pc') (kk : GG κ E fin ws pc' lo (.null :: st)) : GG κ E fin ws pc lo st := by
  subst hp
  intro H locs ls hP hD hS hl
  exact lv_aload_nN hC.x hC.b hd hi (lo_at hl hl0) (kk H locs ls hP hD hS hl)
theorem g_aloadN {i : Nat} (hC : gC κ E cc own ret rm nL) (hd : decode cc pc = .ok (.aload i, 2)) (hl0 : lo[i]? = some (some .null)) (hp : pc + 2 = pc') (kk : GG κ E fin ws pc' lo (.null :: st)) : GG κ E fin ws pc lo st := by
  subst hp
  intro H locs ls hP hD hS hl
  exact lv_aloadN hC.x hC.b hd (lo_at hl hl0) (kk H locs ls hP hD hS hl)
theorem g_istore_n {i : Nat} {k : Fin 4} {x : Int32} (hC : gC κ E cc own ret rm nL) (hd : decode cc pc = .ok (.istore_n k, 1)) (hi : (k : Nat) = i) (hn : Nat.ble (i + 1) nL = true) (hok : lo_ok lo i = true) (hlo : lo.set i (some (.int x)) = lo') (hp : pc + 1 = pc') (kk : GG κ E fin ws pc' lo' st) : GG κ E fin ws pc lo (.int x :: st) := by
  subst hp; subst hlo
  intro H locs ls hP hD hS hl
  have hn2 : i + 1 ≤ kn κ := by rw [hC.n]; exact Nat.le_of_ble_eq_true hn
  exact lv_istore_n hC.x hC.b hd hi hl (by omega) rfl (fun ls' hl' => kk H locs ls' hP hD hS (lo_put1 hok hl'))
theorem g_istore {i : Nat} {x : Int32} (hC : gC κ E cc own ret rm nL) (hd : decode cc pc = .ok (.istore i, 2)) (hn : Nat.ble (i + 1) nL = true) (hok : lo_ok lo i = true) (hlo : lo.set i (some (.int x)) = lo') (hp : pc + 2 = pc') (kk : GG κ E fin ws pc' lo' st) : GG κ E fin ws pc lo (.int x :: st) := by
  subst hp; subst hlo
  intro H locs ls hP hD hS hl
  have hn2 : i + 1 ≤ kn κ := by rw [hC.n]; exact Nat.le_of_ble_eq_true hn
  exact lv_istore hC.x hC.b hd hl (by omega) rfl (fun ls' hl' => kk H locs ls' hP hD hS (lo_put1 hok hl'))
theorem g_lstore_n {i : Nat} {k : Fin 4} {x : Int64} (hC : gC κ E cc own ret rm nL) (hd : decode cc pc = .ok (.lstore_n k, 1)) (hi : (k : Nat) = i) (hn : Nat.ble (i + 2) nL = true) (hok : lo_ok lo i = true) (hlo : (lo.set i (some (.long x))).set (i + 1) none = lo') (hp : pc + 1 = pc') (kk : GG κ E fin ws pc' lo' st) : GG κ E fin ws pc lo (.long x :: st) := by
  subst hp; subst hlo
  intro H locs ls hP hD hS hl
  have hn2 : i + 2 ≤ kn κ := by rw [hC.n]; exact Nat.le_of_ble_eq_true hn
  exact lv_lstore_n hC.x hC.b hd hi hl (by omega) rfl (fun ls' hl' => kk H locs ls' hP hD hS (lo_put2 hok hl'))
theorem g_lstore {i : Nat} {x : Int64} (hC : gC κ E cc own ret rm nL) (hd : decode cc pc = .ok (.lstore i, 2)) (hn : Nat.ble (i + 2) nL = true) (hok : lo_ok lo i = true) (hlo : (lo.set i (some (.long x))).set (i + 1) none = lo') (hp : pc + 2 = pc') (kk : GG κ E fin ws pc' lo' st) : GG κ E fin ws pc lo (.long x :: st) := by
  subst hp; subst hlo
  intro H locs ls hP hD hS hl
  have hn2 : i + 2 ≤ kn κ := by rw [hC.n]; exact Nat.le_of_ble_eq_true hn
  exact lv_lstore hC.x hC.b hd hl (by omega) rfl (fun ls' hl' => kk H locs ls' hP hD hS (lo_put2 hok hl'))
theorem g_astore_n {i : Nat} {k : Fin 4} {x : Nat} (hC : gC κ E cc own ret rm nL) (hd : decode cc pc = .ok (.astore_n k, 1)) (hi : (k : Nat) = i) (hn : Nat.ble (i + 1) nL = true) (hok : lo_ok lo i = true) (hlo : lo.set i (some (.ref x)) = lo') (hp : pc + 1 = pc') (kk : GG κ E fin ws pc' lo' st) : GG κ E fin ws pc lo (.ref x :: st) := by
  subst hp; subst hlo
  intro H locs ls hP hD hS hl
  have hn2 : i + 1 ≤ kn κ := by rw [hC.n]; exact Nat.le_of_ble_eq_true hn
  exact lv_astore_n hC.x hC.b hd hi hl (by omega) rfl (fun ls' hl' => kk H locs ls' hP hD hS (lo_put1 hok hl'))
theorem g_astore {i : Nat} {x : Nat} (hC : gC κ E cc own ret rm nL) (hd : decode cc pc = .ok (.astore i, 2)) (hn : Nat.ble (i + 1) nL = true) (hok : lo_ok lo i = true) (hlo : lo.set i (some (.ref x)) = lo') (hp : pc + 2 = pc') (kk : GG κ E fin ws pc' lo' st) : GG κ E fin ws pc lo (.ref x :: st) := by
  subst hp; subst hlo
  intro H locs ls hP hD hS hl
  have hn2 : i + 1 ≤ kn κ := by rw [hC.n]; exact Nat.le_of_ble_eq_true hn
  exact lv_astore hC.x hC.b hd hl (by omega) rfl (fun ls' hl' => kk H locs ls' hP hD hS (lo_put1 hok hl'))
theorem g_astore_nN {i : Nat} {k : Fin 4} (hC : gC κ E cc own ret rm nL) (hd : decode cc pc = .ok (.astore_n k, 1)) (hi : (k : Nat) = i) (hn : Nat.ble (i + 1) nL = true) (hok : lo_ok lo i = true) (hlo : lo.set i (some (.null)) = lo') (hp : pc + 1 = pc') (kk : GG κ E fin ws pc' lo' st) : GG κ E fin ws pc lo (.null :: st) := by
  subst hp; subst hlo
  intro H locs ls hP hD hS hl
  have hn2 : i + 1 ≤ kn κ := by rw [hC.n]; exact Nat.le_of_ble_eq_true hn
  exact lv_astore_nN hC.x hC.b hd hi hl (by omega) rfl (fun ls' hl' => kk H locs ls' hP hD hS (lo_put1 hok hl'))
theorem g_astoreN {i : Nat} (hC : gC κ E cc own ret rm nL) (hd : decode cc pc = .ok (.astore i, 2)) (hn : Nat.ble (i + 1) nL = true) (hok : lo_ok lo i = true) (hlo : lo.set i (some (.null)) = lo') (hp : pc + 2 = pc') (kk : GG κ E fin ws pc' lo' st) : GG κ E fin ws pc lo (.null :: st) := by
  subst hp; subst hlo
  intro H locs ls hP hD hS hl
  have hn2 : i + 1 ≤ kn κ := by rw [hC.n]; exact Nat.le_of_ble_eq_true hn
  exact lv_astoreN hC.x hC.b hd hl (by omega) rfl (fun ls' hl' => kk H locs ls' hP hD hS (lo_put1 hok hl'))
theorem g_iinc {i : Nat} {n : Int} {x k : Int32} (hC : gC κ E cc own ret rm nL) (hd : decode cc pc = .ok (.iinc i n, 3)) (hk : lo[i]? = some (some (.int x))) (hv : Int32.ofInt n = k) (hn : Nat.ble (i + 1) nL = true) (hok : lo_ok lo i = true) (hlo : lo.set i (some (.int (x + k))) = lo') (hp : pc + 3 = pc') (kk : GG κ E fin ws pc' lo' st) : GG κ E fin ws pc lo st := by
  subst hp; subst hlo
  intro H locs ls hP hD hS hl
  have hn2 : i + 1 ≤ kn κ := by rw [hC.n]; exact Nat.le_of_ble_eq_true hn
  obtain ⟨j, hj⟩ := List.getElem?_of_mem ((lo_mem lo 0 i (.int x)).mpr ⟨Nat.zero_le _, hk⟩)
  exact lv_iinc hC.x hC.b hd hl hj (by rw [hv]) (by omega) rfl (fun ls' hl' => kk H locs ls' hP hD hS (lo_put1 hok hl'))
theorem g_iincW {i : Nat} {n : Int} {x k : Int32} (hC : gC κ E cc own ret rm nL) (hd : decode cc pc = .ok (.iinc i n, 6)) (hk : lo[i]? = some (some (.int x))) (hv : Int32.ofInt n = k) (hn : Nat.ble (i + 1) nL = true) (hok : lo_ok lo i = true) (hlo : lo.set i (some (.int (x + k))) = lo') (hp : pc + 6 = pc') (kk : GG κ E fin ws pc' lo' st) : GG κ E fin ws pc lo st := by
  subst hp; subst hlo
  intro H locs ls hP hD hS hl
  have hn2 : i + 1 ≤ kn κ := by rw [hC.n]; exact Nat.le_of_ble_eq_true hn
  obtain ⟨j, hj⟩ := List.getElem?_of_mem ((lo_mem lo 0 i (.int x)).mpr ⟨Nat.zero_le _, hk⟩)
  exact lv_iincW hC.x hC.b hd hl hj (by rw [hv]) (by omega) rfl (fun ls' hl' => kk H locs ls' hP hD hS (lo_put1 hok hl'))
theorem g_null (hC : gC κ E cc own ret rm nL) (hd : decode cc pc = .ok (.aconst_null, 1)) (hp : pc + 1 = pc') (kk : GG κ E fin ws pc' lo (.null :: st)) : GG κ E fin ws pc lo st := by
  subst hp
  intro H locs ls hP hD hS hl
  exact lv_null hC.x hC.b hd (kk H locs ls hP hD hS hl)
theorem g_dup {v : Value} (hC : gC κ E cc own ret rm nL) (hd : decode cc pc = .ok (.dup, 1)) (hc : v.category = 1) (hp : pc + 1 = pc') (kk : GG κ E fin ws pc' lo (v :: v :: st)) : GG κ E fin ws pc lo (v :: st) := by
  subst hp
  intro H locs ls hP hD hS hl
  exact lv_dup hC.x hC.b hd hc (kk H locs ls hP hD hS hl)
theorem g_dup2 {v w : Value} (hC : gC κ E cc own ret rm nL) (hd : decode cc pc = .ok (.dup2, 1)) (hc : v.category = 1) (hc2 : w.category = 1) (hp : pc + 1 = pc') (kk : GG κ E fin ws pc' lo (v :: w :: v :: w :: st)) : GG κ E fin ws pc lo (v :: w :: st) := by
  subst hp
  intro H locs ls hP hD hS hl
  exact lv_dup2_11 hC.x hC.b hd hc hc2 (kk H locs ls hP hD hS hl)
theorem g_iadd {x : Int32} {y : Int32} (hC : gC κ E cc own ret rm nL) (hd : decode cc pc = .ok (.iadd, 1)) (hp : pc + 1 = pc') (kk : GG κ E fin ws pc' lo (.int (x + y) :: st)) : GG κ E fin ws pc lo (.int y :: .int x :: st) := by
  subst hp
  intro H locs ls hP hD hS hl
  exact lv_iadd hC.x hC.b hd (kk H locs ls hP hD hS hl)
theorem g_isub {x : Int32} {y : Int32} (hC : gC κ E cc own ret rm nL) (hd : decode cc pc = .ok (.isub, 1)) (hp : pc + 1 = pc') (kk : GG κ E fin ws pc' lo (.int (x - y) :: st)) : GG κ E fin ws pc lo (.int y :: .int x :: st) := by
  subst hp
  intro H locs ls hP hD hS hl
  exact lv_isub hC.x hC.b hd (kk H locs ls hP hD hS hl)
theorem g_imul {x : Int32} {y : Int32} (hC : gC κ E cc own ret rm nL) (hd : decode cc pc = .ok (.imul, 1)) (hp : pc + 1 = pc') (kk : GG κ E fin ws pc' lo (.int (x * y) :: st)) : GG κ E fin ws pc lo (.int y :: .int x :: st) := by
  subst hp
  intro H locs ls hP hD hS hl
  exact lv_imul hC.x hC.b hd (kk H locs ls hP hD hS hl)
theorem g_iand {x : Int32} {y : Int32} (hC : gC κ E cc own ret rm nL) (hd : decode cc pc = .ok (.iand, 1)) (hp : pc + 1 = pc') (kk : GG κ E fin ws pc' lo (.int (x &&& y) :: st)) : GG κ E fin ws pc lo (.int y :: .int x :: st) := by
  subst hp
  intro H locs ls hP hD hS hl
  exact lv_iand hC.x hC.b hd (kk H locs ls hP hD hS hl)
theorem g_ior {x : Int32} {y : Int32} (hC : gC κ E cc own ret rm nL) (hd : decode cc pc = .ok (.ior, 1)) (hp : pc + 1 = pc') (kk : GG κ E fin ws pc' lo (.int (x ||| y) :: st)) : GG κ E fin ws pc lo (.int y :: .int x :: st) := by
  subst hp
  intro H locs ls hP hD hS hl
  exact lv_ior hC.x hC.b hd (kk H locs ls hP hD hS hl)
theorem g_ixor {x : Int32} {y : Int32} (hC : gC κ E cc own ret rm nL) (hd : decode cc pc = .ok (.ixor, 1)) (hp : pc + 1 = pc') (kk : GG κ E fin ws pc' lo (.int (x ^^^ y) :: st)) : GG κ E fin ws pc lo (.int y :: .int x :: st) := by
  subst hp
  intro H locs ls hP hD hS hl
  exact lv_ixor hC.x hC.b hd (kk H locs ls hP hD hS hl)
theorem g_idiv {x : Int32} {y : Int32} (hC : gC κ E cc own ret rm nL) (hd : decode cc pc = .ok (.idiv, 1)) (hne : ¬ y = 0) (hp : pc + 1 = pc') (kk : GG κ E fin ws pc' lo (.int (x / y) :: st)) : GG κ E fin ws pc lo (.int y :: .int x :: st) := by
  subst hp
  intro H locs ls hP hD hS hl
  exact lv_idiv hC.x hC.b hd hne (kk H locs ls hP hD hS hl)
theorem g_ladd {x : Int64} {y : Int64} (hC : gC κ E cc own ret rm nL) (hd : decode cc pc = .ok (.ladd, 1)) (hp : pc + 1 = pc') (kk : GG κ E fin ws pc' lo (.long (x + y) :: st)) : GG κ E fin ws pc lo (.long y :: .long x :: st) := by
  subst hp
  intro H locs ls hP hD hS hl
  exact lv_ladd hC.x hC.b hd (kk H locs ls hP hD hS hl)
theorem g_lsub {x : Int64} {y : Int64} (hC : gC κ E cc own ret rm nL) (hd : decode cc pc = .ok (.lsub, 1)) (hp : pc + 1 = pc') (kk : GG κ E fin ws pc' lo (.long (x - y) :: st)) : GG κ E fin ws pc lo (.long y :: .long x :: st) := by
  subst hp
  intro H locs ls hP hD hS hl
  exact lv_lsub hC.x hC.b hd (kk H locs ls hP hD hS hl)
theorem g_lmul {x : Int64} {y : Int64} (hC : gC κ E cc own ret rm nL) (hd : decode cc pc = .ok (.lmul, 1)) (hp : pc + 1 = pc') (kk : GG κ E fin ws pc' lo (.long (x * y) :: st)) : GG κ E fin ws pc lo (.long y :: .long x :: st) := by
  subst hp
  intro H locs ls hP hD hS hl
  exact lv_lmul hC.x hC.b hd (kk H locs ls hP hD hS hl)
theorem g_land {x : Int64} {y : Int64} (hC : gC κ E cc own ret rm nL) (hd : decode cc pc = .ok (.land, 1)) (hp : pc + 1 = pc') (kk : GG κ E fin ws pc' lo (.long (x &&& y) :: st)) : GG κ E fin ws pc lo (.long y :: .long x :: st) := by
  subst hp
  intro H locs ls hP hD hS hl
  exact lv_land hC.x hC.b hd (kk H locs ls hP hD hS hl)
theorem g_lor {x : Int64} {y : Int64} (hC : gC κ E cc own ret rm nL) (hd : decode cc pc = .ok (.lor, 1)) (hp : pc + 1 = pc') (kk : GG κ E fin ws pc' lo (.long (x ||| y) :: st)) : GG κ E fin ws pc lo (.long y :: .long x :: st) := by
  subst hp
  intro H locs ls hP hD hS hl
  exact lv_lor hC.x hC.b hd (kk H locs ls hP hD hS hl)
theorem g_lxor {x : Int64} {y : Int64} (hC : gC κ E cc own ret rm nL) (hd : decode cc pc = .ok (.lxor, 1)) (hp : pc + 1 = pc') (kk : GG κ E fin ws pc' lo (.long (x ^^^ y) :: st)) : GG κ E fin ws pc lo (.long y :: .long x :: st) := by
  subst hp
  intro H locs ls hP hD hS hl
  exact lv_lxor hC.x hC.b hd (kk H locs ls hP hD hS hl)
theorem g_ishl {x : Int32} {y : Int32} (hC : gC κ E cc own ret rm nL) (hd : decode cc pc = .ok (.ishl, 1)) (hp : pc + 1 = pc') (kk : GG κ E fin ws pc' lo (.int (ishl x y) :: st)) : GG κ E fin ws pc lo (.int y :: .int x :: st) := by
  subst hp
  intro H locs ls hP hD hS hl
  exact lv_ishl hC.x hC.b hd (kk H locs ls hP hD hS hl)
theorem g_ishr {x : Int32} {y : Int32} (hC : gC κ E cc own ret rm nL) (hd : decode cc pc = .ok (.ishr, 1)) (hp : pc + 1 = pc') (kk : GG κ E fin ws pc' lo (.int (ishr x y) :: st)) : GG κ E fin ws pc lo (.int y :: .int x :: st) := by
  subst hp
  intro H locs ls hP hD hS hl
  exact lv_ishr hC.x hC.b hd (kk H locs ls hP hD hS hl)
theorem g_iushr {x : Int32} {y : Int32} (hC : gC κ E cc own ret rm nL) (hd : decode cc pc = .ok (.iushr, 1)) (hp : pc + 1 = pc') (kk : GG κ E fin ws pc' lo (.int (iushr x y) :: st)) : GG κ E fin ws pc lo (.int y :: .int x :: st) := by
  subst hp
  intro H locs ls hP hD hS hl
  exact lv_iushr hC.x hC.b hd rfl (kk H locs ls hP hD hS hl)
theorem g_lshl {x : Int64} {y : Int32} (hC : gC κ E cc own ret rm nL) (hd : decode cc pc = .ok (.lshl, 1)) (hp : pc + 1 = pc') (kk : GG κ E fin ws pc' lo (.long (lshl x y) :: st)) : GG κ E fin ws pc lo (.int y :: .long x :: st) := by
  subst hp
  intro H locs ls hP hD hS hl
  exact lv_lshl hC.x hC.b hd rfl (kk H locs ls hP hD hS hl)
theorem g_lshr {x : Int64} {y : Int32} (hC : gC κ E cc own ret rm nL) (hd : decode cc pc = .ok (.lshr, 1)) (hp : pc + 1 = pc') (kk : GG κ E fin ws pc' lo (.long (lshr x y) :: st)) : GG κ E fin ws pc lo (.int y :: .long x :: st) := by
  subst hp
  intro H locs ls hP hD hS hl
  exact lv_lshr hC.x hC.b hd rfl (kk H locs ls hP hD hS hl)
theorem g_lushr {x : Int64} {y : Int32} (hC : gC κ E cc own ret rm nL) (hd : decode cc pc = .ok (.lushr, 1)) (hp : pc + 1 = pc') (kk : GG κ E fin ws pc' lo (.long (lushr x y) :: st)) : GG κ E fin ws pc lo (.int y :: .long x :: st) := by
  subst hp
  intro H locs ls hP hD hS hl
  exact lv_lushr hC.x hC.b hd rfl (kk H locs ls hP hD hS hl)
theorem g_lneg {x : Int64} (hC : gC κ E cc own ret rm nL) (hd : decode cc pc = .ok (.lneg, 1)) (hp : pc + 1 = pc') (kk : GG κ E fin ws pc' lo (.long (-x) :: st)) : GG κ E fin ws pc lo (.long x :: st) := by
  subst hp
  intro H locs ls hP hD hS hl
  exact lv_lneg hC.x hC.b hd (kk H locs ls hP hD hS hl)
theorem g_i2l {x : Int32} (hC : gC κ E cc own ret rm nL) (hd : decode cc pc = .ok (.i2l, 1)) (hp : pc + 1 = pc') (kk : GG κ E fin ws pc' lo (.long (i2l x) :: st)) : GG κ E fin ws pc lo (.int x :: st) := by
  subst hp
  intro H locs ls hP hD hS hl
  exact lv_i2l hC.x hC.b hd rfl (kk H locs ls hP hD hS hl)
theorem g_l2i {x : Int64} (hC : gC κ E cc own ret rm nL) (hd : decode cc pc = .ok (.l2i, 1)) (hp : pc + 1 = pc') (kk : GG κ E fin ws pc' lo (.int (l2i x) :: st)) : GG κ E fin ws pc lo (.long x :: st) := by
  subst hp
  intro H locs ls hP hD hS hl
  exact lv_l2i hC.x hC.b hd rfl (kk H locs ls hP hD hS hl)
theorem g_i2b {x : Int32} (hC : gC κ E cc own ret rm nL) (hd : decode cc pc = .ok (.i2b, 1)) (hp : pc + 1 = pc') (kk : GG κ E fin ws pc' lo (.int (b8 x) :: st)) : GG κ E fin ws pc lo (.int x :: st) := by
  subst hp
  intro H locs ls hP hD hS hl
  exact lv_i2b hC.x hC.b hd rfl (kk H locs ls hP hD hS hl)
theorem g_goto {off : Int} (hC : gC κ E cc own ret rm nL) (hd : decode cc pc = .ok (.goto off, 3)) (ht : (pc : Int) + off = (tgt : Int)) (kk : GG κ E fin ws tgt lo st) : GG κ E fin ws pc lo st := by
  intro H locs ls hP hD hS hl
  exact lv_goto hC.x hC.b hd ht (kk H locs ls hP hD hS hl)
theorem g_ifnullN {off : Int} (hC : gC κ E cc own ret rm nL) (hd : decode cc pc = .ok (.ifnull off, 3)) (ht : (pc : Int) + off = (tgt : Int)) (kk : GG κ E fin ws tgt lo st) : GG κ E fin ws pc lo (.null :: st) := by
  intro H locs ls hP hD hS hl
  exact lv_ifnullN hC.x hC.b hd ht (kk H locs ls hP hD hS hl)
theorem g_ifnull {off : Int} {x : Nat} (hC : gC κ E cc own ret rm nL) (hd : decode cc pc = .ok (.ifnull off, 3)) (hp : pc + 3 = pc') (kk : GG κ E fin ws pc' lo st) : GG κ E fin ws pc lo (.ref x :: st) := by
  subst hp
  intro H locs ls hP hD hS hl
  exact lv_ifnull hC.x hC.b hd (kk H locs ls hP hD hS hl)
theorem g_ifnonnull {off : Int} {x : Nat} (hC : gC κ E cc own ret rm nL) (hd : decode cc pc = .ok (.ifnonnull off, 3)) (ht : (pc : Int) + off = (tgt : Int)) (kk : GG κ E fin ws tgt lo st) : GG κ E fin ws pc lo (.ref x :: st) := by
  intro H locs ls hP hD hS hl
  exact lv_ifnonnull hC.x hC.b hd ht (kk H locs ls hP hD hS hl)
theorem g_ifnonnullN {off : Int} (hC : gC κ E cc own ret rm nL) (hd : decode cc pc = .ok (.ifnonnull off, 3)) (hp : pc + 3 = pc') (kk : GG κ E fin ws pc' lo st) : GG κ E fin ws pc lo (.null :: st) := by
  subst hp
  intro H locs ls hP hD hS hl
  exact lv_ifnonnullN hC.x hC.b hd (kk H locs ls hP hD hS hl)
theorem ite_split {α : Type} {c : Prop} {dec : Decidable c} {A B r : α} (h : @ite α c dec A B = r) : (c ∧ A = r) ∨ (¬ c ∧ B = r) := by
  by_cases hc : c
  · rw [if_pos hc] at h; exact Or.inl ⟨hc, h⟩
  · rw [if_neg hc] at h; exact Or.inr ⟨hc, h⟩
theorem g_if_eq {α : Type} {A B r : α} {off : Int} {x : Int32} {dec : Decidable (x = nI 0)} (hC : gC κ E cc own ret rm nL) (hd : decode cc pc = .ok (.ifCond .eq off, 3)) (ht : (pc : Int) + off = (tgt : Int)) (hp : pc + 3 = pc') (h : @ite α (x = nI 0) dec A B = r) (ka : A = r → GG κ E fin ws tgt lo st) (kb : B = r → GG κ E fin ws pc' lo st) : GG κ E fin ws pc lo (.int x :: st) := by
  subst hp
  intro H locs ls hP hD hS hl
  rcases ite_split h with ⟨h1, h2⟩ | ⟨h1, h2⟩
  · exact lv_if_eq hC.x hC.b hd ht (fun _ => ka h2 H locs ls hP hD hS hl) (fun c => absurd h1 c)
  · exact lv_if_eq hC.x hC.b hd ht (fun c => absurd c h1) (fun _ => kb h2 H locs ls hP hD hS hl)
theorem g_icmp_eq {α : Type} {A B r : α} {off : Int} {x y : Int32} {dec : Decidable (x = y)} (hC : gC κ E cc own ret rm nL) (hd : decode cc pc = .ok (.if_icmp .eq off, 3)) (ht : (pc : Int) + off = (tgt : Int)) (hp : pc + 3 = pc') (h : @ite α (x = y) dec A B = r) (ka : A = r → GG κ E fin ws tgt lo st) (kb : B = r → GG κ E fin ws pc' lo st) : GG κ E fin ws pc lo (.int y :: .int x :: st) := by
  subst hp
  intro H locs ls hP hD hS hl
  rcases ite_split h with ⟨h1, h2⟩ | ⟨h1, h2⟩
  · exact lv_icmp_eq hC.x hC.b hd ht (fun _ => ka h2 H locs ls hP hD hS hl) (fun c => absurd h1 c)
  · exact lv_icmp_eq hC.x hC.b hd ht (fun c => absurd c h1) (fun _ => kb h2 H locs ls hP hD hS hl)
theorem g_lcmp_eq {α : Type} {A B r : α} {off : Int} {x y : Int64} {pc1 : Nat} {dec : Decidable (x = y)} (hC : gC κ E cc own ret rm nL) (hd1 : decode cc pc = .ok (.lcmp, 1)) (hd : decode cc pc1 = .ok (.ifCond .eq off, 3)) (hp1 : pc + 1 = pc1) (ht : (pc1 : Int) + off = (tgt : Int)) (hp : pc1 + 3 = pc') (h : @ite α (x = y) dec A B = r) (ka : A = r → GG κ E fin ws tgt lo st) (kb : B = r → GG κ E fin ws pc' lo st) : GG κ E fin ws pc lo (.long y :: .long x :: st) := by
  subst hp; subst hp1
  intro H locs ls hP hD hS hl
  rcases ite_split h with ⟨h1, h2⟩ | ⟨h1, h2⟩
  · exact W.lcmp hC.x hC.b hd1 (lv_if_eq hC.x hC.b hd ht (fun _ => ka h2 H locs ls hP hD hS hl) (fun c => absurd ((lg_cmp_eq x y).mpr h1) c))
  · exact W.lcmp hC.x hC.b hd1 (lv_if_eq hC.x hC.b hd ht (fun c => absurd ((lg_cmp_eq x y).mp c) h1) (fun _ => kb h2 H locs ls hP hD hS hl))
theorem g_if_ne {α : Type} {A B r : α} {off : Int} {x : Int32} {dec : Decidable (x = nI 0)} (hC : gC κ E cc own ret rm nL) (hd : decode cc pc = .ok (.ifCond .ne off, 3)) (ht : (pc : Int) + off = (tgt : Int)) (hp : pc + 3 = pc') (h : @ite α (x = nI 0) dec A B = r) (ka : A = r → GG κ E fin ws pc' lo st) (kb : B = r → GG κ E fin ws tgt lo st) : GG κ E fin ws pc lo (.int x :: st) := by
  subst hp
  intro H locs ls hP hD hS hl
  rcases ite_split h with ⟨h1, h2⟩ | ⟨h1, h2⟩
  · exact lv_if_ne hC.x hC.b hd ht (fun c => absurd h1 c) (fun _ => ka h2 H locs ls hP hD hS hl)
  · exact lv_if_ne hC.x hC.b hd ht (fun _ => kb h2 H locs ls hP hD hS hl) (fun c => absurd c h1)
theorem g_icmp_ne {α : Type} {A B r : α} {off : Int} {x y : Int32} {dec : Decidable (x = y)} (hC : gC κ E cc own ret rm nL) (hd : decode cc pc = .ok (.if_icmp .ne off, 3)) (ht : (pc : Int) + off = (tgt : Int)) (hp : pc + 3 = pc') (h : @ite α (x = y) dec A B = r) (ka : A = r → GG κ E fin ws pc' lo st) (kb : B = r → GG κ E fin ws tgt lo st) : GG κ E fin ws pc lo (.int y :: .int x :: st) := by
  subst hp
  intro H locs ls hP hD hS hl
  rcases ite_split h with ⟨h1, h2⟩ | ⟨h1, h2⟩
  · exact lv_icmp_ne hC.x hC.b hd ht (fun c => absurd h1 c) (fun _ => ka h2 H locs ls hP hD hS hl)
  · exact lv_icmp_ne hC.x hC.b hd ht (fun _ => kb h2 H locs ls hP hD hS hl) (fun c => absurd c h1)
theorem g_lcmp_ne {α : Type} {A B r : α} {off : Int} {x y : Int64} {pc1 : Nat} {dec : Decidable (x = y)} (hC : gC κ E cc own ret rm nL) (hd1 : decode cc pc = .ok (.lcmp, 1)) (hd : decode cc pc1 = .ok (.ifCond .ne off, 3)) (hp1 : pc + 1 = pc1) (ht : (pc1 : Int) + off = (tgt : Int)) (hp : pc1 + 3 = pc') (h : @ite α (x = y) dec A B = r) (ka : A = r → GG κ E fin ws pc' lo st) (kb : B = r → GG κ E fin ws tgt lo st) : GG κ E fin ws pc lo (.long y :: .long x :: st) := by
  subst hp; subst hp1
  intro H locs ls hP hD hS hl
  rcases ite_split h with ⟨h1, h2⟩ | ⟨h1, h2⟩
  · exact W.lcmp hC.x hC.b hd1 (lv_if_ne hC.x hC.b hd ht (fun c => absurd ((lg_cmp_eq x y).mpr h1) c) (fun _ => ka h2 H locs ls hP hD hS hl))
  · exact W.lcmp hC.x hC.b hd1 (lv_if_ne hC.x hC.b hd ht (fun _ => kb h2 H locs ls hP hD hS hl) (fun c => absurd ((lg_cmp_eq x y).mp c) h1))
theorem g_if_lt {α : Type} {A B r : α} {off : Int} {x : Int32} {dec : Decidable (x < nI 0)} (hC : gC κ E cc own ret rm nL) (hd : decode cc pc = .ok (.ifCond .lt off, 3)) (ht : (pc : Int) + off = (tgt : Int)) (hp : pc + 3 = pc') (h : @ite α (x < nI 0) dec A B = r) (ka : A = r → GG κ E fin ws tgt lo st) (kb : B = r → GG κ E fin ws pc' lo st) : GG κ E fin ws pc lo (.int x :: st) := by
  subst hp
  intro H locs ls hP hD hS hl
  rcases ite_split h with ⟨h1, h2⟩ | ⟨h1, h2⟩
  · exact lv_if_lt hC.x hC.b hd ht (fun _ => ka h2 H locs ls hP hD hS hl) (fun c => absurd h1 c)
  · exact lv_if_lt hC.x hC.b hd ht (fun c => absurd c h1) (fun _ => kb h2 H locs ls hP hD hS hl)
theorem g_icmp_lt {α : Type} {A B r : α} {off : Int} {x y : Int32} {dec : Decidable (x < y)} (hC : gC κ E cc own ret rm nL) (hd : decode cc pc = .ok (.if_icmp .lt off, 3)) (ht : (pc : Int) + off = (tgt : Int)) (hp : pc + 3 = pc') (h : @ite α (x < y) dec A B = r) (ka : A = r → GG κ E fin ws tgt lo st) (kb : B = r → GG κ E fin ws pc' lo st) : GG κ E fin ws pc lo (.int y :: .int x :: st) := by
  subst hp
  intro H locs ls hP hD hS hl
  rcases ite_split h with ⟨h1, h2⟩ | ⟨h1, h2⟩
  · exact lv_icmp_lt hC.x hC.b hd ht (fun _ => ka h2 H locs ls hP hD hS hl) (fun c => absurd h1 c)
  · exact lv_icmp_lt hC.x hC.b hd ht (fun c => absurd c h1) (fun _ => kb h2 H locs ls hP hD hS hl)
theorem g_lcmp_lt {α : Type} {A B r : α} {off : Int} {x y : Int64} {pc1 : Nat} {dec : Decidable (x < y)} (hC : gC κ E cc own ret rm nL) (hd1 : decode cc pc = .ok (.lcmp, 1)) (hd : decode cc pc1 = .ok (.ifCond .lt off, 3)) (hp1 : pc + 1 = pc1) (ht : (pc1 : Int) + off = (tgt : Int)) (hp : pc1 + 3 = pc') (h : @ite α (x < y) dec A B = r) (ka : A = r → GG κ E fin ws tgt lo st) (kb : B = r → GG κ E fin ws pc' lo st) : GG κ E fin ws pc lo (.long y :: .long x :: st) := by
  subst hp; subst hp1
  intro H locs ls hP hD hS hl
  rcases ite_split h with ⟨h1, h2⟩ | ⟨h1, h2⟩
  · exact W.lcmp hC.x hC.b hd1 (lv_if_lt hC.x hC.b hd ht (fun _ => ka h2 H locs ls hP hD hS hl) (fun c => absurd ((lg_cmp_lt x y).mpr h1) c))
  · exact W.lcmp hC.x hC.b hd1 (lv_if_lt hC.x hC.b hd ht (fun c => absurd ((lg_cmp_lt x y).mp c) h1) (fun _ => kb h2 H locs ls hP hD hS hl))
theorem g_if_ge {α : Type} {A B r : α} {off : Int} {x : Int32} {dec : Decidable (x < nI 0)} (hC : gC κ E cc own ret rm nL) (hd : decode cc pc = .ok (.ifCond .ge off, 3)) (ht : (pc : Int) + off = (tgt : Int)) (hp : pc + 3 = pc') (h : @ite α (x < nI 0) dec A B = r) (ka : A = r → GG κ E fin ws pc' lo st) (kb : B = r → GG κ E fin ws tgt lo st) : GG κ E fin ws pc lo (.int x :: st) := by
  subst hp
  intro H locs ls hP hD hS hl
  rcases ite_split h with ⟨h1, h2⟩ | ⟨h1, h2⟩
  · exact lv_if_ge hC.x hC.b hd ht (fun c => absurd h1 (Int32.not_lt.mpr c)) (fun _ => ka h2 H locs ls hP hD hS hl)
  · exact lv_if_ge hC.x hC.b hd ht (fun _ => kb h2 H locs ls hP hD hS hl) (fun c => absurd (Int32.not_lt.mp h1) c)
theorem g_icmp_ge {α : Type} {A B r : α} {off : Int} {x y : Int32} {dec : Decidable (x < y)} (hC : gC κ E cc own ret rm nL) (hd : decode cc pc = .ok (.if_icmp .ge off, 3)) (ht : (pc : Int) + off = (tgt : Int)) (hp : pc + 3 = pc') (h : @ite α (x < y) dec A B = r) (ka : A = r → GG κ E fin ws pc' lo st) (kb : B = r → GG κ E fin ws tgt lo st) : GG κ E fin ws pc lo (.int y :: .int x :: st) := by
  subst hp
  intro H locs ls hP hD hS hl
  rcases ite_split h with ⟨h1, h2⟩ | ⟨h1, h2⟩
  · exact lv_icmp_ge hC.x hC.b hd ht (fun c => absurd h1 (Int32.not_lt.mpr c)) (fun _ => ka h2 H locs ls hP hD hS hl)
  · exact lv_icmp_ge hC.x hC.b hd ht (fun _ => kb h2 H locs ls hP hD hS hl) (fun c => absurd (Int32.not_lt.mp h1) c)
theorem g_lcmp_ge {α : Type} {A B r : α} {off : Int} {x y : Int64} {pc1 : Nat} {dec : Decidable (x < y)} (hC : gC κ E cc own ret rm nL) (hd1 : decode cc pc = .ok (.lcmp, 1)) (hd : decode cc pc1 = .ok (.ifCond .ge off, 3)) (hp1 : pc + 1 = pc1) (ht : (pc1 : Int) + off = (tgt : Int)) (hp : pc1 + 3 = pc') (h : @ite α (x < y) dec A B = r) (ka : A = r → GG κ E fin ws pc' lo st) (kb : B = r → GG κ E fin ws tgt lo st) : GG κ E fin ws pc lo (.long y :: .long x :: st) := by
  subst hp; subst hp1
  intro H locs ls hP hD hS hl
  rcases ite_split h with ⟨h1, h2⟩ | ⟨h1, h2⟩
  · exact W.lcmp hC.x hC.b hd1 (lv_if_ge hC.x hC.b hd ht (fun c => absurd h1 (Int64.not_lt.mpr ((lg_cmp_ge x y).mp c))) (fun _ => ka h2 H locs ls hP hD hS hl))
  · exact W.lcmp hC.x hC.b hd1 (lv_if_ge hC.x hC.b hd ht (fun _ => kb h2 H locs ls hP hD hS hl) (fun c => absurd ((lg_cmp_ge x y).mpr (Int64.not_lt.mp h1)) c))
theorem g_if_gt {α : Type} {A B r : α} {off : Int} {x : Int32} {dec : Decidable (nI 0 < x)} (hC : gC κ E cc own ret rm nL) (hd : decode cc pc = .ok (.ifCond .gt off, 3)) (ht : (pc : Int) + off = (tgt : Int)) (hp : pc + 3 = pc') (h : @ite α (nI 0 < x) dec A B = r) (ka : A = r → GG κ E fin ws tgt lo st) (kb : B = r → GG κ E fin ws pc' lo st) : GG κ E fin ws pc lo (.int x :: st) := by
  subst hp
  intro H locs ls hP hD hS hl
  rcases ite_split h with ⟨h1, h2⟩ | ⟨h1, h2⟩
  · exact lv_if_gt hC.x hC.b hd ht (fun _ => ka h2 H locs ls hP hD hS hl) (fun c => absurd h1 c)
  · exact lv_if_gt hC.x hC.b hd ht (fun c => absurd c h1) (fun _ => kb h2 H locs ls hP hD hS hl)
theorem g_icmp_gt {α : Type} {A B r : α} {off : Int} {x y : Int32} {dec : Decidable (y < x)} (hC : gC κ E cc own ret rm nL) (hd : decode cc pc = .ok (.if_icmp .gt off, 3)) (ht : (pc : Int) + off = (tgt : Int)) (hp : pc + 3 = pc') (h : @ite α (y < x) dec A B = r) (ka : A = r → GG κ E fin ws tgt lo st) (kb : B = r → GG κ E fin ws pc' lo st) : GG κ E fin ws pc lo (.int y :: .int x :: st) := by
  subst hp
  intro H locs ls hP hD hS hl
  rcases ite_split h with ⟨h1, h2⟩ | ⟨h1, h2⟩
  · exact lv_icmp_gt hC.x hC.b hd ht (fun _ => ka h2 H locs ls hP hD hS hl) (fun c => absurd h1 c)
  · exact lv_icmp_gt hC.x hC.b hd ht (fun c => absurd c h1) (fun _ => kb h2 H locs ls hP hD hS hl)
theorem g_lcmp_gt {α : Type} {A B r : α} {off : Int} {x y : Int64} {pc1 : Nat} {dec : Decidable (y < x)} (hC : gC κ E cc own ret rm nL) (hd1 : decode cc pc = .ok (.lcmp, 1)) (hd : decode cc pc1 = .ok (.ifCond .gt off, 3)) (hp1 : pc + 1 = pc1) (ht : (pc1 : Int) + off = (tgt : Int)) (hp : pc1 + 3 = pc') (h : @ite α (y < x) dec A B = r) (ka : A = r → GG κ E fin ws tgt lo st) (kb : B = r → GG κ E fin ws pc' lo st) : GG κ E fin ws pc lo (.long y :: .long x :: st) := by
  subst hp; subst hp1
  intro H locs ls hP hD hS hl
  rcases ite_split h with ⟨h1, h2⟩ | ⟨h1, h2⟩
  · exact W.lcmp hC.x hC.b hd1 (lv_if_gt hC.x hC.b hd ht (fun _ => ka h2 H locs ls hP hD hS hl) (fun c => absurd ((lg_cmp_gt x y).mpr h1) c))
  · exact W.lcmp hC.x hC.b hd1 (lv_if_gt hC.x hC.b hd ht (fun c => absurd ((lg_cmp_gt x y).mp c) h1) (fun _ => kb h2 H locs ls hP hD hS hl))
theorem g_if_le {α : Type} {A B r : α} {off : Int} {x : Int32} {dec : Decidable (nI 0 < x)} (hC : gC κ E cc own ret rm nL) (hd : decode cc pc = .ok (.ifCond .le off, 3)) (ht : (pc : Int) + off = (tgt : Int)) (hp : pc + 3 = pc') (h : @ite α (nI 0 < x) dec A B = r) (ka : A = r → GG κ E fin ws pc' lo st) (kb : B = r → GG κ E fin ws tgt lo st) : GG κ E fin ws pc lo (.int x :: st) := by
  subst hp
  intro H locs ls hP hD hS hl
  rcases ite_split h with ⟨h1, h2⟩ | ⟨h1, h2⟩
  · exact lv_if_le hC.x hC.b hd ht (fun c => absurd h1 (Int32.not_lt.mpr c)) (fun _ => ka h2 H locs ls hP hD hS hl)
  · exact lv_if_le hC.x hC.b hd ht (fun _ => kb h2 H locs ls hP hD hS hl) (fun c => absurd (Int32.not_lt.mp h1) c)
theorem g_icmp_le {α : Type} {A B r : α} {off : Int} {x y : Int32} {dec : Decidable (y < x)} (hC : gC κ E cc own ret rm nL) (hd : decode cc pc = .ok (.if_icmp .le off, 3)) (ht : (pc : Int) + off = (tgt : Int)) (hp : pc + 3 = pc') (h : @ite α (y < x) dec A B = r) (ka : A = r → GG κ E fin ws pc' lo st) (kb : B = r → GG κ E fin ws tgt lo st) : GG κ E fin ws pc lo (.int y :: .int x :: st) := by
  subst hp
  intro H locs ls hP hD hS hl
  rcases ite_split h with ⟨h1, h2⟩ | ⟨h1, h2⟩
  · exact lv_icmp_le hC.x hC.b hd ht (fun c => absurd h1 (Int32.not_lt.mpr c)) (fun _ => ka h2 H locs ls hP hD hS hl)
  · exact lv_icmp_le hC.x hC.b hd ht (fun _ => kb h2 H locs ls hP hD hS hl) (fun c => absurd (Int32.not_lt.mp h1) c)
theorem g_lcmp_le {α : Type} {A B r : α} {off : Int} {x y : Int64} {pc1 : Nat} {dec : Decidable (y < x)} (hC : gC κ E cc own ret rm nL) (hd1 : decode cc pc = .ok (.lcmp, 1)) (hd : decode cc pc1 = .ok (.ifCond .le off, 3)) (hp1 : pc + 1 = pc1) (ht : (pc1 : Int) + off = (tgt : Int)) (hp : pc1 + 3 = pc') (h : @ite α (y < x) dec A B = r) (ka : A = r → GG κ E fin ws pc' lo st) (kb : B = r → GG κ E fin ws tgt lo st) : GG κ E fin ws pc lo (.long y :: .long x :: st) := by
  subst hp; subst hp1
  intro H locs ls hP hD hS hl
  rcases ite_split h with ⟨h1, h2⟩ | ⟨h1, h2⟩
  · exact W.lcmp hC.x hC.b hd1 (lv_if_le hC.x hC.b hd ht (fun c => absurd h1 (Int64.not_lt.mpr ((lg_cmp_le x y).mp c))) (fun _ => ka h2 H locs ls hP hD hS hl))
  · exact W.lcmp hC.x hC.b hd1 (lv_if_le hC.x hC.b hd ht (fun _ => kb h2 H locs ls hP hD hS hl) (fun c => absurd ((lg_cmp_le x y).mpr (Int64.not_lt.mp h1)) c))
theorem g_case {α : Type} {c : Prop} {dec : Decidable c} {A B r : α} {G : Prop} (h : @ite α c dec A B = r) (ka : c → A = r → G) (kb : ¬ c → B = r → G) : G := by
  rcases ite_split h with ⟨h1, h2⟩ | ⟨h1, h2⟩
  · exact ka h1 h2
  · exact kb h1 h2
theorem g_tswIn {dflt lo0 hi off : Int} {offs : Array Int} {len : Nat} {x : Int32} (hC : gC κ E cc own ret rm nL) (hd : decode cc pc = .ok (.tableswitch dflt lo0 hi offs, len)) (h1 : ¬ x.toInt < lo0) (h2 : ¬ hi < x.toInt) (ho : offs[(x.toInt - lo0).toNat]? = some off) (ht : (pc : Int) + off = (tgt : Int)) (kk : GG κ E fin ws tgt lo st) : GG κ E fin ws pc lo (.int x :: st) := by
  intro H locs ls hP hD hS hl
  exact lv_tableIn hC.x hC.b hd h1 h2 ho ht (kk H locs ls hP hD hS hl)
theorem g_tswOut {dflt lo0 hi : Int} {offs : Array Int} {len : Nat} {x : Int32} (hC : gC κ E cc own ret rm nL) (hd : decode cc pc = .ok (.tableswitch dflt lo0 hi offs, len)) (h : x.toInt < lo0 ∨ hi < x.toInt) (ht : (pc : Int) + dflt = (tgt : Int)) (kk : GG κ E fin ws tgt lo st) : GG κ E fin ws pc lo (.int x :: st) := by
  intro H locs ls hP hD hS hl
  exact lv_tableOut hC.x hC.b hd h ht (kk H locs ls hP hD hS hl)
theorem tsw_ne {x : Int32} {j : Int32} (h : ¬ x = j) : x.toInt ≠ j.toInt := fun e => h (Int32.toInt_inj.mp e)
theorem tsw_out3 {x : Int32} (h0 : ¬ x = nI 0) (h1 : ¬ x = nI 1) (h2 : ¬ x = nI 2) (h3 : ¬ x = nI 3) : x.toInt < 0 ∨ 3 < x.toInt := by
  have a0 := tsw_ne h0; have a1 := tsw_ne h1; have a2 := tsw_ne h2; have a3 := tsw_ne h3
  have e0 : (nI 0).toInt = 0 := by decide
  have e1 : (nI 1).toInt = 1 := by decide
  have e2 : (nI 2).toInt = 2 := by decide
  have e3 : (nI 3).toInt = 3 := by decide
  omega
theorem tsw_out4 {x : Int32} (h0 : ¬ x = nI 0) (h1 : ¬ x = nI 1) (h2 : ¬ x = nI 2) (h3 : ¬ x = nI 3) (h4 : ¬ x = nI 4) : x.toInt < 0 ∨ 4 < x.toInt := by
  have a0 := tsw_ne h4
  have e3 : (nI 4).toInt = 4 := by decide
  have := tsw_out3 h0 h1 h2 h3
  omega
theorem tsw_out6 {x : Int32} (h0 : ¬ x = nI 0) (h1 : ¬ x = nI 1) (h2 : ¬ x = nI 2) (h3 : ¬ x = nI 3) (h4 : ¬ x = nI 4) (h5 : ¬ x = nI 5) (h6 : ¬ x = nI 6) : x.toInt < 0 ∨ 6 < x.toInt := by
  have a0 := tsw_ne h5; have a1 := tsw_ne h6
  have e3 : (nI 5).toInt = 5 := by decide
  have e4 : (nI 6).toInt = 6 := by decide
  have := tsw_out4 h0 h1 h2 h3 h4
  omega
theorem g_iret {v : Int32} (hC : gC κ E cc own (some .int) rm nL) (hd : decode cc pc = .ok (.ireturn, 1)) : GG κ E (ws, some (.int v)) ws pc lo [.int v] := by
  intro H locs ls hP hD hS hl
  exact W.iret hC.x hC.b hC.r (fun t ht hW => ⟨⟨rfl, by rw [ht]; exact hP, va_K.moved hW.alike hC.K, hD⟩, hS.F ht⟩) hS.2.2 hd (hlocks := hC.lk)
theorem isB_nar {v : Int32} (h : isB v = true) : vp_nar .boolean v = v ∧ narrow .boolean (.int v) = .int v ∧ fits .boolean (.int v) = true := by
  have h : v = 0 ∨ v = 1 := of_decide_eq_true h
  rcases h with rfl | rfl <;> exact ⟨by decide, by decide, by decide⟩
theorem g_zret {v : Int32} (hC : gC κ E cc own (some .boolean) rm nL) (hv : isB v = true) (hd : decode cc pc = .ok (.ireturn, 1)) : GG κ E (ws, some (.int v)) ws pc lo [.int v] := by
  intro H locs ls hP hD hS hl
  exact W.zret hC.x hC.b hC.r (isB_nar hv).2.1 (fun t ht hW => ⟨⟨rfl, by rw [ht]; exact hP, va_K.moved hW.alike hC.K, hD⟩, hS.F ht⟩) hS.2.2 hd (hlocks := hC.lk)
theorem g_lret {v : Int64} (hC : gC κ E cc own (some .long) rm nL) (hd : decode cc pc = .ok (.lreturn, 1)) : GG κ E (ws, some (.long v)) ws pc lo [.long v] := by
  intro H locs ls hP hD hS hl
  exact W.lret hC.x hC.b hC.r (fun t ht hW => ⟨⟨rfl, by rw [ht]; exact hP, va_K.moved hW.alike hC.K, hD⟩, hS.F ht⟩) hS.2.2 hd (hlocks := hC.lk)
theorem g_vret (hC : gC κ E cc own none rm nL) (hd : decode cc pc = .ok (.return_, 1)) : GG κ E (ws, none) ws pc lo [] := by
  intro H locs ls hP hD hS hl
  exact W.vret hC.x hC.b hC.r (fun t ht hW => ⟨⟨rfl, by rw [ht]; exact hP, va_K.moved hW.alike hC.K, hD⟩, hS.F ht⟩) hS.2.2 hd (hlocks := hC.lk)
def rfo (f : Nat → Nat) (o : Option Nat) : Value := match o with
  | none => .null
  | some k => .ref (f k)
theorem g_aret {f : Nat → Nat} {a : Nat} {o : Option Nat} {n : String} (hC : gC κ E cc own (some (.object n)) rm nL) (hd : decode cc pc = .ok (.areturn, 1)) (ho : rfo f o = .ref a) : GG κ E (ws, some (rfo f o)) ws pc lo [.ref a] := by
  intro H locs ls hP hD hS hl
  exact W.aret hC.x hC.b hC.r (Or.inl ⟨n, rfl⟩) (Or.inr ⟨a, rfl⟩) (fun t ht hW => ⟨⟨by rw [ho], by rw [ht]; exact hP, va_K.moved hW.alike hC.K, hD⟩, hS.F ht⟩) hS.2.2 hd (hlocks := hC.lk)
theorem g_aretN {f : Nat → Nat} {n : String} (hC : gC κ E cc own (some (.object n)) rm nL) (hd : decode cc pc = .ok (.areturn, 1)) : GG κ E (ws, some (rfo f none)) ws pc lo [.null] := by
  intro H locs ls hP hD hS hl
  exact W.aret hC.x hC.b hC.r (Or.inl ⟨n, rfl⟩) (Or.inl rfl) (fun t ht hW => ⟨⟨rfl, by rw [ht]; exact hP, va_K.moved hW.alike hC.K, hD⟩, hS.F ht⟩) hS.2.2 hd (hlocks := hC.lk)
theorem nz_ne {x : Int32} (h : nz x = true) : ¬ x = 0 := of_decide_eq_true h
theorem g_get {C ref : String} {T : u_T} {N ci idx a : Nat} {fs : List Value} {v : Value} (hC : gC κ E cc own ret rm nL) (q0 : Nat) (he : ws[q0]? = some (a, .inr (ci, fs))) (hc : vwCl[ci]? = some (C, T, N)) (hin : ∀ w ∈ u_ws C T N, w ∈ gU) (j : Nat) (hj : j < N) (hmem : Cond.fieldLink own idx ref (T j).2.1 (T j).2.2.1 ∈ gU) (hs : ref = (T j).1) (hv : fs[j]? = some v) (hd : decode cc pc = .ok (.getfield idx, 3)) (hp : pc + 3 = pc') (kk : GG κ E fin ws pc' lo (v :: st)) : GG κ E fin ws pc lo (.ref a :: st) := by
  subst hp; subst hs
  intro H locs ls hP hD hS hl
  exact va_get hC.x hC.b hC.t hin hC.o hC.K hP q0 he hc j hj (hC.t _ hmem) (fun _ h => h) hv hd (kk H locs ls hP hD hS hl)
theorem g_put {C ref : String} {T : u_T} {N ci idx a : Nat} {fs : List Value} {v : Value} {ty : FieldType} (hC : gC κ E cc own ret rm nL) (q0 : Nat) (he : ws[q0]? = some (a, .inr (ci, fs))) (hc : vwCl[ci]? = some (C, T, N)) (hin : ∀ w ∈ u_ws C T N, w ∈ gU) (ty0 : Nat → FieldType) (hty : ∀ k, k < N → parseFieldDescriptor (T k).2.2.1 = some (ty0 k)) (hnm : ∀ a, a < N → ∀ b, b < N → a ≠ b → (T a).2.1 ≠ (T b).2.1) (j : Nat) (hj : j < N) (hmem : Cond.fieldLink own idx ref (T j).2.1 (T j).2.2.1 ∈ gU) (hs : ref = (T j).1) (hfin : (T j).2.2.2 = false) (hd0 : ty0 j = ty) (hn : narrow ty v = v) (hfit : fits ty v = true) (hl0 : Nat.ble (j + 1) fs.length = true) (hset : ws.set q0 (a, .inr (ci, fs.set j v)) = ws') (hd : decode cc pc = .ok (.putfield idx, 3)) (hp : pc + 3 = pc') (kk : GG κ E fin ws' pc' lo st) : GG κ E fin ws pc lo (v :: .ref a :: st) := by
  subst hp; subst hs; subst hset; subst hd0
  intro H locs ls hP hD hS hl
  exact va_put hC.x hC.b hC.t hin ty0 hty hnm hC.o hC.K hP hD hS q0 he hc j hj (hC.t _ hmem) (fun _ h => h) hfin (hty j hj) hn hfit (Nat.le_of_ble_eq_true hl0) hd (fun H1 locs1 hP1 hD1 hS1 => kk H1 locs1 ls hP1 hD1 hS1 hl)
theorem inb_vp {i : Int32} {n : Nat} (h : inb i n = true) : vp_in i n := vp_in_iff.mpr (of_decide_eq_true h)
theorem g_iald {a n : Nat} {f : Nat → Int32} {i : Int32} (hC : gC κ E cc own ret rm nL) (q0 : Nat) (he : ws[q0]? = some (a, .inl (E.2.1 2, n, .inl f))) (hi : inb i n = true) (hd : decode cc pc = .ok (.iaload, 1)) (hp : pc + 1 = pc') (kk : GG κ E fin ws pc' lo (.int (f (ix i)) :: st)) : GG κ E fin ws pc lo (.int i :: .ref a :: st) := by
  subst hp
  intro H locs ls hP hD hS hl
  exact va_iald hC.x hC.b hC.K hP q0 2 he rfl (inb_vp hi) hd (kk H locs ls hP hD hS hl)
theorem g_zald {a n : Nat} {f : Nat → Int32} {i : Int32} (hC : gC κ E cc own ret rm nL) (q0 : Nat) (he : ws[q0]? = some (a, .inl (E.2.1 0, n, .inl f))) (hi : inb i n = true) (hd : decode cc pc = .ok (.baload, 1)) (hp : pc + 1 = pc') (kk : GG κ E fin ws pc' lo (.int (f (ix i)) :: st)) : GG κ E fin ws pc lo (.int i :: .ref a :: st) := by
  subst hp
  intro H locs ls hP hD hS hl
  exact va_zald hC.x hC.b hC.K hP q0 0 he rfl (inb_vp hi) hd (kk H locs ls hP hD hS hl)
theorem g_bald {a n : Nat} {f : Nat → Int32} {i : Int32} (hC : gC κ E cc own ret rm nL) (q0 : Nat) (he : ws[q0]? = some (a, .inl (E.2.1 1, n, .inl f))) (hi : inb i n = true) (hd : decode cc pc = .ok (.baload, 1)) (hp : pc + 1 = pc') (kk : GG κ E fin ws pc' lo (.int (f (ix i)) :: st)) : GG κ E fin ws pc lo (.int i :: .ref a :: st) := by
  subst hp
  intro H locs ls hP hD hS hl
  exact va_bald hC.x hC.b hC.K hP q0 1 he rfl (inb_vp hi) hd (kk H locs ls hP hD hS hl)
theorem g_lald {a n : Nat} {f : Nat → Int64} {i : Int32} (hC : gC κ E cc own ret rm nL) (q0 : Nat) (he : ws[q0]? = some (a, .inl (E.2.1 3, n, .inr (.inl f)))) (hi : inb i n = true) (hd : decode cc pc = .ok (.laload, 1)) (hp : pc + 1 = pc') (kk : GG κ E fin ws pc' lo (.long (f (ix i)) :: st)) : GG κ E fin ws pc lo (.int i :: .ref a :: st) := by
  subst hp
  intro H locs ls hP hD hS hl
  exact va_lald hC.x hC.b hC.K hP q0 3 he rfl (inb_vp hi) hd (kk H locs ls hP hD hS hl)
theorem g_aald {a n b : Nat} {f : Nat → Option Nat} {i : Int32} (hC : gC κ E cc own ret rm nL) (q0 : Nat) (he : ws[q0]? = some (a, .inl (E.2.1 4, n, .inr (.inr (.inr (.inr f)))))) (hi : inb i n = true) (hb : f (ix i) = some b) (hd : decode cc pc = .ok (.aaload, 1)) (hp : pc + 1 = pc') (kk : GG κ E fin ws pc' lo (.ref b :: st)) : GG κ E fin ws pc lo (.int i :: .ref a :: st) := by
  subst hp
  intro H locs ls hP hD hS hl
  refine va_aldq hC.x hC.b hC.K hP q0 4 he rfl (inb_vp hi) hd ?_
  rw [show f i.toNatClampNeg = some b from hb]
  exact kk H locs ls hP hD hS hl
theorem g_iast {a n : Nat} {f : Nat → Int32} {i x : Int32} (hC : gC κ E cc own ret rm nL) (q0 : Nat) (he : ws[q0]? = some (a, .inl (E.2.1 2, n, .inl f))) (hi : inb i n = true) (hset : ws.set q0 (a, .inl (E.2.1 2, n, .inl (up f (ix i) x))) = ws') (hd : decode cc pc = .ok (.iastore, 1)) (hp : pc + 1 = pc') (kk : GG κ E fin ws' pc' lo st) : GG κ E fin ws pc lo (.int x :: .int i :: .ref a :: st) := by
  subst hp; subst hset
  intro H locs ls hP hD hS hl
  exact va_iast hC.x hC.b hC.K hP hD hS q0 2 he rfl (inb_vp hi) hd (fun H1 locs1 hP1 hD1 hS1 => kk H1 locs1 ls hP1 hD1 hS1 hl)
theorem g_zast {a n : Nat} {f : Nat → Int32} {i x : Int32} (hC : gC κ E cc own ret rm nL) (q0 : Nat) (he : ws[q0]? = some (a, .inl (E.2.1 0, n, .inl f))) (hx : isB x = true) (hi : inb i n = true) (hset : ws.set q0 (a, .inl (E.2.1 0, n, .inl (up f (ix i) x))) = ws') (hd : decode cc pc = .ok (.bastore, 1)) (hp : pc + 1 = pc') (kk : GG κ E fin ws' pc' lo st) : GG κ E fin ws pc lo (.int x :: .int i :: .ref a :: st) := by
  subst hp; subst hset
  intro H locs ls hP hD hS hl
  refine va_zast hC.x hC.b hC.K hP hD hS q0 0 he rfl (inb_vp hi) hd (fun H1 locs1 hP1 hD1 hS1 => ?_)
  rw [(isB_nar hx).1] at hP1 hD1
  exact kk H1 locs1 ls hP1 hD1 hS1 hl
theorem g_bast {a n : Nat} {f : Nat → Int32} {i x : Int32} (hC : gC κ E cc own ret rm nL) (q0 : Nat) (he : ws[q0]? = some (a, .inl (E.2.1 1, n, .inl f))) (hi : inb i n = true) (hset : ws.set q0 (a, .inl (E.2.1 1, n, .inl (up f (ix i) (b8 x)))) = ws') (hd : decode cc pc = .ok (.bastore, 1)) (hp : pc + 1 = pc') (kk : GG κ E fin ws' pc' lo st) : GG κ E fin ws pc lo (.int x :: .int i :: .ref a :: st) := by
  subst hp; subst hset
  intro H locs ls hP hD hS hl
  refine va_bast hC.x hC.b hC.K hP hD hS q0 1 he rfl (inb_vp hi) hd (fun H1 locs1 hP1 hD1 hS1 => ?_)
  rw [vp_nar_byte] at hP1 hD1
  exact kk H1 locs1 ls hP1 hD1 hS1 hl
theorem b8_b8 (x : Int32) : b8 (b8 x) = b8 x := by
  have h := pk_vb x
  rw [vp_nar_byte] at h
  exact h
theorem g_bastb {a n : Nat} {f : Nat → Int32} {i x : Int32} (hC : gC κ E cc own ret rm nL) (q0 : Nat) (he : ws[q0]? = some (a, .inl (E.2.1 1, n, .inl f))) (hi : inb i n = true) (hset : ws.set q0 (a, .inl (E.2.1 1, n, .inl (up f (ix i) (b8 x)))) = ws') (hd : decode cc pc = .ok (.bastore, 1)) (hp : pc + 1 = pc') (kk : GG κ E fin ws' pc' lo st) : GG κ E fin ws pc lo (.int (b8 x) :: .int i :: .ref a :: st) :=
  g_bast hC q0 he hi (by rw [b8_b8]; exact hset) hd hp kk
theorem g_last {a n : Nat} {f : Nat → Int64} {i : Int32} {x : Int64} (hC : gC κ E cc own ret rm nL) (q0 : Nat) (he : ws[q0]? = some (a, .inl (E.2.1 3, n, .inr (.inl f)))) (hi : inb i n = true) (hset : ws.set q0 (a, .inl (E.2.1 3, n, .inr (.inl (up f (ix i) x)))) = ws') (hd : decode cc pc = .ok (.lastore, 1)) (hp : pc + 1 = pc') (kk : GG κ E fin ws' pc' lo st) : GG κ E fin ws pc lo (.long x :: .int i :: .ref a :: st) := by
  subst hp; subst hset
  intro H locs ls hP hD hS hl
  exact va_last hC.x hC.b hC.K hP hD hS q0 3 he rfl (inb_vp hi) hd (fun H1 locs1 hP1 hD1 hS1 => kk H1 locs1 ls hP1 hD1 hS1 hl)
theorem g_alen {a t0 : Nat} {x : vp_A} {cA : ClassId} {ty : FieldType} (hC : gC κ E cc own ret rm nL) (q0 : Nat) (he : ws[q0]? = some (a, .inl (cA, x))) (ht : (gty E)[t0]? = some (cA, ty)) (hd : decode cc pc = .ok (.arraylength, 1)) (hp : pc + 1 = pc') (kk : GG κ E fin ws pc' lo (.int (nI x.1) :: st)) : GG κ E fin ws pc lo (.ref a :: st) := by
  subst hp
  intro H locs ls hP hD hS hl
  exact va_alen hC.x hC.b hC.K hP q0 t0 he ht rfl hd (kk H locs ls hP hD hS hl)
theorem g_ldc {idx : Nat} {v : Int32} (hC : gC κ E cc own ret rm nL) (hmem : Cond.constant own idx v ∈ gU) (hd : decode cc pc = .ok (.ldc idx, 2)) (hp : pc + 2 = pc') (kk : GG κ E fin ws pc' lo (.int v :: st)) : GG κ E fin ws pc lo st := by
  subst hp
  intro H locs ls hP hD hS hl
  exact lv_ldc hC.x hC.b hC.o (hC.t _ hmem) hd (kk H locs ls hP hD hS hl)
theorem g_ldc2_w {idx : Nat} {v : Int64} (hC : gC κ E cc own ret rm nL) (hmem : Cond.constantLong own idx v ∈ gU) (hd : decode cc pc = .ok (.ldc2_w idx, 3)) (hp : pc + 3 = pc') (kk : GG κ E fin ws pc' lo (.long v :: st)) : GG κ E fin ws pc lo st := by
  subst hp
  intro H locs ls hP hD hS hl
  exact lv_ldc2 hC.x hC.b hC.o (hC.t _ hmem) hd (kk H locs ls hP hD hS hl)
theorem u_good (w : Cond) (h : w ∈ gU) : (w.onTables && w.keeps) = true ∨ ∃ ty, w = .arrayClass ty := good_of_word (List.mem_filter.mp h).2
theorem g_good {y : MethodName} {b : ByteArray} {maxL : Nat} {rt : Option FieldType} (h : Cond.code y b maxL rt ∈ gU) : GoodIn gU (.code y b maxL rt :: gU) := by
  intro w hw
  rcases List.mem_cons.mp hw with e | e
  · subst e; exact ⟨h, u_good _ h⟩
  · exact ⟨e, u_good _ e⟩
def gD (y : MethodName) (n : Nat) : Prop := (y.cls ≠ "java/lang/invoke/MethodHandle" ∧ y.cls ≠ "java/lang/invoke/VarHandle") ∧ (parseMethodDescriptor y.desc).map (fun d => d.parameters.length) = some n
def gMV (idx : Nat) (own C : String) (y : MethodName) (b : ByteArray) (maxL : Nat) (rt : Option FieldType) (n : Nat) : Prop := Cond.methodLink own idx y ∈ gU ∧ Cond.instanceMethod y ∈ gU ∧ Cond.selects C y y ∈ gU ∧ Cond.initialized y.cls ∈ gU ∧ Cond.code y b maxL rt ∈ gU ∧ gD y n
def gMS (idx : Nat) (own : String) (y : MethodName) (b : ByteArray) (maxL : Nat) (rt : Option FieldType) (n : Nat) : Prop := Cond.methodLink own idx y ∈ gU ∧ Cond.static y ∈ gU ∧ Cond.initialized y.cls ∈ gU ∧ Cond.code y b maxL rt ∈ gU ∧ gD y n
def gMN (idx : Nat) (own host : String) (y : MethodName) (b : ByteArray) (maxL : Nat) (rt : Option FieldType) (n : Nat) : Prop := Cond.methodLinkNest own idx y host ∈ nestW ∧ Cond.static y ∈ gU ∧ Cond.initialized y.cls ∈ gU ∧ Cond.code y b maxL rt ∈ gU ∧ gD y n
def gRc (ws : va_W) (b : Nat) (C : String) : Prop := ∃ (q0 ci : Nat) (fs : List Value) (q : vw_C), vwCl[ci]? = some q ∧ q.1 = C ∧ ws[q0]? = some (b, .inr (ci, fs))
abbrev gRoom (rc rm : Room) (maxL : Nat) : Prop := rc.cells = 0 ∧ rc.slots = 0 ∧ rc.frames + 1 ≤ rm.frames ∧ 8 + (maxL + 11) + rc.locals ≤ rm.locals
theorem gD.len {y : MethodName} {n : Nat} (h : gD y n) : ∀ sig, parseMethodDescriptor y.desc = some sig → n = sig.parameters.length := by
  intro sig hs
  have h2 := h.2
  rw [hs] at h2
  simp only [Option.map_some, Option.some.injEq] at h2
  exact h2.symm
theorem g_after {rest st0 : List Value} {rv : Option Value} {ls : Array Slot} {H : Heap} {locs : List Loc} {a : Array Value}
    (hr : va_Run (kp κ) (kl κ) (ke κ) (kR κ) (ks κ) (km κ) (kar κ) (kbe κ) (kme κ) (kc κ) H locs 0 0 0 0 (F0 (km κ) pc ls st0) rest (gQ E ws' rv a) E.2.2.1) (hS : va_S E.2.2.1 (ks κ).heap H locs) (hl : lv_has ls (kn κ) (lo_l 0 lo)) (kk : GG κ E fin ws' (pc + 3) lo (rv.toList ++ rest)) :
    W (kp κ) (kl κ) (ke κ) (kR κ) (ks κ) (km κ) (kar κ) (kbe κ) (kme κ) (kc κ) H locs 0 0 (MQ (kbe κ) (gQ E fin.1 fin.2) (kar κ) (ks κ) 0 0 E.2.2.1) (F0 (km κ) pc ls st0) := by
  intro T hT X
  obtain ⟨v, st₀, t, T', L, h0, X', hL, e1, e2, ⟨⟨hv, hP', hK', hD'⟩, hz, hk⟩, go⟩ := hr T hT X
  cases hv
  rw [h0] at hz hk
  obtain ⟨t2, a1, b1⟩ := kk T'.heap (locs ++ L) ls (by rw [e1]; exact hP') hD'
    ⟨Nat.le_trans hS.1 (by rw [e1]; exact hz), fun q h1 h2 => by rw [e1, hk q (Nat.lt_of_lt_of_le h1 hS.1) h2]; exact hS.2.1 q h1 h2, fun q hq => by
      rcases List.mem_append.mp hq with h | h
      · exact hS.2.2 q h
      · exact hL q h⟩ hl T' rfl X'
  exact ⟨t2, go t2 a1, b1⟩
theorem g_callV {idx b maxL n : Nat} {C : String} {y : MethodName} {cb : ByteArray} {rt : Option FieldType} {rc : Room} {avs As rest st0 : List Value} {rv : Option Value} (hC : gC κ E cc own ret rm nL) (hM : Met (kl κ) y (.code y cb maxL rt :: gU) rc (gP E ws avs) (gQ E ws' rv) 0 0 E.2.2.1) (hm : gMV idx own C y cb maxL rt n) (hrc : gRc ws b C) (hR : gRoom rc rm maxL) (hav : avs = .ref b :: As) (hst : avs.reverse ++ rest = st0) (hcat : Nat.ble (catsum rest) 8 = true) (hn : Nat.beq As.length n = true) (hd : decode cc pc = .ok (.invokevirtual idx, 3)) (hp : pc + 3 = pc') (kk : GG κ E fin ws' pc' lo (rv.toList ++ rest)) : GG κ E fin ws pc lo st0 := by
  subst hp; subst hav; subst hst
  intro H locs ls hP hD hS hl
  obtain ⟨m1, m2, m3, m4, m5, m6⟩ := hm
  obtain ⟨q0, ci, fs, q, k1, k2, k3⟩ := hrc
  have hR' : kR κ = rm := hC.R
  have hG := g_good m5
  have hts := hC.t
  refine g_after (va_runV (own := own) (C := C) (As := As) (rest := rest) (n := n) (nL := nL) ⟨hC.x, hC.b, hC.ml, hC.o, hts⟩ hM ⟨⟨hR.1, hR.2.1, by rw [hR']; exact hR.2.2.1, by rw [hR']; exact hR.2.2.2, pay_in hts hG, List.mem_cons_self, hts _ m5, hts _ m4, m6.1, m6.len, hts _ m1⟩, hts _ m2, hts _ m3⟩ ⟨gP_blind, ?_, fun U hU hW => ⟨rfl, by rw [hU]; exact hP, va_K.moved hW.alike hC.K, gN.warm hW hC.N, hD⟩⟩ rfl (Nat.eq_of_beq_eq_true hn) (hl.1.trans hC.n) (by simp) (lv_room (by rw [catsum_eq]; exact Nat.le_of_ble_eq_true hcat)) hd ⟨by simp, by simp⟩) hS hl kk
  have h9 := va_recv hC.K hP k1 k3
  rw [k2] at h9
  exact h9
theorem g_callS {idx maxL n : Nat} {y : MethodName} {cb : ByteArray} {rt : Option FieldType} {rc : Room} {avs rest st0 : List Value} {rv : Option Value} (hC : gC κ E cc own ret rm nL) (hM : Met (kl κ) y (.code y cb maxL rt :: gU) rc (gP E ws avs) (gQ E ws' rv) 0 0 E.2.2.1) (hm : gMS idx own y cb maxL rt n) (hR : gRoom rc rm maxL) (hst : avs.reverse ++ rest = st0) (hcat : Nat.ble (catsum rest) 8 = true) (hn : Nat.beq avs.length n = true) (hd : decode cc pc = .ok (.invokestatic idx, 3)) (hp : pc + 3 = pc') (kk : GG κ E fin ws' pc' lo (rv.toList ++ rest)) : GG κ E fin ws pc lo st0 := by
  subst hp; subst hst
  intro H locs ls hP hD hS hl
  obtain ⟨m1, m2, m4, m5, m6⟩ := hm
  have hR' : kR κ = rm := hC.R
  have hG := g_good m5
  have hts := hC.t
  exact g_after (va_runS (own := own) (As := avs) (rest := rest) (n := n) (nL := nL) ⟨hC.x, hC.b, hC.ml, hC.o, hts⟩ hM ⟨⟨hR.1, hR.2.1, by rw [hR']; exact hR.2.2.1, by rw [hR']; exact hR.2.2.2, pay_in hts hG, List.mem_cons_self, hts _ m5, hts _ m4, m6.1, m6.len, hts _ m1⟩, hts _ m2⟩ ⟨gP_blind, fun U hU hW => ⟨rfl, by rw [hU]; exact hP, va_K.moved hW.alike hC.K, gN.warm hW hC.N, hD⟩⟩ rfl (Nat.eq_of_beq_eq_true hn) (hl.1.trans hC.n) rfl (lv_room (by rw [catsum_eq]; exact Nat.le_of_ble_eq_true hcat)) hd ⟨by simp, by simp⟩) hS hl kk
theorem g_callN {idx maxL n : Nat} {host : String} {y : MethodName} {cb : ByteArray} {rt : Option FieldType} {rc : Room} {avs rest st0 : List Value} {rv : Option Value} (hC : gC κ E cc own ret rm nL) (hM : Met (kl κ) y (.code y cb maxL rt :: gU) rc (gP E ws avs) (gQ E ws' rv) 0 0 E.2.2.1) (hm : gMN idx own host y cb maxL rt n) (hR : gRoom rc rm maxL) (hst : avs.reverse ++ rest = st0) (hcat : Nat.ble (catsum rest) 8 = true) (hn : Nat.beq avs.length n = true) (hd : decode cc pc = .ok (.invokestatic idx, 3)) (hp : pc + 3 = pc') (kk : GG κ E fin ws' pc' lo (rv.toList ++ rest)) : GG κ E fin ws pc lo st0 := by
  subst hp; subst hst
  intro H locs ls hP hD hS hl
  obtain ⟨m1, m2, m4, m5, m6⟩ := hm
  have hR' : kR κ = rm := hC.R
  have hG := g_good m5
  have hts := hC.t
  exact g_after (va_runSN (own := own) (host := host) (As := avs) (rest := rest) (n := n) (nL := nL) ⟨hC.x, hC.b, hC.ml, hC.o, hts⟩ hM ⟨⟨⟨hR.1, hR.2.1, by rw [hR']; exact hR.2.2.1, by rw [hR']; exact hR.2.2.2, pay_in hts hG, List.mem_cons_self⟩, hts _ m5, hts _ m4, m6.1, m6.len, va_Nw.use rfl (hC.N _ m1)⟩, hts _ m2, trivial⟩ ⟨gP_blind, fun U hU hW => ⟨rfl, by rw [hU]; exact hP, va_K.moved hW.alike hC.K, gN.warm hW hC.N, hD⟩⟩ rfl (Nat.eq_of_beq_eq_true hn) (hl.1.trans hC.n) rfl (lv_room (by rw [catsum_eq]; exact Nat.le_of_ble_eq_true hcat)) hd ⟨by simp, by simp⟩) hS hl kk
def gMath (idx : Nat) (own : String) (y : MethodName) (cb : ByteArray) (maxL : Nat) (rt : Option FieldType) : Prop := Cond.methodLink own idx y ∈ gU ∧ Cond.static y ∈ gU ∧ Cond.initialized "java/lang/Math" ∈ gU ∧ Cond.code y cb maxL rt ∈ gU
theorem g_imin {idx : Nat} {x y : Int32} (hC : gC κ E cc own ret rm nL) (hm : gMath idx own Lib.Math.min.name Lib.Math.min.code 2 (some .int)) (hR : 1 ≤ rm.frames ∧ 23 ≤ rm.locals) (hd : decode cc pc = .ok (.invokestatic idx, 3)) (hcat : Nat.ble (catsum st) 8 = true) (hp : pc + 3 = pc') (kk : GG κ E fin ws pc' lo (.int (imin x y) :: st)) : GG κ E fin ws pc lo (.int y :: .int x :: st) := by
  subst hp
  intro H locs ls hP hD hS hl
  have hc8 : (st.map fun v => v.category).sum ≤ 8 := by rw [catsum_eq]; exact Nat.le_of_ble_eq_true hcat
  have hR' : kR κ = rm := hC.R
  exact va_mmin hC.x hC.b (by rw [hC.ml, hl.1, hC.n]) hC.o (hC.t _ hm.1) (hC.t _ hm.2.1) (hC.t _ hm.2.2.1) (hC.t _ hm.2.2.2) (by rw [hR']; exact hR.1) (by have := hR.2; rw [hR']; omega) (Nat.zero_le _) (Nat.zero_le _) hd (kk H locs ls hP hD hS hl)
theorem g_imax {idx : Nat} {x y : Int32} (hC : gC κ E cc own ret rm nL) (hm : gMath idx own Lib.Math.max.name Lib.Math.max.code 2 (some .int)) (hR : 1 ≤ rm.frames ∧ 23 ≤ rm.locals) (hd : decode cc pc = .ok (.invokestatic idx, 3)) (hcat : Nat.ble (catsum st) 8 = true) (hp : pc + 3 = pc') (kk : GG κ E fin ws pc' lo (.int (imax x y) :: st)) : GG κ E fin ws pc lo (.int y :: .int x :: st) := by
  subst hp
  intro H locs ls hP hD hS hl
  have hc8 : (st.map fun v => v.category).sum ≤ 8 := by rw [catsum_eq]; exact Nat.le_of_ble_eq_true hcat
  have hR' : kR κ = rm := hC.R
  exact va_mmax hC.x hC.b (by rw [hC.ml, hl.1, hC.n]) hC.o (hC.t _ hm.1) (hC.t _ hm.2.1) (hC.t _ hm.2.2.1) (hC.t _ hm.2.2.2) (by rw [hR']; exact hR.1) (by have := hR.2; rw [hR']; omega) (Nat.zero_le _) (Nat.zero_le _) hd (kk H locs ls hP hD hS hl)
theorem g_lmin {idx : Nat} {x y : Int64} (hC : gC κ E cc own ret rm nL) (hm : gMath idx own Lib.MathLoose.min_long.x Lib.MathLoose.min_long.code 4 (some .long)) (hR : 1 ≤ rm.frames ∧ 23 ≤ rm.locals) (hd : decode cc pc = .ok (.invokestatic idx, 3)) (hcat : Nat.ble (catsum st) 8 = true) (hp : pc + 3 = pc') (kk : GG κ E fin ws pc' lo (.long (lmin x y) :: st)) : GG κ E fin ws pc lo (.long y :: .long x :: st) := by
  subst hp
  intro H locs ls hP hD hS hl
  have hc8 : (st.map fun v => v.category).sum ≤ 8 := by rw [catsum_eq]; exact Nat.le_of_ble_eq_true hcat
  have hR' : kR κ = rm := hC.R
  exact va_mmin_long hC.x hC.b (by rw [hC.ml, hl.1, hC.n]) hC.o (hC.t _ hm.1) (hC.t _ hm.2.1) (hC.t _ hm.2.2.1) (hC.t _ hm.2.2.2) (by rw [hR']; exact hR.1) (by have := hR.2; rw [hR']; omega) (Nat.zero_le _) (Nat.zero_le _) hd (kk H locs ls hP hD hS hl)
end GL
theorem met_of {l : Launch} {y : MethodName} {cb : ByteArray} {maxL : Nat} {ret : Option FieldType} {rm : Room} {E : GE} {ws ws' : va_W} {rv : Option Value} {avs : List Value} {lo : List (Option Value)} {own : String} (hy : plainName y.cls = true) (ho : y.cls = own) (hle : Nat.ble (lg_sl avs).length maxL = true) (hlo : lo_l 0 lo = lv_args 0 avs) (body : ∀ κ : GK, kl κ = l → gC κ E cb own ret rm maxL → GG κ E (ws', rv) ws 0 lo []) : Met l y (.code y cb maxL ret :: gU) rm (gP E ws avs) (gQ E ws' rv) 0 0 E.2.2.1 := by
  subst ho
  refine Met.ofW (cc := cb) (maxL := maxL) (ret := ret) hy rfl ?_
  intro p e s m args below meth c s₁ B hml hv
  obtain ⟨rfl, hP, hK, hN, hD⟩ := hv
  have hts := atoms_spec (ws := .code y cb maxL ret :: gU) B.pre
  have K := body (p, l, e, rm, s, m, avs.toArray, below, meth, c, maxL) rfl ⟨B.exec, B.bytes, B.returns, hml, findClass_of_methodNamed B.named, fun w hw => hts w (List.mem_cons_of_mem _ hw), hK, hN, B.notSynchronized, rfl, rfl⟩
  have hl := lv_entry avs (n := maxL) (Nat.le_of_ble_eq_true hle)
  rw [lg_entry_eq]
  generalize (lg_sl avs ++ List.replicate (maxL - (lg_sl avs).length) Slot.unset).toArray = ls at hl ⊢
  rw [← hlo] at hl
  exact K s.heap [] ls hP hD va_S.rf hl
