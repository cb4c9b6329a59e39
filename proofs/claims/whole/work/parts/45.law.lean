/-! the loop of the law, and its start -/
theorem lk_844 {κ : GK} {Z : State → Prop} {EX EM : GE} {b L i : Nat} {xs : Nat → Int32} (hC : lC κ EX EM b L xs) (h : LK κ Z EX EM 18 [some (.ref b), some (.ref (ea EX 35)), some (.ref (ea EM 0)), some (.int (nI (i + 5)))]) : LK κ Z EX EM 844 [some (.ref b), some (.ref (ea EX 35)), some (.ref (ea EM 0)), some (.int (nI i))] := by
  intro xk xo xc xt xn xl rc rv rb la wch wcc wpl wun srow ssp sen str stp swd rwp rdr rpd rpv rpc rzp mk mo mm mt mv mx mp mtd mf ms md mdd mn mst mpl mbb ma me mb mba mpg mdi mbl mby mw mz mso mbo mco mcd ml mr hc ht hf hx
  refine l_iinc (pc' := 847) (i := 3) (x := nI i) (k0 := nI 5) (lo' := [some (.ref b), some (.ref (ea EX 35)), some (.ref (ea EM 0)), some (.int (nI (i + 5)))]) hC dL_law_844 rfl (by decide) rfl rfl (by rw [addI]; rfl) rfl ?_
  refine l_goto (tgt := 18) hC dL_law_847 (by decide) ?_
  exact h xk xo xc xt xn xl rc rv rb la wch wcc wpl wun srow ssp sen str stp swd rwp rdr rpd rpv rpc rzp mk mo mm mt mv mx mp mtd mf ms md mdd mn mst mpl mbb ma me mb mba mpg mdi mbl mby mw mz mso mbo mco mcd ml mr hc ht hf hx
theorem lk_26 {κ : GK} {Z : State → Prop} {EX EM : GE} {b L i : Nat} {xs : Nat → Int32} (hC : lC κ EX EM b L xs) (hi : i + 5 ≤ L) (h : LK κ Z EX EM 844 [some (.ref b), some (.ref (ea EX 35)), some (.ref (ea EM 0)), some (.int (nI i))]) : LK κ Z EX EM 26 [some (.ref b), some (.ref (ea EX 35)), some (.ref (ea EM 0)), some (.int (nI i))] := by
  intro xk xo xc xt xn xl rc rv rb la wch wcc wpl wun srow ssp sen str stp swd rwp rdr rpd rpv rpc rzp mk mo mm mt mv mx mp mtd mf ms md mdd mn mst mpl mbb ma me mb mba mpg mdi mbl mby mw mz mso mbo mco mcd ml mr hc ht hf hx
  refine l_aload_n (pc' := 27) (i := 0) hC dL_law_26 rfl rfl rfl ?_
  refine l_iload_n (pc' := 28) (i := 3) hC dL_law_27 rfl rfl rfl ?_
  refine l_sld (pc' := 29) hC (sc_in0 hi hC.L) dL_law_28 rfl ?_
  refine l_bipush (pc' := 31) (v := (31 : Int32)) hC dL_law_29 (by decide) rfl ?_
  refine l_iand (pc' := 32) hC dL_law_31 rfl ?_
  generalize xs (ix (nI i)) &&& (31 : Int32) = x
  by_cases hx0 : x.toInt < 0 ∨ 18 < x.toInt
  · exact l_tblOut (tgt := 844) hC dL_law_32 hx0 (by decide) (h xk xo xc xt xn xl rc rv rb la wch wcc wpl wun srow ssp sen str stp swd rwp rdr rpd rpv rpc rzp mk mo mm mt mv mx mp mtd mf ms md mdd mn mst mpl mbb ma me mb mba mpg mdi mbl mby mw mz mso mbo mco mcd ml mr hc ht hf hx)
  · rcases (show x.toInt = 0 ∨ x.toInt = 1 ∨ x.toInt = 2 ∨ x.toInt = 3 ∨ x.toInt = 4 ∨ x.toInt = 5 ∨ x.toInt = 6 ∨ x.toInt = 7 ∨ x.toInt = 8 ∨ x.toInt = 9 ∨ x.toInt = 10 ∨ x.toInt = 11 ∨ x.toInt = 12 ∨ x.toInt = 13 ∨ x.toInt = 14 ∨ x.toInt = 15 ∨ x.toInt = 16 ∨ x.toInt = 17 ∨ x.toInt = 18 by omega) with e | e | e | e | e | e | e | e | e | e | e | e | e | e | e | e | e | e | e
    · exact l_tblIn (tgt := 124) (off := 92) hC dL_law_32 (by rw [e]; decide) (by rw [e]; decide) (by rw [e]; rfl) (by decide) (lk_column hC hi h xk xo xc xt xn xl rc rv rb la wch wcc wpl wun srow ssp sen str stp swd rwp rdr rpd rpv rpc rzp mk mo mm mt mv mx mp mtd mf ms md mdd mn mst mpl mbb ma me mb mba mpg mdi mbl mby mw mz mso mbo mco mcd ml mr hc ht hf hx)
    · exact l_tblIn (tgt := 183) (off := 151) hC dL_law_32 (by rw [e]; decide) (by rw [e]; decide) (by rw [e]; rfl) (by decide) (lk_add hC hi h xk xo xc xt xn xl rc rv rb la wch wcc wpl wun srow ssp sen str stp swd rwp rdr rpd rpv rpc rzp mk mo mm mt mv mx mp mtd mf ms md mdd mn mst mpl mbb ma me mb mba mpg mdi mbl mby mw mz mso mbo mco mcd ml mr hc ht hf hx)
    · exact l_tblIn (tgt := 246) (off := 214) hC dL_law_32 (by rw [e]; decide) (by rw [e]; decide) (by rw [e]; rfl) (by decide) (lk_type hC hi h xk xo xc xt xn xl rc rv rb la wch wcc wpl wun srow ssp sen str stp swd rwp rdr rpd rpv rpc rzp mk mo mm mt mv mx mp mtd mf ms md mdd mn mst mpl mbb ma me mb mba mpg mdi mbl mby mw mz mso mbo mco mcd ml mr hc ht hf hx)
    · exact l_tblIn (tgt := 309) (off := 277) hC dL_law_32 (by rw [e]; decide) (by rw [e]; decide) (by rw [e]; rfl) (by decide) (lk_addText hC hi h xk xo xc xt xn xl rc rv rb la wch wcc wpl wun srow ssp sen str stp swd rwp rdr rpd rpv rpc rzp mk mo mm mt mv mx mp mtd mf ms md mdd mn mst mpl mbb ma me mb mba mpg mdi mbl mby mw mz mso mbo mco mcd ml mr hc ht hf hx)
    · exact l_tblIn (tgt := 332) (off := 300) hC dL_law_32 (by rw [e]; decide) (by rw [e]; decide) (by rw [e]; rfl) (by decide) (lk_addNone hC hi h xk xo xc xt xn xl rc rv rb la wch wcc wpl wun srow ssp sen str stp swd rwp rdr rpd rpv rpc rzp mk mo mm mt mv mx mp mtd mf ms md mdd mn mst mpl mbb ma me mb mba mpg mdi mbl mby mw mz mso mbo mco mcd ml mr hc ht hf hx)
    · exact l_tblIn (tgt := 355) (off := 323) hC dL_law_32 (by rw [e]; decide) (by rw [e]; decide) (by rw [e]; rfl) (by decide) (lk_repeat hC hi h xk xo xc xt xn xl rc rv rb la wch wcc wpl wun srow ssp sen str stp swd rwp rdr rpd rpv rpc rzp mk mo mm mt mv mx mp mtd mf ms md mdd mn mst mpl mbb ma me mb mba mpg mdi mbl mby mw mz mso mbo mco mcd ml mr hc ht hf hx)
    · exact l_tblIn (tgt := 398) (off := 366) hC dL_law_32 (by rw [e]; decide) (by rw [e]; decide) (by rw [e]; rfl) (by decide) (lk_told hC hi h xk xo xc xt xn xl rc rv rb la wch wcc wpl wun srow ssp sen str stp swd rwp rdr rpd rpv rpc rzp mk mo mm mt mv mx mp mtd mf ms md mdd mn mst mpl mbb ma me mb mba mpg mdi mbl mby mw mz mso mbo mco mcd ml mr hc ht hf hx)
    · exact l_tblIn (tgt := 431) (off := 399) hC dL_law_32 (by rw [e]; decide) (by rw [e]; decide) (by rw [e]; rfl) (by decide) (lk_has hC hi h xk xo xc xt xn xl rc rv rb la wch wcc wpl wun srow ssp sen str stp swd rwp rdr rpd rpv rpc rzp mk mo mm mt mv mx mp mtd mf ms md mdd mn mst mpl mbb ma me mb mba mpg mdi mbl mby mw mz mso mbo mco mcd ml mr hc ht hf hx)
    · exact l_tblIn (tgt := 464) (off := 432) hC dL_law_32 (by rw [e]; decide) (by rw [e]; decide) (by rw [e]; rfl) (by decide) (lk_value hC hi h xk xo xc xt xn xl rc rv rb la wch wcc wpl wun srow ssp sen str stp swd rwp rdr rpd rpv rpc rzp mk mo mm mt mv mx mp mtd mf ms md mdd mn mst mpl mbb ma me mb mba mpg mdi mbl mby mw mz mso mbo mco mcd ml mr hc ht hf hx)
    · exact l_tblIn (tgt := 498) (off := 466) hC dL_law_32 (by rw [e]; decide) (by rw [e]; decide) (by rw [e]; rfl) (by decide) (lk_letter hC hi h xk xo xc xt xn xl rc rv rb la wch wcc wpl wun srow ssp sen str stp swd rwp rdr rpd rpv rpc rzp mk mo mm mt mv mx mp mtd mf ms md mdd mn mst mpl mbb ma me mb mba mpg mdi mbl mby mw mz mso mbo mco mcd ml mr hc ht hf hx)
    · exact l_tblIn (tgt := 541) (off := 509) hC dL_law_32 (by rw [e]; decide) (by rw [e]; decide) (by rw [e]; rfl) (by decide) (lk_alike hC hi h xk xo xc xt xn xl rc rv rb la wch wcc wpl wun srow ssp sen str stp swd rwp rdr rpd rpv rpc rzp mk mo mm mt mv mx mp mtd mf ms md mdd mn mst mpl mbb ma me mb mba mpg mdi mbl mby mw mz mso mbo mco mcd ml mr hc ht hf hx)
    · exact l_tblIn (tgt := 574) (off := 542) hC dL_law_32 (by rw [e]; decide) (by rw [e]; decide) (by rw [e]; rfl) (by decide) (lk_write hC hi h xk xo xc xt xn xl rc rv rb la wch wcc wpl wun srow ssp sen str stp swd rwp rdr rpd rpv rpc rzp mk mo mm mt mv mx mp mtd mf ms md mdd mn mst mpl mbb ma me mb mba mpg mdi mbl mby mw mz mso mbo mco mcd ml mr hc ht hf hx)
    · exact l_tblIn (tgt := 643) (off := 611) hC dL_law_32 (by rw [e]; decide) (by rw [e]; decide) (by rw [e]; rfl) (by decide) (lk_read hC hi h xk xo xc xt xn xl rc rv rb la wch wcc wpl wun srow ssp sen str stp swd rwp rdr rpd rpv rpc rzp mk mo mm mt mv mx mp mtd mf ms md mdd mn mst mpl mbb ma me mb mba mpg mdi mbl mby mw mz mso mbo mco mcd ml mr hc ht hf hx)
    · exact l_tblIn (tgt := 666) (off := 634) hC dL_law_32 (by rw [e]; decide) (by rw [e]; decide) (by rw [e]; rfl) (by decide) (lk_fault hC hi h xk xo xc xt xn xl rc rv rb la wch wcc wpl wun srow ssp sen str stp swd rwp rdr rpd rpv rpc rzp mk mo mm mt mv mx mp mtd mf ms md mdd mn mst mpl mbb ma me mb mba mpg mdi mbl mby mw mz mso mbo mco mcd ml mr hc ht hf hx)
    · exact l_tblIn (tgt := 689) (off := 657) hC dL_law_32 (by rw [e]; decide) (by rw [e]; decide) (by rw [e]; rfl) (by decide) (lk_size hC hi h xk xo xc xt xn xl rc rv rb la wch wcc wpl wun srow ssp sen str stp swd rwp rdr rpd rpv rpc rzp mk mo mm mt mv mx mp mtd mf ms md mdd mn mst mpl mbb ma me mb mba mpg mdi mbl mby mw mz mso mbo mco mcd ml mr hc ht hf hx)
    · exact l_tblIn (tgt := 702) (off := 670) hC dL_law_32 (by rw [e]; decide) (by rw [e]; decide) (by rw [e]; rfl) (by decide) (lk_byteAt hC hi h xk xo xc xt xn xl rc rv rb la wch wcc wpl wun srow ssp sen str stp swd rwp rdr rpd rpv rpc rzp mk mo mm mt mv mx mp mtd mf ms md mdd mn mst mpl mbb ma me mb mba mpg mdi mbl mby mw mz mso mbo mco mcd ml mr hc ht hf hx)
    · exact l_tblIn (tgt := 725) (off := 693) hC dL_law_32 (by rw [e]; decide) (by rw [e]; decide) (by rw [e]; rfl) (by decide) (lk_poke hC hi h xk xo xc xt xn xl rc rv rb la wch wcc wpl wun srow ssp sen str stp swd rwp rdr rpd rpv rpc rzp mk mo mm mt mv mx mp mtd mf ms md mdd mn mst mpl mbb ma me mb mba mpg mdi mbl mby mw mz mso mbo mco mcd ml mr hc ht hf hx)
    · exact l_tblIn (tgt := 758) (off := 726) hC dL_law_32 (by rw [e]; decide) (by rw [e]; decide) (by rw [e]; rfl) (by decide) (lk_cut hC hi h xk xo xc xt xn xl rc rv rb la wch wcc wpl wun srow ssp sen str stp swd rwp rdr rpd rpv rpc rzp mk mo mm mt mv mx mp mtd mf ms md mdd mn mst mpl mbb ma me mb mba mpg mdi mbl mby mw mz mso mbo mco mcd ml mr hc ht hf hx)
    · exact l_tblIn (tgt := 781) (off := 749) hC dL_law_32 (by rw [e]; decide) (by rw [e]; decide) (by rw [e]; rfl) (by decide) (lk_put hC hi h xk xo xc xt xn xl rc rv rb la wch wcc wpl wun srow ssp sen str stp swd rwp rdr rpd rpv rpc rzp mk mo mm mt mv mx mp mtd mf ms md mdd mn mst mpl mbb ma me mb mba mpg mdi mbl mby mw mz mso mbo mco mcd ml mr hc ht hf hx)
theorem sc_gt {L i : Nat} (hL : L ≤ 2560) (hi : i ≤ L) (h : ¬ nI L - nI 5 < nI i) : i + 5 ≤ L := by
  by_cases h5 : 5 ≤ L
  · rw [subI h5, ltI (by omega) (by omega)] at h
    omega
  · exact absurd ((show ∀ L, L < 5 → ∀ i, i < 5 → nI L - nI 5 < nI i by decide) L (by omega) i (by omega)) h
theorem lk_loop {κ : GK} {Z : State → Prop} {EX EM : GE} {b L : Nat} {xs : Nat → Int32} (hC : lC κ EX EM b L xs) (hZ : ∀ (H : Heap) (ls : Array Slot), W (kp κ) (kl κ) (ke κ) (kR κ) (ks κ) (km κ) (kar κ) (kbe κ) (kme κ) (kc κ) H [] 600000 7302250 Z (F0 (km κ) 851 ls [.int 1])) : ∀ (m i : Nat), i ≤ L → L ≤ i + m → LK κ Z EX EM 18 [some (.ref b), some (.ref (ea EX 35)), some (.ref (ea EM 0)), some (.int (nI i))] := by
  have h850 : ∀ (P : Heap → Prop) (lo : List (Option Value)), LL κ Z P 850 lo [] := by
    intro P lo
    refine l_iconst (pc' := 851) (v := 1) hC dL_law_850 (by decide) rfl ?_
    intro H locs ls _ hS _
    exact va_forget (fun q hq => hS.2.2 q hq) (hZ H ls)
  have stp : ∀ i, i ≤ L → (i + 5 ≤ L → LK κ Z EX EM 18 [some (.ref b), some (.ref (ea EX 35)), some (.ref (ea EM 0)), some (.int (nI (i + 5)))]) → LK κ Z EX EM 18 [some (.ref b), some (.ref (ea EX 35)), some (.ref (ea EM 0)), some (.int (nI i))] := by
    intro i hi h xk xo xc xt xn xl rc rv rb la wch wcc wpl wun srow ssp sen str stp swd rwp rdr rpd rpv rpc rzp mk mo mm mt mv mx mp mtd mf ms md mdd mn mst mpl mbb ma me mb mba mpg mdi mbl mby mw mz mso mbo mco mcd ml mr hc ht hf hx
    refine l_iload_n (pc' := 19) (i := 3) hC dL_law_18 rfl rfl rfl ?_
    refine l_aload_n (pc' := 20) (i := 0) hC dL_law_19 rfl rfl rfl ?_
    refine l_slen (pc' := 21) hC dL_law_20 rfl ?_
    refine l_iconst (pc' := 22) (v := nI 5) hC dL_law_21 (by decide) rfl ?_
    refine l_isub (pc' := 23) hC dL_law_22 rfl ?_
    refine l_icmp_gt (pc' := 26) (tgt := 850) hC dL_law_23 rfl (by decide) (fun _ => h850 _ _) (fun hn => ?_)
    have h5 := sc_gt hC.L hi hn
    exact lk_26 hC h5 (lk_844 hC (h h5)) xk xo xc xt xn xl rc rv rb la wch wcc wpl wun srow ssp sen str stp swd rwp rdr rpd rpv rpc rzp mk mo mm mt mv mx mp mtd mf ms md mdd mn mst mpl mbb ma me mb mba mpg mdi mbl mby mw mz mso mbo mco mcd ml mr hc ht hf hx
  intro m
  induction m with
  | zero =>
    intro i hi hL
    exact stp i hi (fun h5 => by omega)
  | succ m ih =>
    intro i hi hL
    exact stp i hi (fun h5 => ih (i + 5) h5 (by omega))
def inW (w : va_W) (q : Nat) : Prop := ∃ (k : Nat) (e : va_E), w[k]? = some (q, e)
theorem pw_split {D : va_G} {A : Nat → Prop} {wX wM : va_W} {H : Heap} (hP : va_P D vwCl (wX ++ wM) H) (hD : va_D A (wX ++ wM)) : va_P D vwCl wX H ∧ va_D (inW wX) wX ∧ va_P D vwCl wM H ∧ va_D (inW wM) wM ∧ (∀ q, inW wX q → inW wM q → False) ∧ (∀ q, inW wX q → A q) ∧ (∀ q, inW wM q → A q) := by
  have l1 : ∀ (k : Nat) (q : Nat × va_E), wX[k]? = some q → (wX ++ wM)[k]? = some q := fun k q h => (List.getElem?_append_left (List.getElem?_eq_some_iff.mp h).1).trans h
  have l2 : ∀ (k : Nat) (q : Nat × va_E), wM[k]? = some q → (wX ++ wM)[wX.length + k]? = some q := fun k q h => by
    rw [List.getElem?_append_right (by omega), Nat.add_sub_cancel_left]
    exact h
  refine ⟨fun k q h => hP k q (l1 k q h), ⟨fun i j p q hi hj e => hD.1 i j p q (l1 i p hi) (l1 j q hj) e, fun k q h => ⟨k, q.2, h⟩⟩, fun k q h => hP _ q (l2 k q h), ⟨fun i j p q hi hj e => ?_, fun k q h => ⟨k, q.2, h⟩⟩, ?_, ?_, ?_⟩
  · have := hD.1 _ _ p q (l2 i p hi) (l2 j q hj) e
    omega
  · rintro q ⟨k, e, h⟩ ⟨k', e', h'⟩
    have h1 := hD.1 _ _ _ _ (l1 k _ h) (l2 k' _ h') rfl
    have h2 := (List.getElem?_eq_some_iff.mp h).1
    omega
  · rintro q ⟨k, e, h⟩
    exact hD.2 k _ (l1 k _ h)
  · rintro q ⟨k, e, h⟩
    exact hD.2 _ _ (l2 k _ h)
theorem nest_sub : ∀ w ∈ nestW, w ∈ lw_tbl := by decide +kernel
theorem nest_on : ∀ w ∈ nestW, w.onTables = true := by decide +kernel
theorem over_sub : Cond.arrayOver (.object "ColumnPages$Column") ∈ lw_tbl := by decide +kernel
theorem z_Cols : Cols (fun _ => 0) (fun _ => 0) (fun _ => 0) (fun _ _ => 0) (fun _ _ => 0) (fun _ _ => 0) (fun _ => 0) (fun _ => 0) (fun _ => 0) (fun _ => 0) (fun _ => 0) (fun _ => 0) := fun c hc => ⟨0, 0, [], ⟨by decide, by decide, by decide, fun a h => by cases h⟩, ⟨rfl, rfl, rfl, fun j h => absurd h (Nat.not_lt_zero _)⟩, ⟨rfl, rfl, rfl, fun j h => absurd h (Nat.not_lt_zero _)⟩⟩
theorem z_Tape : Tape (fun _ => 0) (fun _ => 0) (fun _ _ => 0) (fun _ => 0) 0 := ⟨⟨[], ⟨rfl, Nat.zero_le _, fun x h => (by cases h), fun k h => absurd h (Nat.not_lt_zero _)⟩, ⟨rfl, Nat.zero_le _, fun k h => absurd h (Nat.not_lt_zero _)⟩⟩, rfl⟩
theorem z_Filed : Filed (fun _ => 0) (fun _ => 0) (fun _ _ => 0) (fun _ => 0) 0 := ⟨⟨[], ⟨rfl, Nat.zero_le _, fun x h => (by cases h), fun k h => absurd h (Nat.not_lt_zero _)⟩, ⟨rfl, Nat.zero_le _, fun k h => absurd h (Nat.not_lt_zero _)⟩⟩, rfl⟩
theorem z_Flt : FltR (fun _ => 0) 0 0 0 0 0 0 0 0 := Or.inl ⟨rfl, rfl, rfl, rfl, rfl⟩
def vD (a0 a1 a2 a3 a4 a5 a6 : ClassId) (i0 i1 i2 i3 i4 i5 i6 : Nat → Nat) : va_G := (fun c => match c with | 0 => a0 | 1 => a1 | 2 => a2 | 3 => a3 | 4 => a4 | 5 => a5 | _ => a6, fun c => match c with | 0 => i0 | 1 => i1 | 2 => i2 | 3 => i3 | 4 => i4 | 5 => i5 | _ => i6)
def vc (z y i j o : ClassId) : Nat → ClassId := fun k => match k with | 0 => z | 1 => y | 2 => i | 3 => j | _ => o
theorem v_known {s : State} {args : Array Value} (hu : ∀ w ∈ gU, w.before args s = true) (hao : va_AO RX0 s) : ∃ (D : va_G) (cl : Nat → ClassId), va_K D vwCl (ntys cl) s := by
  obtain ⟨a0, i0, k0⟩ := u_known (C := RX0) (T := TX0) (N := 6) hu inlX0 (hu _ v_35)
  obtain ⟨a1, i1, k1⟩ := u_known (C := RX1) (T := TX1) (N := 11) hu inlX1 (hu _ v_60)
  obtain ⟨a2, i2, k2⟩ := u_known (C := RX2) (T := TX2) (N := 7) hu inlX2 (hu _ v_53)
  obtain ⟨a3, i3, k3⟩ := u_known (C := RX3) (T := TX3) (N := 3) hu inlX3 (hu _ v_16)
  obtain ⟨a4, i4, k4⟩ := u_known (C := RX4) (T := TX4) (N := 6) hu inlX4 (hu _ v_28)
  obtain ⟨a5, i5, k5⟩ := u_known (C := RX5) (T := TX5) (N := 5) hu inlX5 (hu _ v_241)
  obtain ⟨a6, i6, k6⟩ := u_known (C := RX6) (T := TX6) (N := 32) hu inlX6 (hu _ v_242)
  obtain ⟨ctz, xtz, ptz, tz1, tz2, tz3⟩ := Cond.arrayClass_spec (hu _ v_3)
  obtain ⟨cty, xty, pty, ty1, ty2, ty3⟩ := Cond.arrayClass_spec (hu _ v_7)
  obtain ⟨cti, xti, pti, ti1, ti2, ti3⟩ := Cond.arrayClass_spec (hu _ v_12)
  obtain ⟨ctj, xtj, ptj, tj1, tj2, tj3⟩ := Cond.arrayClass_spec (hu _ v_5)
  obtain ⟨po, co, xo, o1, o2, o3, o4, o5⟩ := Cond.arrayOver_spec hao
  refine ⟨vD a0 a1 a2 a3 a4 a5 a6 i0 i1 i2 i3 i4 i5 i6, vc ctz cty cti ctj co, fun c q hq => ?_, fun k q hq => ?_⟩
  · match c, hq with
    | 0, hq => cases hq; exact k0
    | 1, hq => cases hq; exact k1
    | 2, hq => cases hq; exact k2
    | 3, hq => cases hq; exact k3
    | 4, hq => cases hq; exact k4
    | 5, hq => cases hq; exact k5
    | 6, hq => cases hq; exact k6
    | n + 7, hq => exact absurd hq (by simp)
  · match k, hq with
    | 0, hq => cases hq; exact ⟨fun N z => ⟨(fun k h => by cases h), xtz, tz2, ptz, tz3⟩, tz1⟩
    | 1, hq => cases hq; exact ⟨fun N z => ⟨(fun k h => by cases h), xty, ty2, pty, ty3⟩, ty1⟩
    | 2, hq => cases hq; exact ⟨fun N z => ⟨(fun k h => by cases h), xti, ti2, pti, ti3⟩, ti1⟩
    | 3, hq => cases hq; exact ⟨fun N z => ⟨(fun k h => by cases h), xtj, tj2, ptj, tj3⟩, tj1⟩
    | 4, hq => cases hq; exact ⟨fun N z => ⟨(fun k h => by cases h), xo, o3, po, o4⟩, xo, po, o3, o4, o1, o5⟩
    | n + 5, hq => exact absurd hq (by simp)
set_option maxHeartbeats 4000000 in
set_option maxRecDepth 100000 in
theorem law_walks {κ : GK} {Z : State → Prop} {D : va_G} {cl : Nat → ClassId} {b L : Nat} {xs : Nat → Int32} (hC : nC κ D cl (fun q => (ks κ).heap.size ≤ q) cL_law RL room_1 4) (hN : gN (ks κ)) (hX : va_X b L xs (ks κ) (ks κ).heap) (hbl : b < (ks κ).heap.size) (hL : L ≤ 2560) (hZ : ∀ (H : Heap) (ls : Array Slot), W (kp κ) (kl κ) (ke κ) (kR κ) (ks κ) (km κ) (kar κ) (kbe κ) (kme κ) (kc κ) H [] 600000 7302250 Z (F0 (km κ) 851 ls [.int 1])) : NN κ Z D (fun q => (ks κ).heap.size ≤ q) [] 0 0 0 [some (.ref b), none, none, none] [] := by
  refine n_new (pc' := 3) (ci := 5) (C := RX5) (T := TX5) (N := 5) (fs := [.null, .null, .null, .null, .null]) hC v_239 v_241 v_87 inlX5 tyX5 tyX5_ok rfl (fun j hj => by rcases (show j = 0 ∨ j = 1 ∨ j = 2 ∨ j = 3 ∨ j = 4 by omega) with rfl | rfl | rfl | rfl | rfl <;> rfl) rfl rfl dL_law_0 rfl (fun q1 => ?_)
  refine n_ws (ws' := [(q1, .inr (5, [.null, .null, .null, .null, .null]))]) rfl ?_
  refine n_dup (pc' := 4) hC dL_law_3 rfl rfl ?_
  refine n_init (pc' := 7) (m := 0) (As := []) (wr := []) hC (fun sz => c_X5_init κ.2.1 q1 sz) ⟨v_243, v_244, v_87, v_245, ⟨⟨by decide, by decide⟩, by decide +kernel⟩, rfl⟩ rfl rfl rfl rfl rfl rfl rfl rfl [0] [] rfl (by decide) rfl (by decide) (by decide) rfl rfl dL_law_4 rfl (fun f => ?_)
  refine n_ws (ws' := xws (D, cl, fun _ => True, fun i => if i = 35 then q1 else f i) (fun _ => 0) (fun _ => 0) (fun _ => 0) (fun _ _ => 0) (fun _ _ => 0) (fun _ _ => 0) (fun _ => 0) (fun _ => 0) (fun _ _ => 0) (fun _ _ => 0) (fun _ => 0) 0 (fun _ => 0) 0 none 0 0 0 0 (fun _ => 0) 0 0 0 0 0 0) rfl ?_
  refine n_astore_n (pc' := 8) (i := 1) (lo' := [some (.ref b), some (.ref q1), none, none]) hC dL_law_7 rfl rfl rfl rfl rfl ?_
  refine n_new (pc' := 11) (ci := 6) (C := RX6) (T := TX6) (N := 32) (fs := [.null, .null, .null, .null, .null, .null, .null, .int 0, .null, .int 0, .null, .int 0, .null, .null, .null, .null, .int 0, .int 0, .int 0, .int 0, .int 0, .int 0, .int 0, .int 0, .null, .int 0, .int 0, .int 0, .int 0, .int 0, .null, .int 0]) hC v_240 v_242 v_92 inlX6 tyX6 tyX6_ok rfl (fun j hj => by rcases (show j = 0 ∨ j = 1 ∨ j = 2 ∨ j = 3 ∨ j = 4 ∨ j = 5 ∨ j = 6 ∨ j = 7 ∨ j = 8 ∨ j = 9 ∨ j = 10 ∨ j = 11 ∨ j = 12 ∨ j = 13 ∨ j = 14 ∨ j = 15 ∨ j = 16 ∨ j = 17 ∨ j = 18 ∨ j = 19 ∨ j = 20 ∨ j = 21 ∨ j = 22 ∨ j = 23 ∨ j = 24 ∨ j = 25 ∨ j = 26 ∨ j = 27 ∨ j = 28 ∨ j = 29 ∨ j = 30 ∨ j = 31 by omega) with rfl | rfl | rfl | rfl | rfl | rfl | rfl | rfl | rfl | rfl | rfl | rfl | rfl | rfl | rfl | rfl | rfl | rfl | rfl | rfl | rfl | rfl | rfl | rfl | rfl | rfl | rfl | rfl | rfl | rfl | rfl | rfl <;> rfl) rfl rfl dL_law_8 rfl (fun q2 => ?_)
  refine n_dup (pc' := 12) hC dL_law_11 rfl rfl ?_
  refine n_init (pc' := 15) (m := 0) (As := []) (wr := xws (D, cl, fun _ => True, fun i => if i = 35 then q1 else f i) (fun _ => 0) (fun _ => 0) (fun _ => 0) (fun _ _ => 0) (fun _ _ => 0) (fun _ _ => 0) (fun _ => 0) (fun _ => 0) (fun _ _ => 0) (fun _ _ => 0) (fun _ => 0) 0 (fun _ => 0) 0 none 0 0 0 0 (fun _ => 0) 0 0 0 0 0 0) hC (fun sz => c_X6_init κ.2.1 q2 sz) ⟨v_246, v_247, v_92, v_248, ⟨⟨by decide, by decide⟩, by decide +kernel⟩, rfl⟩ rfl rfl rfl rfl rfl rfl rfl rfl [43] [0, 1, 2, 3, 4, 5, 6, 7, 8, 9, 10, 11, 12, 13, 14, 15, 16, 17, 18, 19, 20, 21, 22, 23, 24, 25, 26, 27, 28, 29, 30, 31, 32, 33, 34, 35, 36, 37, 38, 39, 40, 41, 42] rfl (by decide) rfl (by decide) (by decide) rfl rfl dL_law_12 rfl (fun g => ?_)
  refine n_astore_n (pc' := 16) (i := 2) (lo' := [some (.ref b), some (.ref q1), some (.ref q2), none]) hC dL_law_15 rfl rfl rfl rfl rfl ?_
  refine n_iconst (pc' := 17) (v := nI 0) hC dL_law_16 (by decide) rfl ?_
  refine n_istore_n (pc' := 18) (i := 3) (lo' := [some (.ref b), some (.ref q1), some (.ref q2), some (.int (nI 0))]) hC dL_law_17 rfl rfl rfl rfl rfl ?_
  intro H locs ls hP hD hS hl
  obtain ⟨pX, dX, pM, dM, dj, aX, aM⟩ := pw_split (wX := xws (D, cl, fun _ => True, fun i => if i = 35 then q1 else f i) (fun _ => 0) (fun _ => 0) (fun _ => 0) (fun _ _ => 0) (fun _ _ => 0) (fun _ _ => 0) (fun _ => 0) (fun _ => 0) (fun _ _ => 0) (fun _ _ => 0) (fun _ => 0) 0 (fun _ => 0) 0 none 0 0 0 0 (fun _ => 0) 0 0 0 0 0 0) (wM := mws (D, cl, fun _ => True, fun i => if i = 0 then q2 else g i) (fun _ => 0) (fun _ => 0) (fun _ => 0) (fun _ => 0) (fun _ => 0) (fun _ => 0) (fun _ => 0) 0 (fun _ => 0) 0 (fun _ => 0) 0 (fun _ => 0) (fun _ => 0) (fun _ => 0) (fun _ => 0) 0 0 0 0 0 0 0 0 (fun _ => 0) 0 0 0 0 0 (fun _ => 0) 0) hP hD
  refine W.widen (show _ ≤ 600000 by decide) (show _ ≤ 7302250 by decide) ?_
  exact lk_loop (EX := (D, cl, inW (xws (D, cl, fun _ => True, fun i => if i = 35 then q1 else f i) (fun _ => 0) (fun _ => 0) (fun _ => 0) (fun _ _ => 0) (fun _ _ => 0) (fun _ _ => 0) (fun _ => 0) (fun _ => 0) (fun _ _ => 0) (fun _ _ => 0) (fun _ => 0) 0 (fun _ => 0) 0 none 0 0 0 0 (fun _ => 0) 0 0 0 0 0 0), fun i => if i = 35 then q1 else f i)) (EM := (D, cl, inW (mws (D, cl, fun _ => True, fun i => if i = 0 then q2 else g i) (fun _ => 0) (fun _ => 0) (fun _ => 0) (fun _ => 0) (fun _ => 0) (fun _ => 0) (fun _ => 0) 0 (fun _ => 0) 0 (fun _ => 0) 0 (fun _ => 0) (fun _ => 0) (fun _ => 0) (fun _ => 0) 0 0 0 0 0 0 0 0 (fun _ => 0) 0 0 0 0 0 (fun _ => 0) 0), fun i => if i = 0 then q2 else g i)) (b := b) (L := L) (xs := xs) ⟨hC.x, hC.b, hC.ml, hC.o, hC.t, hC.K, hC.K, hN, hC.R, hC.nn, hX, hbl, hL, dj, aX, aM⟩ hZ L 0 (Nat.zero_le _) (by omega) (fun _ => 0) (fun _ => 0) (fun _ => 0) (fun _ _ => 0) (fun _ _ => 0) (fun _ _ => 0) (fun _ => 0) (fun _ => 0) (fun _ _ => 0) (fun _ _ => 0) (fun _ => 0) 0 (fun _ => 0) 0 none 0 0 0 0 (fun _ => 0) 0 0 0 0 0 0 (fun _ => 0) (fun _ => 0) (fun _ => 0) (fun _ => 0) (fun _ => 0) (fun _ => 0) (fun _ => 0) 0 (fun _ => 0) 0 (fun _ => 0) 0 (fun _ => 0) (fun _ => 0) (fun _ => 0) (fun _ => 0) 0 0 0 0 0 0 0 0 (fun _ => 0) 0 0 0 0 0 (fun _ => 0) 0 z_Cols z_Tape z_Filed z_Flt H locs ls ⟨pX, dX, pM, dM⟩ hS hl
theorem whole_start {p : Program} {e : Env} {s : State} {m : MethodId} {below : List Frame} {meth : Method} {c : Code} (l : Launch) (hflags : l.flags = flags0) {b L : Nat} {xs : Nat → Int32} (hL : L ≤ 2560) (C0 : lw_At p s m meth c b L xs) : W p l e room_1 s m #[Value.ref b] below meth c s.heap [] 0 0 (lw_Z below #[Value.ref b] s) (entryFrame m ([Value.ref b] : List Value).toArray 4) := by
  obtain ⟨hx, hb, hr, hml, hown, hts, hX, hbl, hlk, hgv⟩ := C0
  have hu : ∀ w ∈ gU, w.before #[Value.ref b] s = true := fun w hw => hts w (List.mem_filter.mp hw).1
  have hao : va_AO RX0 s := va_AO.of (hts _ over_sub)
  obtain ⟨D, cl, hK⟩ := v_known hu hao
  have hN : gN s := fun w hw => va_Nw.of (nest_on w hw) (hts w (nest_sub w hw))
  have hl := lv_entry [Value.ref b] (n := 4) (Nat.le_of_ble_eq_true rfl)
  rw [lg_entry_eq]
  generalize (lg_sl [Value.ref b] ++ List.replicate (4 - (lg_sl [Value.ref b]).length) Slot.unset).toArray = ls at hl ⊢
  exact law_walks (κ := (p, l, e, room_1, s, m, #[Value.ref b], below, meth, c, 4)) (D := D) (cl := cl) ⟨hx, hb, hml, hown, hu, hK, fun q h => h, rfl, rfl, hao⟩ hN hX hbl hL (fun H ls => lw_ret hx hb hr hlk dL_law_851) s.heap [] ls (fun k q h => (by cases h)) ⟨fun i j p q h => (by cases h), fun k q h => (by cases h)⟩ va_S.rf hl
