/-! a page's head, the class after a fault -/
abbrev HX : Type := Int32 × Int32 × Int32 × Int32 × Int32 × Int32 × Int32 × Int32
def HD (sen d q rpd rpv rpc : Int32) (x : Option HX) : Prop := ∃ sx z, x = some (sx, sen, d, q, rpd, rpv, rpc, z)
theorem dh_339 {v4 : Int32} {v5 v9 v12 : Int64} {s1 ssp sen str stp rpd rpv rpc rzp : Int32} (hd : str ≠ nI 0) : HD sen str stp rpd rpv rpc (p_X1_readHead_J339 v4 v5 v9 v12 s1 ssp sen str stp rpd rpv rpc rzp) := by
  rw [p_X1_readHead_J339, d_demand hd, bdS2, d_sound hd, bdS1, if_pos rfl]
  exact ⟨_, _, rfl⟩
theorem dh_291 {v4 : Int32} {v5 v9 v12 : Int64} {s1 : Int32} {rb : Nat → Nat → Int32} {srow : Option Nat} {ssp sen str stp rpd rpv rpc rzp : Int32} (hd : str ≠ nI 0) : HD sen str stp rpd rpv rpc (p_X1_readHead_J291 v4 v5 v9 v12 s1 rb srow ssp sen str stp rpd rpv rpc rzp) := by
  rw [p_X1_readHead_J291, d_demand hd, bdS2, d_expect hd, bdS3, d_expect hd, bdS3]
  unfold p_X4_left
  rw [bdS1]
  split
  · exact dh_339 hd
  · exact dh_339 hd
theorem isData_any (v : Int64) {xk : Nat → Int32} {rdr : Int32} (hr : isB rdr = true) : ∃ a, p_X1_isDataCode v xk rdr = some a := by
  unfold p_X1_isDataCode
  rw [gdT hr]
  split
  · split
    · exact ⟨_, rfl⟩
    · split
      · exact ⟨_, rfl⟩
      · exact ⟨_, rfl⟩
  · split
    · split
      · exact ⟨_, rfl⟩
      · exact ⟨_, rfl⟩
    · split
      · split
        · exact ⟨_, rfl⟩
        · exact ⟨_, rfl⟩
      · split
        · exact ⟨_, rfl⟩
        · split
          · exact ⟨_, rfl⟩
          · exact ⟨_, rfl⟩
theorem dh_246 {v4 : Int32} {v5 v9 : Int64} {s1 : Int32} {xk : Nat → Int32} {rb : Nat → Nat → Int32} {srow : Option Nat} {ssp sen str stp rdr rpd rpv rpc rzp : Int32} (hr : isB rdr = true) (hd : str ≠ nI 0) : HD sen str stp rpd rpv rpc (p_X1_readHead_J246 v4 v5 v9 s1 xk rb srow ssp sen str stp rdr rpd rpv rpc rzp) := by
  obtain ⟨a, e⟩ := d_zig (rb := rb) (srow := srow) (ssp := ssp) (sen := sen) (stp := stp) (rzp := rzp) hd
  obtain ⟨b, e2⟩ := isData_any a (xk := xk) hr
  rw [p_X1_readHead_J246, d_demand hd, bdS2, e, bdS5, e2, bdS1]
  split
  · split
    · exact dh_291 hd
    · exact dh_291 hd
  · exact dh_291 hd
theorem dh_219 {v4 : Int32} {v5 v9 : Int64} {s0 : Int32} {xk : Nat → Int32} {rb : Nat → Nat → Int32} {srow : Option Nat} {ssp sen str stp rdr rpd rpv rpc rzp : Int32} (hr : isB rdr = true) (hd : str ≠ nI 0) : HD sen str stp rpd rpv rpc (p_X1_readHead_J219 v4 v5 v9 s0 xk rb srow ssp sen str stp rdr rpd rpv rpc rzp) := by
  rw [p_X1_readHead_J219, p_X1_readHead_J245]
  split
  · exact dh_246 hr hd
  · split
    · exact dh_246 hr hd
    · exact dh_246 hr hd
theorem dh_188 {v4 : Int32} {v5 : Int64} {s1 : Int32} {xk xc : Nat → Int32} {rb : Nat → Nat → Int32} {srow : Option Nat} {ssp sen str stp rdr rpd rpv rpc rzp : Int32} (hr : isB rdr = true) (hd : str ≠ nI 0) : HD sen str stp rpd rpv rpc (p_X1_readHead_J188 v4 v5 s1 xk xc rb srow ssp sen str stp rdr rpd rpv rpc rzp) := by
  obtain ⟨a, e⟩ := d_zig (rb := rb) (srow := srow) (ssp := ssp) (sen := sen) (stp := stp) (rzp := rzp) hd
  rw [p_X1_readHead_J188, d_expect hd, bdS3, e, bdS5]
  split
  · exact dh_219 hr hd
  · exact dh_219 hr hd
theorem dh_163 {v4 : Int32} {v5 : Int64} {s1 : Int32} {xk xc : Nat → Int32} {rb : Nat → Nat → Int32} {srow : Option Nat} {ssp sen str stp rdr rpd rpv rpc rzp : Int32} (hr : isB rdr = true) (hd : str ≠ nI 0) : HD sen str stp rpd rpv rpc (p_X1_readHead_J163 v4 v5 s1 xk xc rb srow ssp sen str stp rdr rpd rpv rpc rzp) := by
  rw [p_X1_readHead_J163, d_demand hd, bdS2]
  split
  · exact dh_188 hr hd
  · exact dh_188 hr hd
theorem dh_131 {v4 : Int32} {v5 : Int64} {s1 : Int32} {xk xc : Nat → Int32} {rb : Nat → Nat → Int32} {srow : Option Nat} {ssp sen str stp rdr rpd rpv rpc rzp : Int32} (hr : isB rdr = true) (hd : str ≠ nI 0) : HD sen str stp rpd rpv rpc (p_X1_readHead_J131 v4 v5 s1 xk xc rb srow ssp sen str stp rdr rpd rpv rpc rzp) := by
  obtain ⟨a, e⟩ := d_zig (rb := rb) (srow := srow) (ssp := ssp) (sen := sen) (stp := stp) (rzp := rzp) hd
  rw [p_X1_readHead_J131, d_demand hd, bdS2, e, bdS5]
  split
  · exact dh_163 hr hd
  · exact dh_163 hr hd
theorem dh_89 {v1 v4 s1 : Int32} {xk xc : Nat → Int32} {rb : Nat → Nat → Int32} {srow : Option Nat} {ssp sen str stp rdr rpd rpv rpc rzp : Int32} (hr : isB rdr = true) (hd : str ≠ nI 0) : HD sen str stp rpd rpv rpc (p_X1_readHead_J89 v1 v4 s1 xk xc rb srow ssp sen str stp rdr rpd rpv rpc rzp) := by
  obtain ⟨a, e⟩ := d_zig (rb := rb) (srow := srow) (ssp := ssp) (sen := sen) (stp := stp) (rzp := rzp) hd
  rw [p_X1_readHead_J89, d_demand hd, bdS2, e, bdS5, p_X1_readHead_J130]
  unfold p_X4_left
  rw [bdS1]
  split
  · exact dh_131 hr hd
  · split
    · exact dh_131 hr hd
    · exact dh_131 hr hd
theorem dh_59 {v1 v4 s1 : Int32} {xk xc : Nat → Int32} {rb : Nat → Nat → Int32} {srow : Option Nat} {ssp sen str stp rwp rdr rpd rpv rpc rzp : Int32} (hr : isB rdr = true) (hd : str ≠ nI 0) : HD sen str stp rpd rpv rpc (p_X1_readHead_J59 v1 v4 s1 xk xc rb srow ssp sen str stp rwp rdr rpd rpv rpc rzp) := by
  rw [p_X1_readHead_J59, d_demand hd, bdS2, p_X1_readHead_J84]
  split
  · split
    · exact dh_89 hr hd
    · exact dh_89 hr hd
  · exact dh_89 hr hd
theorem dh_24 {v1 : Int32} {v2 : Int64} {s0 : Int32} {xk xc : Nat → Int32} {rb : Nat → Nat → Int32} {srow : Option Nat} {ssp sen str stp rwp rdr rpd rpv rpc rzp : Int32} (hr : isB rdr = true) (hd : str ≠ nI 0) : HD sen str stp rpd rpv rpc (p_X1_readHead_J24 v1 v2 s0 xk xc rb srow ssp sen str stp rwp rdr rpd rpv rpc rzp) := by
  rw [p_X1_readHead_J24, p_X1_readHead_J58, p_X1_readHead_J54]
  split
  · split
    · split
      · exact dh_59 hr hd
      · exact dh_59 hr hd
    · exact dh_59 hr hd
  · exact dh_59 hr hd
