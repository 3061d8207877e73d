/-! a switch's default -/
theorem sw_ne {x v : Int32} {n : Int} (hv : v.toInt = n) (h : ¬ x = v) : x.toInt ≠ n := fun q => h (Int32.toInt_inj.mp (q.trans hv.symm))
theorem sw_out_0_2 {x : Int32} (c0 : ¬ x = 0) (c1 : ¬ x = 1) (c2 : ¬ x = 2) : x.toInt < 0 ∨ 2 < x.toInt := by
  have h0 := sw_ne (n := 0) (by decide) c0
  have h1 := sw_ne (n := 1) (by decide) c1
  have h2 := sw_ne (n := 2) (by decide) c2
  omega
theorem sw_out_0_5 {x : Int32} (c0 : ¬ x = 0) (c1 : ¬ x = 1) (c2 : ¬ x = 2) (c3 : ¬ x = 3) (c4 : ¬ x = 4) (c5 : ¬ x = 5) : x.toInt < 0 ∨ 5 < x.toInt := by
  have h0 := sw_ne (n := 0) (by decide) c0
  have h1 := sw_ne (n := 1) (by decide) c1
  have h2 := sw_ne (n := 2) (by decide) c2
  have h3 := sw_ne (n := 3) (by decide) c3
  have h4 := sw_ne (n := 4) (by decide) c4
  have h5 := sw_ne (n := 5) (by decide) c5
  omega
theorem sw_out_0_6 {x : Int32} (c0 : ¬ x = 0) (c1 : ¬ x = 1) (c2 : ¬ x = 2) (c3 : ¬ x = 3) (c4 : ¬ x = 4) (c5 : ¬ x = 5) (c6 : ¬ x = 6) : x.toInt < 0 ∨ 6 < x.toInt := by
  have h0 := sw_ne (n := 0) (by decide) c0
  have h1 := sw_ne (n := 1) (by decide) c1
  have h2 := sw_ne (n := 2) (by decide) c2
  have h3 := sw_ne (n := 3) (by decide) c3
  have h4 := sw_ne (n := 4) (by decide) c4
  have h5 := sw_ne (n := 5) (by decide) c5
  have h6 := sw_ne (n := 6) (by decide) c6
  omega
theorem sw_out_0_13 {x : Int32} (c0 : ¬ x = 0) (c1 : ¬ x = 1) (c2 : ¬ x = 2) (c3 : ¬ x = 3) (c4 : ¬ x = 4) (c5 : ¬ x = 5) (c6 : ¬ x = 6) (c7 : ¬ x = 7) (c8 : ¬ x = 8) (c9 : ¬ x = 9) (c10 : ¬ x = 10) (c11 : ¬ x = 11) (c12 : ¬ x = 12) (c13 : ¬ x = 13) : x.toInt < 0 ∨ 13 < x.toInt := by
  have h0 := sw_ne (n := 0) (by decide) c0
  have h1 := sw_ne (n := 1) (by decide) c1
  have h2 := sw_ne (n := 2) (by decide) c2
  have h3 := sw_ne (n := 3) (by decide) c3
  have h4 := sw_ne (n := 4) (by decide) c4
  have h5 := sw_ne (n := 5) (by decide) c5
  have h6 := sw_ne (n := 6) (by decide) c6
  have h7 := sw_ne (n := 7) (by decide) c7
  have h8 := sw_ne (n := 8) (by decide) c8
  have h9 := sw_ne (n := 9) (by decide) c9
  have h10 := sw_ne (n := 10) (by decide) c10
  have h11 := sw_ne (n := 11) (by decide) c11
  have h12 := sw_ne (n := 12) (by decide) c12
  have h13 := sw_ne (n := 13) (by decide) c13
  omega
