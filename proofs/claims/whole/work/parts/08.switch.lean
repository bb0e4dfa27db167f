-- switches: which numbers are left for the default (written by program)
theorem q_out_0_2 {x : Int32} (h0 : ¬ x = 0) (h1 : ¬ x = 1) (h2 : ¬ x = 2) : x.toInt < 0 ∨ 2 < x.toInt := by
  have g0 : x.toInt ≠ 0 := fun e => h0 (Int32.toInt_inj.mp (e.trans (by decide)))
  have g1 : x.toInt ≠ 1 := fun e => h1 (Int32.toInt_inj.mp (e.trans (by decide)))
  have g2 : x.toInt ≠ 2 := fun e => h2 (Int32.toInt_inj.mp (e.trans (by decide)))
  omega
theorem q_out_0_3 {x : Int32} (h0 : ¬ x = 0) (h1 : ¬ x = 1) (h2 : ¬ x = 2) (h3 : ¬ x = 3) : x.toInt < 0 ∨ 3 < x.toInt := by
  have g0 : x.toInt ≠ 0 := fun e => h0 (Int32.toInt_inj.mp (e.trans (by decide)))
  have g1 : x.toInt ≠ 1 := fun e => h1 (Int32.toInt_inj.mp (e.trans (by decide)))
  have g2 : x.toInt ≠ 2 := fun e => h2 (Int32.toInt_inj.mp (e.trans (by decide)))
  have g3 : x.toInt ≠ 3 := fun e => h3 (Int32.toInt_inj.mp (e.trans (by decide)))
  omega
theorem q_out_0_4 {x : Int32} (h0 : ¬ x = 0) (h1 : ¬ x = 1) (h2 : ¬ x = 2) (h3 : ¬ x = 3) (h4 : ¬ x = 4) : x.toInt < 0 ∨ 4 < x.toInt := by
  have g0 : x.toInt ≠ 0 := fun e => h0 (Int32.toInt_inj.mp (e.trans (by decide)))
  have g1 : x.toInt ≠ 1 := fun e => h1 (Int32.toInt_inj.mp (e.trans (by decide)))
  have g2 : x.toInt ≠ 2 := fun e => h2 (Int32.toInt_inj.mp (e.trans (by decide)))
  have g3 : x.toInt ≠ 3 := fun e => h3 (Int32.toInt_inj.mp (e.trans (by decide)))
  have g4 : x.toInt ≠ 4 := fun e => h4 (Int32.toInt_inj.mp (e.trans (by decide)))
  omega
theorem q_out_0_8 {x : Int32} (h0 : ¬ x = 0) (h1 : ¬ x = 1) (h2 : ¬ x = 2) (h3 : ¬ x = 3) (h4 : ¬ x = 4) (h5 : ¬ x = 5) (h6 : ¬ x = 6) (h7 : ¬ x = 7) (h8 : ¬ x = 8) : x.toInt < 0 ∨ 8 < x.toInt := by
  have g0 : x.toInt ≠ 0 := fun e => h0 (Int32.toInt_inj.mp (e.trans (by decide)))
  have g1 : x.toInt ≠ 1 := fun e => h1 (Int32.toInt_inj.mp (e.trans (by decide)))
  have g2 : x.toInt ≠ 2 := fun e => h2 (Int32.toInt_inj.mp (e.trans (by decide)))
  have g3 : x.toInt ≠ 3 := fun e => h3 (Int32.toInt_inj.mp (e.trans (by decide)))
  have g4 : x.toInt ≠ 4 := fun e => h4 (Int32.toInt_inj.mp (e.trans (by decide)))
  have g5 : x.toInt ≠ 5 := fun e => h5 (Int32.toInt_inj.mp (e.trans (by decide)))
  have g6 : x.toInt ≠ 6 := fun e => h6 (Int32.toInt_inj.mp (e.trans (by decide)))
  have g7 : x.toInt ≠ 7 := fun e => h7 (Int32.toInt_inj.mp (e.trans (by decide)))
  have g8 : x.toInt ≠ 8 := fun e => h8 (Int32.toInt_inj.mp (e.trans (by decide)))
  omega
theorem q_out_107_119 {x : Int32} (h0 : ¬ x = 107) (h1 : ¬ x = 108) (h2 : ¬ x = 109) (h3 : ¬ x = 110) (h4 : ¬ x = 111) (h5 : ¬ x = 112) (h6 : ¬ x = 113) (h7 : ¬ x = 114) (h8 : ¬ x = 115) (h9 : ¬ x = 116) (h10 : ¬ x = 117) (h11 : ¬ x = 118) (h12 : ¬ x = 119) : x.toInt < 107 ∨ 119 < x.toInt := by
  have g0 : x.toInt ≠ 107 := fun e => h0 (Int32.toInt_inj.mp (e.trans (by decide)))
  have g1 : x.toInt ≠ 108 := fun e => h1 (Int32.toInt_inj.mp (e.trans (by decide)))
  have g2 : x.toInt ≠ 109 := fun e => h2 (Int32.toInt_inj.mp (e.trans (by decide)))
  have g3 : x.toInt ≠ 110 := fun e => h3 (Int32.toInt_inj.mp (e.trans (by decide)))
  have g4 : x.toInt ≠ 111 := fun e => h4 (Int32.toInt_inj.mp (e.trans (by decide)))
  have g5 : x.toInt ≠ 112 := fun e => h5 (Int32.toInt_inj.mp (e.trans (by decide)))
  have g6 : x.toInt ≠ 113 := fun e => h6 (Int32.toInt_inj.mp (e.trans (by decide)))
  have g7 : x.toInt ≠ 114 := fun e => h7 (Int32.toInt_inj.mp (e.trans (by decide)))
  have g8 : x.toInt ≠ 115 := fun e => h8 (Int32.toInt_inj.mp (e.trans (by decide)))
  have g9 : x.toInt ≠ 116 := fun e => h9 (Int32.toInt_inj.mp (e.trans (by decide)))
  have g10 : x.toInt ≠ 117 := fun e => h10 (Int32.toInt_inj.mp (e.trans (by decide)))
  have g11 : x.toInt ≠ 118 := fun e => h11 (Int32.toInt_inj.mp (e.trans (by decide)))
  have g12 : x.toInt ≠ 119 := fun e => h12 (Int32.toInt_inj.mp (e.trans (by decide)))
  omega
theorem q_look_107_110_119 {x : Int32} (h0 : ¬ x = 107) (h1 : ¬ x = 110) (h2 : ¬ x = 119) : Op.lookupswitch.offset (#[(107, 49), (110, 35), (119, 63)] : Array (Int × Int)).toList 83 x.toInt = 83 := by
  have g0 : ¬ x.toInt = 107 := fun e => h0 (Int32.toInt_inj.mp (e.trans (by decide)))
  have g1 : ¬ x.toInt = 110 := fun e => h1 (Int32.toInt_inj.mp (e.trans (by decide)))
  have g2 : ¬ x.toInt = 119 := fun e => h2 (Int32.toInt_inj.mp (e.trans (by decide)))
  have f (a b : Int) (q : ¬ a = b) : ¬ b = a := fun z => q z.symm
  simp [Op.lookupswitch.offset, g0, g1, g2, f _ _ g0, f _ _ g1, f _ _ g2]
