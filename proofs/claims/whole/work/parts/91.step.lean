/-! a step of the script keeps the state -/
section S91
variable {C M W : ST} {K : KT} {O : Nat → Int64} {N L : Nat} {G : GT} {xs : Nat → Int32} {i x0 x1 x2 x3 x4 x5 : Int32}
set_option maxRecDepth 4000 in
theorem f_step (h : REL K C M G W) (h0 : jsx L xs i = some x0) (h1 : jsx L xs (i + 1) = some x1) (h2 : jsx L xs (i + 2) = some x2) (h3 : jsx L xs (i + 3) = some x3) (h4 : jsx L xs (i + 4) = some x4) (h5 : jsx L xs (i + 5) = some x5) (hN : 10000 ≤ N) : ∃ K' C' M' G' W' O', f_L_step N L xs 0 71 111 i (HP C M K O) = some (HP C' M' K' O') ∧ REL K' C' M' G' W' := by
  unfold f_L_step
  rw [bnd h0]
  by_cases z0 : x0 &&& 63 = 0
  · rw [if_pos z0]; exact st_0 h h1 h2 h3 h4 h5 hN
  rw [if_neg z0]
  by_cases z1 : x0 &&& 63 = 1
  · rw [if_pos z1]; exact st_1 h h1 hN
  rw [if_neg z1]
  by_cases z2 : x0 &&& 63 = 2
  · rw [if_pos z2]; exact st_2 h  hN
  rw [if_neg z2]
  by_cases z3 : x0 &&& 63 = 3
  · rw [if_pos z3]; exact st_3 h h1 hN
  rw [if_neg z3]
  by_cases z4 : x0 &&& 63 = 4
  · rw [if_pos z4]; exact st_4 h h1 h2 hN
  rw [if_neg z4]
  by_cases z5 : x0 &&& 63 = 5
  · rw [if_pos z5]; exact st_5 h h1 h2 hN
  rw [if_neg z5]
  by_cases z6 : x0 &&& 63 = 6
  · rw [if_pos z6]; exact st_6 h h1 hN
  rw [if_neg z6]
  by_cases z7 : x0 &&& 63 = 7
  · rw [if_pos z7]; exact st_7 h h1 hN
  rw [if_neg z7]
  by_cases z8 : x0 &&& 63 = 8
  · rw [if_pos z8]; exact st_8 h h1 h2 hN
  rw [if_neg z8]
  by_cases z9 : x0 &&& 63 = 9
  · rw [if_pos z9]; exact st_9 h h1 h2 hN
  rw [if_neg z9]
  by_cases z10 : x0 &&& 63 = 10
  · rw [if_pos z10]; exact st_10 h h1 h2 h3 hN
  rw [if_neg z10]
  by_cases z11 : x0 &&& 63 = 11
  · rw [if_pos z11]; exact st_11 h  hN
  rw [if_neg z11]
  by_cases z12 : x0 &&& 63 = 12
  · rw [if_pos z12]; exact st_12 h h1 h2 h3 hN
  rw [if_neg z12]
  by_cases z13 : x0 &&& 63 = 13
  · rw [if_pos z13]; exact st_13 h h1 h2 hN
  rw [if_neg z13]
  by_cases z14 : x0 &&& 63 = 14
  · rw [if_pos z14]; exact st_14 h h1 h2 hN
  rw [if_neg z14]
  by_cases z15 : x0 &&& 63 = 15
  · rw [if_pos z15]; exact st_15 h h1 h2 hN
  rw [if_neg z15]
  by_cases z16 : x0 &&& 63 = 16
  · rw [if_pos z16]; exact st_16 h  hN
  rw [if_neg z16]
  by_cases z17 : x0 &&& 63 = 17
  · rw [if_pos z17]; exact st_17 h h1 hN
  rw [if_neg z17]
  by_cases z18 : x0 &&& 63 = 18
  · rw [if_pos z18]; exact st_18 h h1 h2 h3 hN
  rw [if_neg z18]
  by_cases z19 : x0 &&& 63 = 19
  · rw [if_pos z19]; exact st_19 h h1 h2 hN
  rw [if_neg z19]
  by_cases z20 : x0 &&& 63 = 20
  · rw [if_pos z20]; exact st_20 h h1 hN
  rw [if_neg z20]
  by_cases z21 : x0 &&& 63 = 21
  · rw [if_pos z21]; exact st_21 h h1 h2 hN
  rw [if_neg z21]
  by_cases z22 : x0 &&& 63 = 22
  · rw [if_pos z22]; exact st_22 h h1 h2 h3 hN
  rw [if_neg z22]
  by_cases z23 : x0 &&& 63 = 23
  · rw [if_pos z23]; exact st_23 h h1 hN
  rw [if_neg z23]
  by_cases z24 : x0 &&& 63 = 24
  · rw [if_pos z24]; exact st_24 h h1 hN
  rw [if_neg z24]
  by_cases z25 : x0 &&& 63 = 25
  · rw [if_pos z25]; exact st_25 h h1 hN
  rw [if_neg z25]
  by_cases z26 : x0 &&& 63 = 26
  · rw [if_pos z26]; exact st_26 h h1 h2 hN
  rw [if_neg z26]
  by_cases z27 : x0 &&& 63 = 27
  · rw [if_pos z27]; exact st_27 h h1 h2 hN
  rw [if_neg z27]
  by_cases z28 : x0 &&& 63 = 28
  · rw [if_pos z28]; exact st_28 h h1 h2 hN
  rw [if_neg z28]
  by_cases z29 : x0 &&& 63 = 29
  · rw [if_pos z29]; exact st_29 h h1 h2 h3 hN
  rw [if_neg z29]
  by_cases z30 : x0 &&& 63 = 30
  · rw [if_pos z30]; exact st_30 h h1 h2 h3 hN
  rw [if_neg z30]
  by_cases z31 : x0 &&& 63 = 31
  · rw [if_pos z31]; exact st_31 h h1 hN
  rw [if_neg z31]
  by_cases z32 : x0 &&& 63 = 32
  · rw [if_pos z32]; exact st_32 h h1 hN
  rw [if_neg z32]
  by_cases z33 : x0 &&& 63 = 33
  · rw [if_pos z33]; exact st_33 h  hN
  rw [if_neg z33]
  by_cases z34 : x0 &&& 63 = 34
  · rw [if_pos z34]; exact st_34 h h1 h2 h3 hN
  rw [if_neg z34]
  by_cases z35 : x0 &&& 63 = 35
  · rw [if_pos z35]; exact st_35 h h1 h2 h3 hN
  rw [if_neg z35]
  by_cases z36 : x0 &&& 63 = 36
  · rw [if_pos z36]; exact st_36 h h1 h2 h3 hN
  rw [if_neg z36]
  by_cases z37 : x0 &&& 63 = 37
  · rw [if_pos z37]; exact st_37 h  hN
  rw [if_neg z37]
  by_cases z38 : x0 &&& 63 = 38
  · rw [if_pos z38]; exact st_38 h  hN
  rw [if_neg z38]
  exact ⟨K, C, M, G, W, O, rfl, h⟩
end S91
