/-! the world that the two constructors leave: printed by wip/tools/emit_world.py -/
def mm_w0 : mm_W := ([], fun _ _ => none, fun _ _ => 0, fun _ _ => 0)
def mm_wn (w : mm_W) (a : Nat) : mm_W := (w.1 ++ [.inr (.inr a)], mm_z w.2.1 w.1.length (fun _ => none), mm_z w.2.2.1 w.1.length (fun _ => 0), mm_z w.2.2.2 w.1.length (fun _ => 0))
def mm_wB : mm_W := ((mm_run (fun _ => none) mm_rk mm_sw mm_tab 700 10 M_X10_init (0, mm_en [.ref 0] M_X10_init.2.1, [], mm_wn mm_w0 10)).map (fun z => z.2)).getD mm_w0
def mm_wD : mm_W := ((mm_run (fun _ => none) mm_rk mm_sw mm_tab 700 10 M_X11_init (0, mm_en [.ref 145] M_X11_init.2.1, [], mm_wn mm_wB 11)).map (fun z => z.2)).getD mm_w0
theorem mm_wB_none : (mm_run (fun _ => none) mm_rk mm_sw mm_tab 700 10 M_X10_init (0, mm_en [.ref 0] M_X10_init.2.1, [], mm_wn mm_w0 10)).map (fun z => z.1) = some none := by decide +kernel
theorem mm_wD_none : (mm_run (fun _ => none) mm_rk mm_sw mm_tab 700 10 M_X11_init (0, mm_en [.ref 145] M_X11_init.2.1, [], mm_wn mm_wB 11)).map (fun z => z.1) = some none := by decide +kernel
theorem mm_some_of {x : Option (Option Value × mm_W)} (h : x.map (fun z => z.1) = some none) : x = some (none, (x.map (fun z => z.2)).getD mm_w0) := by
  obtain ⟨z, rfl, h2⟩ := Option.map_eq_some_iff.mp h
  obtain ⟨r, w⟩ := z
  cases h2
  rfl
theorem mm_wB_run : mm_run (fun _ => none) mm_rk mm_sw mm_tab 700 10 M_X10_init (0, mm_en [.ref 0] M_X10_init.2.1, [], mm_wn mm_w0 10) = some (none, mm_wB) := mm_some_of mm_wB_none
theorem mm_wD_run : mm_run (fun _ => none) mm_rk mm_sw mm_tab 700 10 M_X11_init (0, mm_en [.ref 145] M_X11_init.2.1, [], mm_wn mm_wB 11) = some (none, mm_wD) := mm_some_of mm_wD_none
set_option maxRecDepth 20000 in
def mm_G0 : mm_G := [.inr (.inr 10), .inr (.inl (8, 2)), .inr (.inr 5), .inl 10, .inl 8, .inl 8, .inl 8, .inl 3, .inl 8, .inl 8, .inl 4, .inr (.inr 2), .inl 240, .inl 240, .inl 30, .inr (.inr 0), .inl 8, .inl 8, .inl 8, .inl 8, .inl 8, .inl 8, .inl 12, .inr (.inr 0), .inl 8, .inl 8, .inl 8, .inl 8, .inl 8, .inl 8, .inl 12, .inr (.inr 4), .inr (.inr 7), .inl 8, .inl 8, .inl 8, .inr (.inr 1), .inl 100, .inl 8, .inl 32, .inr (.inr 9), .inr (.inl (0, 11)), .inr (.inr 0), .inl 8, .inl 8, .inl 8, .inl 8, .inl 8, .inl 8, .inl 12, .inr (.inr 0), .inl 8, .inl 8, .inl 8, .inl 8, .inl 8, .inl 8, .inl 12, .inr (.inr 0), .inl 8, .inl 8, .inl 8, .inl 8, .inl 8, .inl 8, .inl 12, .inr (.inr 0), .inl 8, .inl 8, .inl 8, .inl 8, .inl 8, .inl 8, .inl 12, .inr (.inr 0), .inl 8, .inl 8, .inl 8, .inl 8, .inl 8, .inl 8, .inl 12, .inr (.inr 0), .inl 8, .inl 8, .inl 8, .inl 8, .inl 8, .inl 8, .inl 12, .inr (.inr 0), .inl 8, .inl 8, .inl 8, .inl 8, .inl 8, .inl 8, .inl 12, .inr (.inr 0), .inl 8, .inl 8, .inl 8, .inl 8, .inl 8, .inl 8, .inl 12, .inr (.inr 0), .inl 8, .inl 8, .inl 8, .inl 8, .inl 8, .inl 8, .inl 12, .inr (.inr 0), .inl 8, .inl 8, .inl 8, .inl 8, .inl 8, .inl 8, .inl 12, .inr (.inr 0), .inl 8, .inl 8, .inl 8, .inl 8, .inl 8, .inl 8, .inl 12, .inr (.inr 3), .inl 8, .inr (.inl (6, 4)), .inr (.inr 8), .inl 10, .inr (.inr 8), .inl 39, .inr (.inr 6), .inl 60, .inr (.inr 6), .inl 60, .inr (.inr 6), .inl 60, .inr (.inr 6), .inl 60, .inr (.inr 11), .inl 4, .inl 4, .inl 240, .inl 60, .inl 80, .inl 2, .inl 10, .inl 24, .inl 3, .inl 16, .inl 4, .inl 8, .inl 8, .inl 8, .inl 8, .inl 8, .inl 240, .inl 240, .inl 8, .inl 8, .inl 8, .inl 24, .inl 32]
theorem mm_wB_len : mm_wB.1.length = 145 := by decide +kernel
theorem mm_wD_G : mm_wD.1 = mm_G0 := by decide +kernel
def mm_R0 : Nat → Nat → Option Nat := mm_wD.2.1
def mm_I0 : Nat → Nat → Int32 := mm_wD.2.2.1
def mm_J0 : Nat → Nat → Int64 := mm_wD.2.2.2
theorem mm_eta4 (w : mm_W) {G : mm_G} (h : w.1 = G) : w = (G, w.2.1, w.2.2.1, w.2.2.2) := by subst h; rfl
theorem mm_wD_eq : mm_wD = (mm_G0, mm_R0, mm_I0, mm_J0) := mm_eta4 mm_wD mm_wD_G
set_option maxRecDepth 20000 in
def mm_Rp : List (Nat × Nat × Nat) := [(0, 0, 1), (0, 1, 2), (0, 2, 11), (0, 3, 23), (0, 4, 31), (0, 5, 32), (0, 6, 36), (0, 7, 40), (0, 8, 130), (0, 9, 132), (1, 0, 133), (1, 1, 135), (2, 1, 3), (2, 3, 4), (2, 4, 5), (2, 5, 6), (2, 6, 7), (2, 8, 8), (2, 9, 9), (2, 11, 10), (11, 0, 2), (11, 1, 15), (11, 2, 12), (11, 3, 13), (11, 4, 14), (15, 0, 2), (15, 1, 16), (15, 2, 17), (15, 3, 18), (15, 4, 19), (15, 5, 20), (15, 6, 21), (15, 7, 22), (23, 0, 2), (23, 1, 24), (23, 2, 25), (23, 3, 26), (23, 4, 27), (23, 5, 28), (23, 6, 29), (23, 7, 30), (31, 0, 2), (31, 1, 23), (32, 0, 2), (32, 1, 33), (32, 2, 34), (32, 3, 35), (36, 0, 2), (36, 1, 32), (36, 2, 23), (36, 3, 37), (36, 5, 38), (36, 6, 39), (40, 0, 41), (41, 0, 42), (41, 1, 50), (41, 2, 58), (41, 3, 66), (41, 4, 74), (41, 5, 82), (41, 6, 90), (41, 7, 98), (41, 8, 106), (41, 9, 114), (41, 10, 122), (42, 0, 2), (42, 1, 43), (42, 2, 44), (42, 3, 45), (42, 4, 46), (42, 5, 47), (42, 6, 48), (42, 7, 49), (50, 0, 2), (50, 1, 51), (50, 2, 52), (50, 3, 53), (50, 4, 54), (50, 5, 55), (50, 6, 56), (50, 7, 57), (58, 0, 2), (58, 1, 59), (58, 2, 60), (58, 3, 61), (58, 4, 62), (58, 5, 63), (58, 6, 64), (58, 7, 65), (66, 0, 2), (66, 1, 67), (66, 2, 68), (66, 3, 69), (66, 4, 70), (66, 5, 71), (66, 6, 72), (66, 7, 73), (74, 0, 2), (74, 1, 75), (74, 2, 76), (74, 3, 77), (74, 4, 78), (74, 5, 79), (74, 6, 80), (74, 7, 81), (82, 0, 2), (82, 1, 83), (82, 2, 84), (82, 3, 85), (82, 4, 86), (82, 5, 87), (82, 6, 88), (82, 7, 89), (90, 0, 2), (90, 1, 91), (90, 2, 92), (90, 3, 93), (90, 4, 94), (90, 5, 95), (90, 6, 96), (90, 7, 97), (98, 0, 2), (98, 1, 99), (98, 2, 100), (98, 3, 101), (98, 4, 102), (98, 5, 103), (98, 6, 104), (98, 7, 105), (106, 0, 2), (106, 1, 107), (106, 2, 108), (106, 3, 109), (106, 4, 110), (106, 5, 111), (106, 6, 112), (106, 7, 113), (114, 0, 2), (114, 1, 115), (114, 2, 116), (114, 3, 117), (114, 4, 118), (114, 5, 119), (114, 6, 120), (114, 7, 121), (122, 0, 2), (122, 1, 123), (122, 2, 124), (122, 3, 125), (122, 4, 126), (122, 5, 127), (122, 6, 128), (122, 7, 129), (130, 0, 2), (130, 1, 23), (130, 2, 131), (132, 0, 137), (132, 1, 139), (132, 2, 141), (132, 3, 143), (133, 0, 134), (135, 0, 136), (137, 2, 138), (139, 2, 140), (141, 2, 142), (143, 2, 144), (145, 0, 146), (145, 1, 147), (145, 2, 148), (145, 3, 149), (145, 5, 150), (145, 6, 151), (145, 8, 152), (145, 10, 153), (145, 11, 154), (145, 13, 155), (145, 15, 156), (145, 16, 157), (145, 17, 158), (145, 18, 159), (145, 19, 160), (145, 20, 161), (145, 21, 162), (145, 22, 163), (145, 23, 164), (145, 24, 165), (145, 25, 166), (145, 28, 167), (145, 29, 168)]
theorem mm_Rf0 : mm_Rp.all (fun t => decide (mm_R0 t.1 t.2.1 = some t.2.2)) = true := by decide +kernel
theorem mm_Rf {k j v : Nat} (h : (k, j, v) ∈ mm_Rp) : mm_R0 k j = some v := by
  have h2 := List.all_eq_true.mp mm_Rf0 _ h
  simpa using h2
theorem g_0 : mm_G0[0]? = some (.inr (.inr 10)) ∧ 0 < 1000 := ⟨rfl, by decide⟩
theorem r_0_0 : mm_R0 0 0 = some 1 := mm_Rf (by decide +kernel)
theorem r_0_1 : mm_R0 0 1 = some 2 := mm_Rf (by decide +kernel)
theorem r_0_2 : mm_R0 0 2 = some 11 := mm_Rf (by decide +kernel)
theorem r_0_3 : mm_R0 0 3 = some 23 := mm_Rf (by decide +kernel)
theorem r_0_4 : mm_R0 0 4 = some 31 := mm_Rf (by decide +kernel)
theorem r_0_5 : mm_R0 0 5 = some 32 := mm_Rf (by decide +kernel)
theorem r_0_6 : mm_R0 0 6 = some 36 := mm_Rf (by decide +kernel)
theorem r_0_7 : mm_R0 0 7 = some 40 := mm_Rf (by decide +kernel)
theorem r_0_8 : mm_R0 0 8 = some 130 := mm_Rf (by decide +kernel)
theorem r_0_9 : mm_R0 0 9 = some 132 := mm_Rf (by decide +kernel)
theorem g_1 : mm_G0[1]? = some (.inr (.inl (8, 2))) ∧ 1 < 1000 := ⟨rfl, by decide⟩
theorem g_2 : mm_G0[2]? = some (.inr (.inr 5)) ∧ 2 < 1000 := ⟨rfl, by decide⟩
theorem r_2_1 : mm_R0 2 1 = some 3 := mm_Rf (by decide +kernel)
theorem r_2_3 : mm_R0 2 3 = some 4 := mm_Rf (by decide +kernel)
theorem r_2_4 : mm_R0 2 4 = some 5 := mm_Rf (by decide +kernel)
theorem r_2_5 : mm_R0 2 5 = some 6 := mm_Rf (by decide +kernel)
theorem r_2_6 : mm_R0 2 6 = some 7 := mm_Rf (by decide +kernel)
theorem r_2_8 : mm_R0 2 8 = some 8 := mm_Rf (by decide +kernel)
theorem r_2_9 : mm_R0 2 9 = some 9 := mm_Rf (by decide +kernel)
theorem r_2_11 : mm_R0 2 11 = some 10 := mm_Rf (by decide +kernel)
theorem g_3 : mm_G0[3]? = some (.inl 10) ∧ 3 < 1000 := ⟨rfl, by decide⟩
theorem g_4 : mm_G0[4]? = some (.inl 8) ∧ 4 < 1000 := ⟨rfl, by decide⟩
theorem g_5 : mm_G0[5]? = some (.inl 8) ∧ 5 < 1000 := ⟨rfl, by decide⟩
theorem g_6 : mm_G0[6]? = some (.inl 8) ∧ 6 < 1000 := ⟨rfl, by decide⟩
theorem g_7 : mm_G0[7]? = some (.inl 3) ∧ 7 < 1000 := ⟨rfl, by decide⟩
theorem g_8 : mm_G0[8]? = some (.inl 8) ∧ 8 < 1000 := ⟨rfl, by decide⟩
theorem g_9 : mm_G0[9]? = some (.inl 8) ∧ 9 < 1000 := ⟨rfl, by decide⟩
theorem g_10 : mm_G0[10]? = some (.inl 4) ∧ 10 < 1000 := ⟨rfl, by decide⟩
theorem g_11 : mm_G0[11]? = some (.inr (.inr 2)) ∧ 11 < 1000 := ⟨rfl, by decide⟩
theorem r_11_0 : mm_R0 11 0 = some 2 := mm_Rf (by decide +kernel)
theorem r_11_1 : mm_R0 11 1 = some 15 := mm_Rf (by decide +kernel)
theorem r_11_2 : mm_R0 11 2 = some 12 := mm_Rf (by decide +kernel)
theorem r_11_3 : mm_R0 11 3 = some 13 := mm_Rf (by decide +kernel)
theorem r_11_4 : mm_R0 11 4 = some 14 := mm_Rf (by decide +kernel)
theorem g_12 : mm_G0[12]? = some (.inl 240) ∧ 12 < 1000 := ⟨rfl, by decide⟩
theorem g_13 : mm_G0[13]? = some (.inl 240) ∧ 13 < 1000 := ⟨rfl, by decide⟩
theorem g_14 : mm_G0[14]? = some (.inl 30) ∧ 14 < 1000 := ⟨rfl, by decide⟩
theorem g_15 : mm_G0[15]? = some (.inr (.inr 0)) ∧ 15 < 1000 := ⟨rfl, by decide⟩
theorem r_15_0 : mm_R0 15 0 = some 2 := mm_Rf (by decide +kernel)
theorem r_15_1 : mm_R0 15 1 = some 16 := mm_Rf (by decide +kernel)
theorem r_15_2 : mm_R0 15 2 = some 17 := mm_Rf (by decide +kernel)
theorem r_15_3 : mm_R0 15 3 = some 18 := mm_Rf (by decide +kernel)
theorem r_15_4 : mm_R0 15 4 = some 19 := mm_Rf (by decide +kernel)
theorem r_15_5 : mm_R0 15 5 = some 20 := mm_Rf (by decide +kernel)
theorem r_15_6 : mm_R0 15 6 = some 21 := mm_Rf (by decide +kernel)
theorem r_15_7 : mm_R0 15 7 = some 22 := mm_Rf (by decide +kernel)
theorem g_16 : mm_G0[16]? = some (.inl 8) ∧ 16 < 1000 := ⟨rfl, by decide⟩
theorem g_17 : mm_G0[17]? = some (.inl 8) ∧ 17 < 1000 := ⟨rfl, by decide⟩
theorem g_18 : mm_G0[18]? = some (.inl 8) ∧ 18 < 1000 := ⟨rfl, by decide⟩
theorem g_19 : mm_G0[19]? = some (.inl 8) ∧ 19 < 1000 := ⟨rfl, by decide⟩
theorem g_20 : mm_G0[20]? = some (.inl 8) ∧ 20 < 1000 := ⟨rfl, by decide⟩
theorem g_21 : mm_G0[21]? = some (.inl 8) ∧ 21 < 1000 := ⟨rfl, by decide⟩
theorem g_22 : mm_G0[22]? = some (.inl 12) ∧ 22 < 1000 := ⟨rfl, by decide⟩
theorem g_23 : mm_G0[23]? = some (.inr (.inr 0)) ∧ 23 < 1000 := ⟨rfl, by decide⟩
theorem r_23_0 : mm_R0 23 0 = some 2 := mm_Rf (by decide +kernel)
theorem r_23_1 : mm_R0 23 1 = some 24 := mm_Rf (by decide +kernel)
theorem r_23_2 : mm_R0 23 2 = some 25 := mm_Rf (by decide +kernel)
theorem r_23_3 : mm_R0 23 3 = some 26 := mm_Rf (by decide +kernel)
theorem r_23_4 : mm_R0 23 4 = some 27 := mm_Rf (by decide +kernel)
theorem r_23_5 : mm_R0 23 5 = some 28 := mm_Rf (by decide +kernel)
theorem r_23_6 : mm_R0 23 6 = some 29 := mm_Rf (by decide +kernel)
theorem r_23_7 : mm_R0 23 7 = some 30 := mm_Rf (by decide +kernel)
theorem g_24 : mm_G0[24]? = some (.inl 8) ∧ 24 < 1000 := ⟨rfl, by decide⟩
theorem g_25 : mm_G0[25]? = some (.inl 8) ∧ 25 < 1000 := ⟨rfl, by decide⟩
theorem g_26 : mm_G0[26]? = some (.inl 8) ∧ 26 < 1000 := ⟨rfl, by decide⟩
theorem g_27 : mm_G0[27]? = some (.inl 8) ∧ 27 < 1000 := ⟨rfl, by decide⟩
theorem g_28 : mm_G0[28]? = some (.inl 8) ∧ 28 < 1000 := ⟨rfl, by decide⟩
theorem g_29 : mm_G0[29]? = some (.inl 8) ∧ 29 < 1000 := ⟨rfl, by decide⟩
theorem g_30 : mm_G0[30]? = some (.inl 12) ∧ 30 < 1000 := ⟨rfl, by decide⟩
theorem g_31 : mm_G0[31]? = some (.inr (.inr 4)) ∧ 31 < 1000 := ⟨rfl, by decide⟩
theorem r_31_0 : mm_R0 31 0 = some 2 := mm_Rf (by decide +kernel)
theorem r_31_1 : mm_R0 31 1 = some 23 := mm_Rf (by decide +kernel)
theorem g_32 : mm_G0[32]? = some (.inr (.inr 7)) ∧ 32 < 1000 := ⟨rfl, by decide⟩
theorem r_32_0 : mm_R0 32 0 = some 2 := mm_Rf (by decide +kernel)
theorem r_32_1 : mm_R0 32 1 = some 33 := mm_Rf (by decide +kernel)
theorem r_32_2 : mm_R0 32 2 = some 34 := mm_Rf (by decide +kernel)
theorem r_32_3 : mm_R0 32 3 = some 35 := mm_Rf (by decide +kernel)
theorem g_33 : mm_G0[33]? = some (.inl 8) ∧ 33 < 1000 := ⟨rfl, by decide⟩
theorem g_34 : mm_G0[34]? = some (.inl 8) ∧ 34 < 1000 := ⟨rfl, by decide⟩
theorem g_35 : mm_G0[35]? = some (.inl 8) ∧ 35 < 1000 := ⟨rfl, by decide⟩
theorem g_36 : mm_G0[36]? = some (.inr (.inr 1)) ∧ 36 < 1000 := ⟨rfl, by decide⟩
theorem r_36_0 : mm_R0 36 0 = some 2 := mm_Rf (by decide +kernel)
theorem r_36_1 : mm_R0 36 1 = some 32 := mm_Rf (by decide +kernel)
theorem r_36_2 : mm_R0 36 2 = some 23 := mm_Rf (by decide +kernel)
theorem r_36_3 : mm_R0 36 3 = some 37 := mm_Rf (by decide +kernel)
theorem r_36_5 : mm_R0 36 5 = some 38 := mm_Rf (by decide +kernel)
theorem r_36_6 : mm_R0 36 6 = some 39 := mm_Rf (by decide +kernel)
theorem g_37 : mm_G0[37]? = some (.inl 100) ∧ 37 < 1000 := ⟨rfl, by decide⟩
theorem g_38 : mm_G0[38]? = some (.inl 8) ∧ 38 < 1000 := ⟨rfl, by decide⟩
theorem g_39 : mm_G0[39]? = some (.inl 32) ∧ 39 < 1000 := ⟨rfl, by decide⟩
theorem g_40 : mm_G0[40]? = some (.inr (.inr 9)) ∧ 40 < 1000 := ⟨rfl, by decide⟩
theorem r_40_0 : mm_R0 40 0 = some 41 := mm_Rf (by decide +kernel)
theorem g_41 : mm_G0[41]? = some (.inr (.inl (0, 11))) ∧ 41 < 1000 := ⟨rfl, by decide⟩
theorem g_42 : mm_G0[42]? = some (.inr (.inr 0)) ∧ 42 < 1000 := ⟨rfl, by decide⟩
theorem r_42_0 : mm_R0 42 0 = some 2 := mm_Rf (by decide +kernel)
theorem r_42_1 : mm_R0 42 1 = some 43 := mm_Rf (by decide +kernel)
theorem r_42_2 : mm_R0 42 2 = some 44 := mm_Rf (by decide +kernel)
theorem r_42_3 : mm_R0 42 3 = some 45 := mm_Rf (by decide +kernel)
theorem r_42_4 : mm_R0 42 4 = some 46 := mm_Rf (by decide +kernel)
theorem r_42_5 : mm_R0 42 5 = some 47 := mm_Rf (by decide +kernel)
theorem r_42_6 : mm_R0 42 6 = some 48 := mm_Rf (by decide +kernel)
theorem r_42_7 : mm_R0 42 7 = some 49 := mm_Rf (by decide +kernel)
theorem g_43 : mm_G0[43]? = some (.inl 8) ∧ 43 < 1000 := ⟨rfl, by decide⟩
theorem g_44 : mm_G0[44]? = some (.inl 8) ∧ 44 < 1000 := ⟨rfl, by decide⟩
theorem g_45 : mm_G0[45]? = some (.inl 8) ∧ 45 < 1000 := ⟨rfl, by decide⟩
theorem g_46 : mm_G0[46]? = some (.inl 8) ∧ 46 < 1000 := ⟨rfl, by decide⟩
theorem g_47 : mm_G0[47]? = some (.inl 8) ∧ 47 < 1000 := ⟨rfl, by decide⟩
theorem g_48 : mm_G0[48]? = some (.inl 8) ∧ 48 < 1000 := ⟨rfl, by decide⟩
theorem g_49 : mm_G0[49]? = some (.inl 12) ∧ 49 < 1000 := ⟨rfl, by decide⟩
theorem g_50 : mm_G0[50]? = some (.inr (.inr 0)) ∧ 50 < 1000 := ⟨rfl, by decide⟩
theorem r_50_0 : mm_R0 50 0 = some 2 := mm_Rf (by decide +kernel)
theorem r_50_1 : mm_R0 50 1 = some 51 := mm_Rf (by decide +kernel)
theorem r_50_2 : mm_R0 50 2 = some 52 := mm_Rf (by decide +kernel)
theorem r_50_3 : mm_R0 50 3 = some 53 := mm_Rf (by decide +kernel)
theorem r_50_4 : mm_R0 50 4 = some 54 := mm_Rf (by decide +kernel)
theorem r_50_5 : mm_R0 50 5 = some 55 := mm_Rf (by decide +kernel)
theorem r_50_6 : mm_R0 50 6 = some 56 := mm_Rf (by decide +kernel)
theorem r_50_7 : mm_R0 50 7 = some 57 := mm_Rf (by decide +kernel)
theorem g_51 : mm_G0[51]? = some (.inl 8) ∧ 51 < 1000 := ⟨rfl, by decide⟩
theorem g_52 : mm_G0[52]? = some (.inl 8) ∧ 52 < 1000 := ⟨rfl, by decide⟩
theorem g_53 : mm_G0[53]? = some (.inl 8) ∧ 53 < 1000 := ⟨rfl, by decide⟩
theorem g_54 : mm_G0[54]? = some (.inl 8) ∧ 54 < 1000 := ⟨rfl, by decide⟩
theorem g_55 : mm_G0[55]? = some (.inl 8) ∧ 55 < 1000 := ⟨rfl, by decide⟩
theorem g_56 : mm_G0[56]? = some (.inl 8) ∧ 56 < 1000 := ⟨rfl, by decide⟩
theorem g_57 : mm_G0[57]? = some (.inl 12) ∧ 57 < 1000 := ⟨rfl, by decide⟩
theorem g_58 : mm_G0[58]? = some (.inr (.inr 0)) ∧ 58 < 1000 := ⟨rfl, by decide⟩
theorem r_58_0 : mm_R0 58 0 = some 2 := mm_Rf (by decide +kernel)
theorem r_58_1 : mm_R0 58 1 = some 59 := mm_Rf (by decide +kernel)
theorem r_58_2 : mm_R0 58 2 = some 60 := mm_Rf (by decide +kernel)
theorem r_58_3 : mm_R0 58 3 = some 61 := mm_Rf (by decide +kernel)
theorem r_58_4 : mm_R0 58 4 = some 62 := mm_Rf (by decide +kernel)
theorem r_58_5 : mm_R0 58 5 = some 63 := mm_Rf (by decide +kernel)
theorem r_58_6 : mm_R0 58 6 = some 64 := mm_Rf (by decide +kernel)
theorem r_58_7 : mm_R0 58 7 = some 65 := mm_Rf (by decide +kernel)
theorem g_59 : mm_G0[59]? = some (.inl 8) ∧ 59 < 1000 := ⟨rfl, by decide⟩
theorem g_60 : mm_G0[60]? = some (.inl 8) ∧ 60 < 1000 := ⟨rfl, by decide⟩
theorem g_61 : mm_G0[61]? = some (.inl 8) ∧ 61 < 1000 := ⟨rfl, by decide⟩
theorem g_62 : mm_G0[62]? = some (.inl 8) ∧ 62 < 1000 := ⟨rfl, by decide⟩
theorem g_63 : mm_G0[63]? = some (.inl 8) ∧ 63 < 1000 := ⟨rfl, by decide⟩
theorem g_64 : mm_G0[64]? = some (.inl 8) ∧ 64 < 1000 := ⟨rfl, by decide⟩
theorem g_65 : mm_G0[65]? = some (.inl 12) ∧ 65 < 1000 := ⟨rfl, by decide⟩
theorem g_66 : mm_G0[66]? = some (.inr (.inr 0)) ∧ 66 < 1000 := ⟨rfl, by decide⟩
theorem r_66_0 : mm_R0 66 0 = some 2 := mm_Rf (by decide +kernel)
theorem r_66_1 : mm_R0 66 1 = some 67 := mm_Rf (by decide +kernel)
theorem r_66_2 : mm_R0 66 2 = some 68 := mm_Rf (by decide +kernel)
theorem r_66_3 : mm_R0 66 3 = some 69 := mm_Rf (by decide +kernel)
theorem r_66_4 : mm_R0 66 4 = some 70 := mm_Rf (by decide +kernel)
theorem r_66_5 : mm_R0 66 5 = some 71 := mm_Rf (by decide +kernel)
theorem r_66_6 : mm_R0 66 6 = some 72 := mm_Rf (by decide +kernel)
theorem r_66_7 : mm_R0 66 7 = some 73 := mm_Rf (by decide +kernel)
theorem g_67 : mm_G0[67]? = some (.inl 8) ∧ 67 < 1000 := ⟨rfl, by decide⟩
theorem g_68 : mm_G0[68]? = some (.inl 8) ∧ 68 < 1000 := ⟨rfl, by decide⟩
theorem g_69 : mm_G0[69]? = some (.inl 8) ∧ 69 < 1000 := ⟨rfl, by decide⟩
theorem g_70 : mm_G0[70]? = some (.inl 8) ∧ 70 < 1000 := ⟨rfl, by decide⟩
theorem g_71 : mm_G0[71]? = some (.inl 8) ∧ 71 < 1000 := ⟨rfl, by decide⟩
theorem g_72 : mm_G0[72]? = some (.inl 8) ∧ 72 < 1000 := ⟨rfl, by decide⟩
theorem g_73 : mm_G0[73]? = some (.inl 12) ∧ 73 < 1000 := ⟨rfl, by decide⟩
theorem g_74 : mm_G0[74]? = some (.inr (.inr 0)) ∧ 74 < 1000 := ⟨rfl, by decide⟩
theorem r_74_0 : mm_R0 74 0 = some 2 := mm_Rf (by decide +kernel)
theorem r_74_1 : mm_R0 74 1 = some 75 := mm_Rf (by decide +kernel)
theorem r_74_2 : mm_R0 74 2 = some 76 := mm_Rf (by decide +kernel)
theorem r_74_3 : mm_R0 74 3 = some 77 := mm_Rf (by decide +kernel)
theorem r_74_4 : mm_R0 74 4 = some 78 := mm_Rf (by decide +kernel)
theorem r_74_5 : mm_R0 74 5 = some 79 := mm_Rf (by decide +kernel)
theorem r_74_6 : mm_R0 74 6 = some 80 := mm_Rf (by decide +kernel)
theorem r_74_7 : mm_R0 74 7 = some 81 := mm_Rf (by decide +kernel)
theorem g_75 : mm_G0[75]? = some (.inl 8) ∧ 75 < 1000 := ⟨rfl, by decide⟩
theorem g_76 : mm_G0[76]? = some (.inl 8) ∧ 76 < 1000 := ⟨rfl, by decide⟩
theorem g_77 : mm_G0[77]? = some (.inl 8) ∧ 77 < 1000 := ⟨rfl, by decide⟩
theorem g_78 : mm_G0[78]? = some (.inl 8) ∧ 78 < 1000 := ⟨rfl, by decide⟩
theorem g_79 : mm_G0[79]? = some (.inl 8) ∧ 79 < 1000 := ⟨rfl, by decide⟩
theorem g_80 : mm_G0[80]? = some (.inl 8) ∧ 80 < 1000 := ⟨rfl, by decide⟩
theorem g_81 : mm_G0[81]? = some (.inl 12) ∧ 81 < 1000 := ⟨rfl, by decide⟩
theorem g_82 : mm_G0[82]? = some (.inr (.inr 0)) ∧ 82 < 1000 := ⟨rfl, by decide⟩
theorem r_82_0 : mm_R0 82 0 = some 2 := mm_Rf (by decide +kernel)
theorem r_82_1 : mm_R0 82 1 = some 83 := mm_Rf (by decide +kernel)
theorem r_82_2 : mm_R0 82 2 = some 84 := mm_Rf (by decide +kernel)
theorem r_82_3 : mm_R0 82 3 = some 85 := mm_Rf (by decide +kernel)
theorem r_82_4 : mm_R0 82 4 = some 86 := mm_Rf (by decide +kernel)
theorem r_82_5 : mm_R0 82 5 = some 87 := mm_Rf (by decide +kernel)
theorem r_82_6 : mm_R0 82 6 = some 88 := mm_Rf (by decide +kernel)
theorem r_82_7 : mm_R0 82 7 = some 89 := mm_Rf (by decide +kernel)
theorem g_83 : mm_G0[83]? = some (.inl 8) ∧ 83 < 1000 := ⟨rfl, by decide⟩
theorem g_84 : mm_G0[84]? = some (.inl 8) ∧ 84 < 1000 := ⟨rfl, by decide⟩
theorem g_85 : mm_G0[85]? = some (.inl 8) ∧ 85 < 1000 := ⟨rfl, by decide⟩
theorem g_86 : mm_G0[86]? = some (.inl 8) ∧ 86 < 1000 := ⟨rfl, by decide⟩
theorem g_87 : mm_G0[87]? = some (.inl 8) ∧ 87 < 1000 := ⟨rfl, by decide⟩
theorem g_88 : mm_G0[88]? = some (.inl 8) ∧ 88 < 1000 := ⟨rfl, by decide⟩
theorem g_89 : mm_G0[89]? = some (.inl 12) ∧ 89 < 1000 := ⟨rfl, by decide⟩
theorem g_90 : mm_G0[90]? = some (.inr (.inr 0)) ∧ 90 < 1000 := ⟨rfl, by decide⟩
theorem r_90_0 : mm_R0 90 0 = some 2 := mm_Rf (by decide +kernel)
theorem r_90_1 : mm_R0 90 1 = some 91 := mm_Rf (by decide +kernel)
theorem r_90_2 : mm_R0 90 2 = some 92 := mm_Rf (by decide +kernel)
theorem r_90_3 : mm_R0 90 3 = some 93 := mm_Rf (by decide +kernel)
theorem r_90_4 : mm_R0 90 4 = some 94 := mm_Rf (by decide +kernel)
theorem r_90_5 : mm_R0 90 5 = some 95 := mm_Rf (by decide +kernel)
theorem r_90_6 : mm_R0 90 6 = some 96 := mm_Rf (by decide +kernel)
theorem r_90_7 : mm_R0 90 7 = some 97 := mm_Rf (by decide +kernel)
theorem g_91 : mm_G0[91]? = some (.inl 8) ∧ 91 < 1000 := ⟨rfl, by decide⟩
theorem g_92 : mm_G0[92]? = some (.inl 8) ∧ 92 < 1000 := ⟨rfl, by decide⟩
theorem g_93 : mm_G0[93]? = some (.inl 8) ∧ 93 < 1000 := ⟨rfl, by decide⟩
theorem g_94 : mm_G0[94]? = some (.inl 8) ∧ 94 < 1000 := ⟨rfl, by decide⟩
theorem g_95 : mm_G0[95]? = some (.inl 8) ∧ 95 < 1000 := ⟨rfl, by decide⟩
theorem g_96 : mm_G0[96]? = some (.inl 8) ∧ 96 < 1000 := ⟨rfl, by decide⟩
theorem g_97 : mm_G0[97]? = some (.inl 12) ∧ 97 < 1000 := ⟨rfl, by decide⟩
theorem g_98 : mm_G0[98]? = some (.inr (.inr 0)) ∧ 98 < 1000 := ⟨rfl, by decide⟩
theorem r_98_0 : mm_R0 98 0 = some 2 := mm_Rf (by decide +kernel)
theorem r_98_1 : mm_R0 98 1 = some 99 := mm_Rf (by decide +kernel)
theorem r_98_2 : mm_R0 98 2 = some 100 := mm_Rf (by decide +kernel)
theorem r_98_3 : mm_R0 98 3 = some 101 := mm_Rf (by decide +kernel)
theorem r_98_4 : mm_R0 98 4 = some 102 := mm_Rf (by decide +kernel)
theorem r_98_5 : mm_R0 98 5 = some 103 := mm_Rf (by decide +kernel)
theorem r_98_6 : mm_R0 98 6 = some 104 := mm_Rf (by decide +kernel)
theorem r_98_7 : mm_R0 98 7 = some 105 := mm_Rf (by decide +kernel)
theorem g_99 : mm_G0[99]? = some (.inl 8) ∧ 99 < 1000 := ⟨rfl, by decide⟩
theorem g_100 : mm_G0[100]? = some (.inl 8) ∧ 100 < 1000 := ⟨rfl, by decide⟩
theorem g_101 : mm_G0[101]? = some (.inl 8) ∧ 101 < 1000 := ⟨rfl, by decide⟩
theorem g_102 : mm_G0[102]? = some (.inl 8) ∧ 102 < 1000 := ⟨rfl, by decide⟩
theorem g_103 : mm_G0[103]? = some (.inl 8) ∧ 103 < 1000 := ⟨rfl, by decide⟩
theorem g_104 : mm_G0[104]? = some (.inl 8) ∧ 104 < 1000 := ⟨rfl, by decide⟩
theorem g_105 : mm_G0[105]? = some (.inl 12) ∧ 105 < 1000 := ⟨rfl, by decide⟩
theorem g_106 : mm_G0[106]? = some (.inr (.inr 0)) ∧ 106 < 1000 := ⟨rfl, by decide⟩
theorem r_106_0 : mm_R0 106 0 = some 2 := mm_Rf (by decide +kernel)
theorem r_106_1 : mm_R0 106 1 = some 107 := mm_Rf (by decide +kernel)
theorem r_106_2 : mm_R0 106 2 = some 108 := mm_Rf (by decide +kernel)
theorem r_106_3 : mm_R0 106 3 = some 109 := mm_Rf (by decide +kernel)
theorem r_106_4 : mm_R0 106 4 = some 110 := mm_Rf (by decide +kernel)
theorem r_106_5 : mm_R0 106 5 = some 111 := mm_Rf (by decide +kernel)
theorem r_106_6 : mm_R0 106 6 = some 112 := mm_Rf (by decide +kernel)
theorem r_106_7 : mm_R0 106 7 = some 113 := mm_Rf (by decide +kernel)
theorem g_107 : mm_G0[107]? = some (.inl 8) ∧ 107 < 1000 := ⟨rfl, by decide⟩
theorem g_108 : mm_G0[108]? = some (.inl 8) ∧ 108 < 1000 := ⟨rfl, by decide⟩
theorem g_109 : mm_G0[109]? = some (.inl 8) ∧ 109 < 1000 := ⟨rfl, by decide⟩
theorem g_110 : mm_G0[110]? = some (.inl 8) ∧ 110 < 1000 := ⟨rfl, by decide⟩
theorem g_111 : mm_G0[111]? = some (.inl 8) ∧ 111 < 1000 := ⟨rfl, by decide⟩
theorem g_112 : mm_G0[112]? = some (.inl 8) ∧ 112 < 1000 := ⟨rfl, by decide⟩
theorem g_113 : mm_G0[113]? = some (.inl 12) ∧ 113 < 1000 := ⟨rfl, by decide⟩
theorem g_114 : mm_G0[114]? = some (.inr (.inr 0)) ∧ 114 < 1000 := ⟨rfl, by decide⟩
theorem r_114_0 : mm_R0 114 0 = some 2 := mm_Rf (by decide +kernel)
theorem r_114_1 : mm_R0 114 1 = some 115 := mm_Rf (by decide +kernel)
theorem r_114_2 : mm_R0 114 2 = some 116 := mm_Rf (by decide +kernel)
theorem r_114_3 : mm_R0 114 3 = some 117 := mm_Rf (by decide +kernel)
theorem r_114_4 : mm_R0 114 4 = some 118 := mm_Rf (by decide +kernel)
theorem r_114_5 : mm_R0 114 5 = some 119 := mm_Rf (by decide +kernel)
theorem r_114_6 : mm_R0 114 6 = some 120 := mm_Rf (by decide +kernel)
theorem r_114_7 : mm_R0 114 7 = some 121 := mm_Rf (by decide +kernel)
theorem g_115 : mm_G0[115]? = some (.inl 8) ∧ 115 < 1000 := ⟨rfl, by decide⟩
theorem g_116 : mm_G0[116]? = some (.inl 8) ∧ 116 < 1000 := ⟨rfl, by decide⟩
theorem g_117 : mm_G0[117]? = some (.inl 8) ∧ 117 < 1000 := ⟨rfl, by decide⟩
theorem g_118 : mm_G0[118]? = some (.inl 8) ∧ 118 < 1000 := ⟨rfl, by decide⟩
theorem g_119 : mm_G0[119]? = some (.inl 8) ∧ 119 < 1000 := ⟨rfl, by decide⟩
theorem g_120 : mm_G0[120]? = some (.inl 8) ∧ 120 < 1000 := ⟨rfl, by decide⟩
theorem g_121 : mm_G0[121]? = some (.inl 12) ∧ 121 < 1000 := ⟨rfl, by decide⟩
theorem g_122 : mm_G0[122]? = some (.inr (.inr 0)) ∧ 122 < 1000 := ⟨rfl, by decide⟩
theorem r_122_0 : mm_R0 122 0 = some 2 := mm_Rf (by decide +kernel)
theorem r_122_1 : mm_R0 122 1 = some 123 := mm_Rf (by decide +kernel)
theorem r_122_2 : mm_R0 122 2 = some 124 := mm_Rf (by decide +kernel)
theorem r_122_3 : mm_R0 122 3 = some 125 := mm_Rf (by decide +kernel)
theorem r_122_4 : mm_R0 122 4 = some 126 := mm_Rf (by decide +kernel)
theorem r_122_5 : mm_R0 122 5 = some 127 := mm_Rf (by decide +kernel)
theorem r_122_6 : mm_R0 122 6 = some 128 := mm_Rf (by decide +kernel)
theorem r_122_7 : mm_R0 122 7 = some 129 := mm_Rf (by decide +kernel)
theorem g_123 : mm_G0[123]? = some (.inl 8) ∧ 123 < 1000 := ⟨rfl, by decide⟩
theorem g_124 : mm_G0[124]? = some (.inl 8) ∧ 124 < 1000 := ⟨rfl, by decide⟩
theorem g_125 : mm_G0[125]? = some (.inl 8) ∧ 125 < 1000 := ⟨rfl, by decide⟩
theorem g_126 : mm_G0[126]? = some (.inl 8) ∧ 126 < 1000 := ⟨rfl, by decide⟩
theorem g_127 : mm_G0[127]? = some (.inl 8) ∧ 127 < 1000 := ⟨rfl, by decide⟩
theorem g_128 : mm_G0[128]? = some (.inl 8) ∧ 128 < 1000 := ⟨rfl, by decide⟩
theorem g_129 : mm_G0[129]? = some (.inl 12) ∧ 129 < 1000 := ⟨rfl, by decide⟩
theorem g_130 : mm_G0[130]? = some (.inr (.inr 3)) ∧ 130 < 1000 := ⟨rfl, by decide⟩
theorem r_130_0 : mm_R0 130 0 = some 2 := mm_Rf (by decide +kernel)
theorem r_130_1 : mm_R0 130 1 = some 23 := mm_Rf (by decide +kernel)
theorem r_130_2 : mm_R0 130 2 = some 131 := mm_Rf (by decide +kernel)
theorem g_131 : mm_G0[131]? = some (.inl 8) ∧ 131 < 1000 := ⟨rfl, by decide⟩
theorem g_132 : mm_G0[132]? = some (.inr (.inl (6, 4))) ∧ 132 < 1000 := ⟨rfl, by decide⟩
theorem g_133 : mm_G0[133]? = some (.inr (.inr 8)) ∧ 133 < 1000 := ⟨rfl, by decide⟩
theorem r_133_0 : mm_R0 133 0 = some 134 := mm_Rf (by decide +kernel)
theorem g_134 : mm_G0[134]? = some (.inl 10) ∧ 134 < 1000 := ⟨rfl, by decide⟩
theorem g_135 : mm_G0[135]? = some (.inr (.inr 8)) ∧ 135 < 1000 := ⟨rfl, by decide⟩
theorem r_135_0 : mm_R0 135 0 = some 136 := mm_Rf (by decide +kernel)
theorem g_136 : mm_G0[136]? = some (.inl 39) ∧ 136 < 1000 := ⟨rfl, by decide⟩
theorem g_137 : mm_G0[137]? = some (.inr (.inr 6)) ∧ 137 < 1000 := ⟨rfl, by decide⟩
theorem r_137_2 : mm_R0 137 2 = some 138 := mm_Rf (by decide +kernel)
theorem g_138 : mm_G0[138]? = some (.inl 60) ∧ 138 < 1000 := ⟨rfl, by decide⟩
theorem g_139 : mm_G0[139]? = some (.inr (.inr 6)) ∧ 139 < 1000 := ⟨rfl, by decide⟩
theorem r_139_2 : mm_R0 139 2 = some 140 := mm_Rf (by decide +kernel)
theorem g_140 : mm_G0[140]? = some (.inl 60) ∧ 140 < 1000 := ⟨rfl, by decide⟩
theorem g_141 : mm_G0[141]? = some (.inr (.inr 6)) ∧ 141 < 1000 := ⟨rfl, by decide⟩
theorem r_141_2 : mm_R0 141 2 = some 142 := mm_Rf (by decide +kernel)
theorem g_142 : mm_G0[142]? = some (.inl 60) ∧ 142 < 1000 := ⟨rfl, by decide⟩
theorem g_143 : mm_G0[143]? = some (.inr (.inr 6)) ∧ 143 < 1000 := ⟨rfl, by decide⟩
theorem r_143_2 : mm_R0 143 2 = some 144 := mm_Rf (by decide +kernel)
theorem g_144 : mm_G0[144]? = some (.inl 60) ∧ 144 < 1000 := ⟨rfl, by decide⟩
theorem g_145 : mm_G0[145]? = some (.inr (.inr 11)) ∧ 145 < 1000 := ⟨rfl, by decide⟩
theorem r_145_0 : mm_R0 145 0 = some 146 := mm_Rf (by decide +kernel)
theorem r_145_1 : mm_R0 145 1 = some 147 := mm_Rf (by decide +kernel)
theorem r_145_2 : mm_R0 145 2 = some 148 := mm_Rf (by decide +kernel)
theorem r_145_3 : mm_R0 145 3 = some 149 := mm_Rf (by decide +kernel)
theorem r_145_5 : mm_R0 145 5 = some 150 := mm_Rf (by decide +kernel)
theorem r_145_6 : mm_R0 145 6 = some 151 := mm_Rf (by decide +kernel)
theorem r_145_8 : mm_R0 145 8 = some 152 := mm_Rf (by decide +kernel)
theorem r_145_10 : mm_R0 145 10 = some 153 := mm_Rf (by decide +kernel)
theorem r_145_11 : mm_R0 145 11 = some 154 := mm_Rf (by decide +kernel)
theorem r_145_13 : mm_R0 145 13 = some 155 := mm_Rf (by decide +kernel)
theorem r_145_15 : mm_R0 145 15 = some 156 := mm_Rf (by decide +kernel)
theorem r_145_16 : mm_R0 145 16 = some 157 := mm_Rf (by decide +kernel)
theorem r_145_17 : mm_R0 145 17 = some 158 := mm_Rf (by decide +kernel)
theorem r_145_18 : mm_R0 145 18 = some 159 := mm_Rf (by decide +kernel)
theorem r_145_19 : mm_R0 145 19 = some 160 := mm_Rf (by decide +kernel)
theorem r_145_20 : mm_R0 145 20 = some 161 := mm_Rf (by decide +kernel)
theorem r_145_21 : mm_R0 145 21 = some 162 := mm_Rf (by decide +kernel)
theorem r_145_22 : mm_R0 145 22 = some 163 := mm_Rf (by decide +kernel)
theorem r_145_23 : mm_R0 145 23 = some 164 := mm_Rf (by decide +kernel)
theorem r_145_24 : mm_R0 145 24 = some 165 := mm_Rf (by decide +kernel)
theorem r_145_25 : mm_R0 145 25 = some 166 := mm_Rf (by decide +kernel)
theorem r_145_28 : mm_R0 145 28 = some 167 := mm_Rf (by decide +kernel)
theorem r_145_29 : mm_R0 145 29 = some 168 := mm_Rf (by decide +kernel)
theorem g_146 : mm_G0[146]? = some (.inl 4) ∧ 146 < 1000 := ⟨rfl, by decide⟩
theorem g_147 : mm_G0[147]? = some (.inl 4) ∧ 147 < 1000 := ⟨rfl, by decide⟩
theorem g_148 : mm_G0[148]? = some (.inl 240) ∧ 148 < 1000 := ⟨rfl, by decide⟩
theorem g_149 : mm_G0[149]? = some (.inl 60) ∧ 149 < 1000 := ⟨rfl, by decide⟩
theorem g_150 : mm_G0[150]? = some (.inl 80) ∧ 150 < 1000 := ⟨rfl, by decide⟩
theorem g_151 : mm_G0[151]? = some (.inl 2) ∧ 151 < 1000 := ⟨rfl, by decide⟩
theorem g_152 : mm_G0[152]? = some (.inl 10) ∧ 152 < 1000 := ⟨rfl, by decide⟩
theorem g_153 : mm_G0[153]? = some (.inl 24) ∧ 153 < 1000 := ⟨rfl, by decide⟩
theorem g_154 : mm_G0[154]? = some (.inl 3) ∧ 154 < 1000 := ⟨rfl, by decide⟩
theorem g_155 : mm_G0[155]? = some (.inl 16) ∧ 155 < 1000 := ⟨rfl, by decide⟩
theorem g_156 : mm_G0[156]? = some (.inl 4) ∧ 156 < 1000 := ⟨rfl, by decide⟩
theorem g_157 : mm_G0[157]? = some (.inl 8) ∧ 157 < 1000 := ⟨rfl, by decide⟩
theorem g_158 : mm_G0[158]? = some (.inl 8) ∧ 158 < 1000 := ⟨rfl, by decide⟩
theorem g_159 : mm_G0[159]? = some (.inl 8) ∧ 159 < 1000 := ⟨rfl, by decide⟩
theorem g_160 : mm_G0[160]? = some (.inl 8) ∧ 160 < 1000 := ⟨rfl, by decide⟩
theorem g_161 : mm_G0[161]? = some (.inl 8) ∧ 161 < 1000 := ⟨rfl, by decide⟩
theorem g_162 : mm_G0[162]? = some (.inl 240) ∧ 162 < 1000 := ⟨rfl, by decide⟩
theorem g_163 : mm_G0[163]? = some (.inl 240) ∧ 163 < 1000 := ⟨rfl, by decide⟩
theorem g_164 : mm_G0[164]? = some (.inl 8) ∧ 164 < 1000 := ⟨rfl, by decide⟩
theorem g_165 : mm_G0[165]? = some (.inl 8) ∧ 165 < 1000 := ⟨rfl, by decide⟩
theorem g_166 : mm_G0[166]? = some (.inl 8) ∧ 166 < 1000 := ⟨rfl, by decide⟩
theorem g_167 : mm_G0[167]? = some (.inl 24) ∧ 167 < 1000 := ⟨rfl, by decide⟩
theorem g_168 : mm_G0[168]? = some (.inl 32) ∧ 168 < 1000 := ⟨rfl, by decide⟩
def mm_crs : List Nat := [15, 23, 42, 50, 58, 66, 74, 82, 90, 98, 106, 114, 122]
def Crs (c : Nat) : Prop := c ∈ mm_crs
theorem crs_g : ∀ c ∈ mm_crs, mm_G0[c]? = some (.inr (.inr 0)) ∧ c < 1000 := by decide +kernel
theorem crs_r0 : ∀ c ∈ mm_crs, mm_R0 c 0 = some 2 := fun c hc => mm_Rf ((show ∀ c ∈ mm_crs, (c, 0, 2) ∈ mm_Rp by decide +kernel) c hc)
theorem crs_r1 : ∀ c ∈ mm_crs, mm_R0 c 1 = some (c + 1) := fun c hc => mm_Rf ((show ∀ c ∈ mm_crs, (c, 1, c + 1) ∈ mm_Rp by decide +kernel) c hc)
theorem crs_r2 : ∀ c ∈ mm_crs, mm_R0 c 2 = some (c + 2) := fun c hc => mm_Rf ((show ∀ c ∈ mm_crs, (c, 2, c + 2) ∈ mm_Rp by decide +kernel) c hc)
theorem crs_r3 : ∀ c ∈ mm_crs, mm_R0 c 3 = some (c + 3) := fun c hc => mm_Rf ((show ∀ c ∈ mm_crs, (c, 3, c + 3) ∈ mm_Rp by decide +kernel) c hc)
theorem crs_r4 : ∀ c ∈ mm_crs, mm_R0 c 4 = some (c + 4) := fun c hc => mm_Rf ((show ∀ c ∈ mm_crs, (c, 4, c + 4) ∈ mm_Rp by decide +kernel) c hc)
theorem crs_r5 : ∀ c ∈ mm_crs, mm_R0 c 5 = some (c + 5) := fun c hc => mm_Rf ((show ∀ c ∈ mm_crs, (c, 5, c + 5) ∈ mm_Rp by decide +kernel) c hc)
theorem crs_r6 : ∀ c ∈ mm_crs, mm_R0 c 6 = some (c + 6) := fun c hc => mm_Rf ((show ∀ c ∈ mm_crs, (c, 6, c + 6) ∈ mm_Rp by decide +kernel) c hc)
theorem crs_r7 : ∀ c ∈ mm_crs, mm_R0 c 7 = some (c + 7) := fun c hc => mm_Rf ((show ∀ c ∈ mm_crs, (c, 7, c + 7) ∈ mm_Rp by decide +kernel) c hc)
theorem crs_a1 : ∀ c ∈ mm_crs, mm_G0[c + 1]? = some (.inl 8) ∧ c + 1 < 1000 := by decide +kernel
theorem crs_a2 : ∀ c ∈ mm_crs, mm_G0[c + 2]? = some (.inl 8) ∧ c + 2 < 1000 := by decide +kernel
theorem crs_a3 : ∀ c ∈ mm_crs, mm_G0[c + 3]? = some (.inl 8) ∧ c + 3 < 1000 := by decide +kernel
theorem crs_a4 : ∀ c ∈ mm_crs, mm_G0[c + 4]? = some (.inl 8) ∧ c + 4 < 1000 := by decide +kernel
theorem crs_a5 : ∀ c ∈ mm_crs, mm_G0[c + 5]? = some (.inl 8) ∧ c + 5 < 1000 := by decide +kernel
theorem crs_a6 : ∀ c ∈ mm_crs, mm_G0[c + 6]? = some (.inl 8) ∧ c + 6 < 1000 := by decide +kernel
theorem crs_a7 : ∀ c ∈ mm_crs, mm_G0[c + 7]? = some (.inl 12) ∧ c + 7 < 1000 := by decide +kernel
def mm_txs : List Nat := [133, 135]
def mm_shs : List Nat := [137, 139, 141, 143]
theorem txs_g : ∀ c ∈ mm_txs, mm_G0[c]? = some (.inr (.inr 8)) ∧ c < 1000 := by decide +kernel
theorem shs_g : ∀ c ∈ mm_shs, mm_G0[c]? = some (.inr (.inr 6)) ∧ c < 1000 := by decide +kernel
theorem txs_r0 : ∀ c ∈ mm_txs, mm_R0 c 0 = some (c + 1) := fun c hc => mm_Rf ((show ∀ c ∈ mm_txs, (c, 0, c + 1) ∈ mm_Rp by decide +kernel) c hc)
theorem shs_r2 : ∀ c ∈ mm_shs, mm_R0 c 2 = some (c + 1) := fun c hc => mm_Rf ((show ∀ c ∈ mm_shs, (c, 2, c + 1) ∈ mm_Rp by decide +kernel) c hc)
theorem r_1_0 : mm_R0 1 0 = some 133 := mm_Rf (by decide +kernel)
theorem r_1_1 : mm_R0 1 1 = some 135 := mm_Rf (by decide +kernel)
theorem r_41_0 : mm_R0 41 0 = some 42 := mm_Rf (by decide +kernel)
theorem r_41_1 : mm_R0 41 1 = some 50 := mm_Rf (by decide +kernel)
theorem r_41_2 : mm_R0 41 2 = some 58 := mm_Rf (by decide +kernel)
theorem r_41_3 : mm_R0 41 3 = some 66 := mm_Rf (by decide +kernel)
theorem r_41_4 : mm_R0 41 4 = some 74 := mm_Rf (by decide +kernel)
theorem r_41_5 : mm_R0 41 5 = some 82 := mm_Rf (by decide +kernel)
theorem r_41_6 : mm_R0 41 6 = some 90 := mm_Rf (by decide +kernel)
theorem r_41_7 : mm_R0 41 7 = some 98 := mm_Rf (by decide +kernel)
theorem r_41_8 : mm_R0 41 8 = some 106 := mm_Rf (by decide +kernel)
theorem r_41_9 : mm_R0 41 9 = some 114 := mm_Rf (by decide +kernel)
theorem r_41_10 : mm_R0 41 10 = some 122 := mm_Rf (by decide +kernel)
theorem r_132_0 : mm_R0 132 0 = some 137 := mm_Rf (by decide +kernel)
theorem r_132_1 : mm_R0 132 1 = some 139 := mm_Rf (by decide +kernel)
theorem r_132_2 : mm_R0 132 2 = some 141 := mm_Rf (by decide +kernel)
theorem r_132_3 : mm_R0 132 3 = some 143 := mm_Rf (by decide +kernel)
theorem txs_a1 : ∀ c ∈ mm_txs, mm_G0[c + 1]? = some (.inl (if c = 133 then 10 else 39)) ∧ c + 1 < 1000 := by decide +kernel
theorem shs_a1 : ∀ c ∈ mm_shs, mm_G0[c + 1]? = some (.inl 60) ∧ c + 1 < 1000 := by decide +kernel
