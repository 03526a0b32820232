theorem ok_X8_faultAsSlices : mm_okM ((8, yX8_faultAsSlices, cX8_faultAsSlices, 2, (some .int), false, false), M_X8_faultAsSlices) = true := by decide +kernel
theorem ok_X8_goesOn : mm_okM ((8, yX8_goesOn, cX8_goesOn, 2, (some .boolean), true, false), M_X8_goesOn) = true := by decide +kernel
theorem ok_X8_kindOf : mm_okM ((8, yX8_kindOf, cX8_kindOf, 1, (some .int), true, false), M_X8_kindOf) = true := by decide +kernel
theorem ok_X9_init : mm_okM ((9, yX9_init, cX9_init, 3, none, false, true), M_X9_init) = true := by decide +kernel
theorem ok_X9_weigh : mm_okM ((9, yX9_weigh, cX9_weigh, 6, none, false, false), M_X9_weigh) = true := by decide +kernel
theorem ok_X9_ways : mm_okM ((9, yX9_ways, cX9_ways, 5, (some .long), true, false), M_X9_ways) = true := by decide +kernel
theorem ok_X9_isLetGoFrom : mm_okM ((9, yX9_isLetGoFrom, cX9_isLetGoFrom, 4, (some .boolean), false, false), M_X9_isLetGoFrom) = true := by decide +kernel
theorem ok_X10_init : mm_okM ((10, yX10_init, cX10_init, 2, none, false, true), M_X10_init) = true := by decide +kernel
theorem ok_X10_type : mm_okM ((10, yX10_type, cX10_type, 4, (some .int), false, false), M_X10_type) = true := by decide +kernel
theorem ok_X10_wipe : mm_okM ((10, yX10_wipe, cX10_wipe, 3, (some .int), false, false), M_X10_wipe) = true := by decide +kernel
theorem ok_X10_undo : mm_okM ((10, yX10_undo, cX10_undo, 2, (some .int), false, false), M_X10_undo) = true := by decide +kernel
theorem ok_X10_fault : mm_okM ((10, yX10_fault, cX10_fault, 2, (some .int), false, false), M_X10_fault) = true := by decide +kernel
theorem ok_X10_draws : mm_okM ((10, yX10_draws, cX10_draws, 2, (some .int), false, false), M_X10_draws) = true := by decide +kernel
theorem ok_X10_slice : mm_okM ((10, yX10_slice, cX10_slice, 3, (some .int), false, false), M_X10_slice) = true := by decide +kernel
theorem ok_X10_set : mm_okM ((10, yX10_set, cX10_set, 4, (some .int), false, false), M_X10_set) = true := by decide +kernel
theorem ok_X10_butter : mm_okM ((10, yX10_butter, cX10_butter, 3, (some .int), false, false), M_X10_butter) = true := by decide +kernel
theorem ok_X10_fire : mm_okM ((10, yX10_fire, cX10_fire, 2, (some .int), false, false), M_X10_fire) = true := by decide +kernel
theorem ok_X10_back : mm_okM ((10, yX10_back, cX10_back, 3, (some .int), false, false), M_X10_back) = true := by decide +kernel
theorem ok_X10_read : mm_okM ((10, yX10_read, cX10_read, 4, (some .int), false, false), M_X10_read) = true := by decide +kernel
theorem ok_X10_heat : mm_okM ((10, yX10_heat, cX10_heat, 3, (some .int), false, false), M_X10_heat) = true := by decide +kernel
theorem ok_X10_state : mm_okM ((10, yX10_state, cX10_state, 3, (some .int), false, false), M_X10_state) = true := by decide +kernel
theorem ok_X10_held : mm_okM ((10, yX10_held, cX10_held, 2, (some .int), false, false), M_X10_held) = true := by decide +kernel
theorem ok_X10_freed : mm_okM ((10, yX10_freed, cX10_freed, 3, (some .int), false, false), M_X10_freed) = true := by decide +kernel
theorem ok_X10_spoilt : mm_okM ((10, yX10_spoilt, cX10_spoilt, 3, (some .int), false, false), M_X10_spoilt) = true := by decide +kernel
