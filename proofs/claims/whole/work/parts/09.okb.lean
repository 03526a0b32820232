theorem ok_X2_init : mm_okM ((2, yX2_init, cX2_init, 2, none, false, true), M_X2_init) = true := by decide +kernel
theorem ok_X2_bringUpToDate : mm_okM ((2, yX2_bringUpToDate, cX2_bringUpToDate, 2, none, false, false), M_X2_bringUpToDate) = true := by decide +kernel
theorem ok_X2_leastLeaning : mm_okM ((2, yX2_leastLeaning, cX2_leastLeaning, 3, (some .int), false, false), M_X2_leastLeaning) = true := by decide +kernel
theorem ok_X3_init : mm_okM ((3, yX3_init, cX3_init, 3, none, false, true), M_X3_init) = true := by decide +kernel
theorem ok_X3_draw : mm_okM ((3, yX3_draw, cX3_draw, 4, none, false, false), M_X3_draw) = true := by decide +kernel
theorem ok_X3_howManyAre : mm_okM ((3, yX3_howManyAre, cX3_howManyAre, 4, (some .int), false, false), M_X3_howManyAre) = true := by decide +kernel
theorem ok_X4_init : mm_okM ((4, yX4_init, cX4_init, 3, none, false, true), M_X4_init) = true := by decide +kernel
theorem ok_X4_findMove : mm_okM ((4, yX4_findMove, cX4_findMove, 6, none, false, false), M_X4_findMove) = true := by decide +kernel
theorem ok_X4_letGoBefore : mm_okM ((4, yX4_letGoBefore, cX4_letGoBefore, 4, (some .int), false, false), M_X4_letGoBefore) = true := by decide +kernel
theorem ok_X4_findSwap : mm_okM ((4, yX4_findSwap, cX4_findSwap, 5, none, false, false), M_X4_findSwap) = true := by decide +kernel
theorem ok_X4_stayIfSwapped : mm_okM ((4, yX4_stayIfSwapped, cX4_stayIfSwapped, 4, (some .int), false, false), M_X4_stayIfSwapped) = true := by decide +kernel
theorem ok_X4_changeSlots : mm_okM ((4, yX4_changeSlots, cX4_changeSlots, 4, none, false, false), M_X4_changeSlots) = true := by decide +kernel
theorem ok_X4_stayOfAll : mm_okM ((4, yX4_stayOfAll, cX4_stayOfAll, 3, (some .int), false, false), M_X4_stayOfAll) = true := by decide +kernel
theorem ok_X4_firstButterHour : mm_okM ((4, yX4_firstButterHour, cX4_firstButterHour, 3, (some .int), false, false), M_X4_firstButterHour) = true := by decide +kernel
theorem ok_X4_greatestSummer : mm_okM ((4, yX4_greatestSummer, cX4_greatestSummer, 4, (some .int), false, false), M_X4_greatestSummer) = true := by decide +kernel
theorem ok_X5_init : mm_okM ((5, yX5_init, cX5_init, 1, none, false, true), M_X5_init) = true := by decide +kernel
theorem ok_X5_takeRack : mm_okM ((5, yX5_takeRack, cX5_takeRack, 3, none, false, false), M_X5_takeRack) = true := by decide +kernel
theorem ok_X5_takeSlices : mm_okM ((5, yX5_takeSlices, cX5_takeSlices, 5, none, false, false), M_X5_takeSlices) = true := by decide +kernel
theorem ok_X5_firesIn : mm_okM ((5, yX5_firesIn, cX5_firesIn, 4, (some .int), false, false), M_X5_firesIn) = true := by decide +kernel
theorem ok_X6_init : mm_okM ((6, yX6_init, cX6_init, 1, none, false, true), M_X6_init) = true := by decide +kernel
theorem ok_X6_isLost : mm_okM ((6, yX6_isLost, cX6_isLost, 1, (some .boolean), false, false), M_X6_isLost) = true := by decide +kernel
theorem ok_X6_renew : mm_okM ((6, yX6_renew, cX6_renew, 4, none, false, false), M_X6_renew) = true := by decide +kernel
theorem ok_X6_put : mm_okM ((6, yX6_put, cX6_put, 3, none, false, false), M_X6_put) = true := by decide +kernel
theorem ok_X6_hasRun : mm_okM ((6, yX6_hasRun, cX6_hasRun, 3, (some .boolean), false, false), M_X6_hasRun) = true := by decide +kernel
theorem ok_X7_init : mm_okM ((7, yX7_init, cX7_init, 2, none, false, true), M_X7_init) = true := by decide +kernel
theorem ok_X7_add : mm_okM ((7, yX7_add, cX7_add, 4, none, false, false), M_X7_add) = true := by decide +kernel
theorem ok_X7_lastHour : mm_okM ((7, yX7_lastHour, cX7_lastHour, 3, (some .int), false, false), M_X7_lastHour) = true := by decide +kernel
theorem ok_X7_agreeWith : mm_okM ((7, yX7_agreeWith, cX7_agreeWith, 4, (some .boolean), false, false), M_X7_agreeWith) = true := by decide +kernel
theorem ok_X8_init : mm_okM ((8, yX8_init, cX8_init, 2, none, false, true), M_X8_init) = true := by decide +kernel
theorem ok_X8_faultAsRack : mm_okM ((8, yX8_faultAsRack, cX8_faultAsRack, 2, (some .int), false, false), M_X8_faultAsRack) = true := by decide +kernel
