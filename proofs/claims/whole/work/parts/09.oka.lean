theorem ok_X0_init : mm_okM ((0, yX0_init, cX0_init, 2, none, false, true), M_X0_init) = true := by decide +kernel
theorem ok_X0_begin : mm_okM ((0, yX0_begin, cX0_begin, 2, none, false, false), M_X0_begin) = true := by decide +kernel
theorem ok_X0_goThrough : mm_okM ((0, yX0_goThrough, cX0_goThrough, 2, none, false, false), M_X0_goThrough) = true := by decide +kernel
theorem ok_X0_follow : mm_okM ((0, yX0_follow, cX0_follow, 4, none, false, false), M_X0_follow) = true := by decide +kernel
theorem ok_X0_untilButters : mm_okM ((0, yX0_untilButters, cX0_untilButters, 2, none, false, false), M_X0_untilButters) = true := by decide +kernel
theorem ok_X0_fromButters : mm_okM ((0, yX0_fromButters, cX0_fromButters, 4, none, false, false), M_X0_fromButters) = true := by decide +kernel
theorem ok_X0_isIn : mm_okM ((0, yX0_isIn, cX0_isIn, 2, (some .boolean), false, false), M_X0_isIn) = true := by decide +kernel
theorem ok_X0_howManyIn : mm_okM ((0, yX0_howManyIn, cX0_howManyIn, 3, (some .int), false, false), M_X0_howManyIn) = true := by decide +kernel
theorem ok_X0_comeAgain : mm_okM ((0, yX0_comeAgain, cX0_comeAgain, 3, none, false, false), M_X0_comeAgain) = true := by decide +kernel
theorem ok_X0_takePlaces : mm_okM ((0, yX0_takePlaces, cX0_takePlaces, 3, none, false, false), M_X0_takePlaces) = true := by decide +kernel
theorem ok_X0_warm : mm_okM ((0, yX0_warm, cX0_warm, 3, none, false, false), M_X0_warm) = true := by decide +kernel
theorem ok_X0_spread : mm_okM ((0, yX0_spread, cX0_spread, 4, none, false, false), M_X0_spread) = true := by decide +kernel
theorem ok_X0_leave : mm_okM ((0, yX0_leave, cX0_leave, 3, none, false, false), M_X0_leave) = true := by decide +kernel
theorem ok_X0_feelWarmth : mm_okM ((0, yX0_feelWarmth, cX0_feelWarmth, 3, none, false, false), M_X0_feelWarmth) = true := by decide +kernel
theorem ok_X0_cooling : mm_okM ((0, yX0_cooling, cX0_cooling, 6, (some .int), false, false), M_X0_cooling) = true := by decide +kernel
theorem ok_X0_letGo : mm_okM ((0, yX0_letGo, cX0_letGo, 3, none, false, false), M_X0_letGo) = true := by decide +kernel
theorem ok_X1_init : mm_okM ((1, yX1_init, cX1_init, 4, none, false, true), M_X1_init) = true := by decide +kernel
theorem ok_X1_findHeats : mm_okM ((1, yX1_findHeats, cX1_findHeats, 4, none, false, false), M_X1_findHeats) = true := by decide +kernel
theorem ok_X1_heatAt : mm_okM ((1, yX1_heatAt, cX1_heatAt, 2, (some .int), false, false), M_X1_heatAt) = true := by decide +kernel
theorem ok_X1_slotsOf : mm_okM ((1, yX1_slotsOf, cX1_slotsOf, 5, (some .int), false, false), M_X1_slotsOf) = true := by decide +kernel
theorem ok_X1_nextToTouch : mm_okM ((1, yX1_nextToTouch, cX1_nextToTouch, 4, (some .int), false, false), M_X1_nextToTouch) = true := by decide +kernel
theorem ok_X1_tallyNoted : mm_okM ((1, yX1_tallyNoted, cX1_tallyNoted, 2, none, false, false), M_X1_tallyNoted) = true := by decide +kernel
theorem ok_X1_leastOfTheGreatest : mm_okM ((1, yX1_leastOfTheGreatest, cX1_leastOfTheGreatest, 6, (some .int), false, false), M_X1_leastOfTheGreatest) = true := by decide +kernel
theorem ok_X1_allComesOut : mm_okM ((1, yX1_allComesOut, cX1_allComesOut, 4, (some .boolean), false, false), M_X1_allComesOut) = true := by decide +kernel
