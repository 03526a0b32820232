theorem ok_X0_init : mm_okM ((0, yX0_init, cX0_init, 2, none, false, true), M_X0_init) = true := by decide +kernel
theorem ok_X0_begin : mm_okM ((0, yX0_begin, cX0_begin, 2, none, false, false), M_X0_begin) = true := by decide +kernel
theorem ok_X0_goThrough : mm_okM ((0, yX0_goThrough, cX0_goThrough, 2, none, false, false), M_X0_goThrough) = true := by decide +kernel
theorem ok_X0_follow : mm_okM ((0, yX0_follow, cX0_follow, 4, none, false, false), M_X0_follow) = true := by decide +kernel
theorem ok_X0_untilButters : mm_okM ((0, yX0_untilButters, cX0_untilButters, 2, none, false, false), M_X0_untilButters) = true := by decide +kernel
theorem ok_X0_fromButters : mm_okM ((0, yX0_fromButters, cX0_fromButters, 4, none, false, false), M_X0_fromButters) = true := by decide +kernel
theorem ok_X0_isIn : mm_okM ((0, yX0_isIn, cX0_isIn, 2, (some .boolean), false, false), M_X0_isIn) = true := by decide +kernel
theorem ok_X0_howManyIn : mm_okM ((0, yX0_howManyIn, cX0_howManyIn, 3, (some .int), false, false), M_X0_howManyIn) = true := by decide +kernel
theorem ok_X0_comeAgain : mm_okM ((0, yX0_comeAgain, cX0_comeAgain, 3, none, false, false), M_X0_comeAgain) = true := by decide +kernel
theorem ok_X0_takePlaces : mm_okM ((0, yX0_takePlaces, cX0_takePlaces, 3, none, false, false), M_X0_takePlaces) = true := by decide +kernel
theorem ok_X0_warm : mm_okM ((0, yX0_warm, cX0_warm, 3, none, false, false), M_X0_warm) = true := by decide +kernel
theorem ok_X0_spread : mm_okM ((0, yX0_spread, cX0_spread, 4, none, false, false), M_X0_spread) = true := by decide +kernel
theorem ok_X0_leave : mm_okM ((0, yX0_leave, cX0_leave, 3, none, false, false), M_X0_leave) = true := by decide +kernel
theorem ok_X0_feelWarmth : mm_okM ((0, yX0_feelWarmth, cX0_feelWarmth, 3, none, false, false), M_X0_feelWarmth) = true := by decide +kernel
theorem ok_X0_cooling : mm_okM ((0, yX0_cooling, cX0_cooling, 6, (some .int), false, false), M_X0_cooling) = true := by decide +kernel
theorem ok_X0_letGo : mm_okM ((0, yX0_letGo, cX0_letGo, 3, none, false, false), M_X0_letGo) = true := by decide +kernel
theorem ok_X1_init : mm_okM ((1, yX1_init, cX1_init, 4, none, false, true), M_X1_init) = true := by decide +kernel
theorem ok_X1_findHeats : mm_okM ((1, yX1_findHeats, cX1_findHeats, 4, none, false, false), M_X1_findHeats) = true := by decide +kernel
theorem ok_X1_heatAt : mm_okM ((1, yX1_heatAt, cX1_heatAt, 2, (some .int), false, false), M_X1_heatAt) = true := by decide +kernel
theorem ok_X1_slotsOf : mm_okM ((1, yX1_slotsOf, cX1_slotsOf, 5, (some .int), false, false), M_X1_slotsOf) = true := by decide +kernel
theorem ok_X1_nextToTouch : mm_okM ((1, yX1_nextToTouch, cX1_nextToTouch, 4, (some .int), false, false), M_X1_nextToTouch) = true := by decide +kernel
theorem ok_X1_tallyNoted : mm_okM ((1, yX1_tallyNoted, cX1_tallyNoted, 2, none, false, false), M_X1_tallyNoted) = true := by decide +kernel
theorem ok_X1_leastOfTheGreatest : mm_okM ((1, yX1_leastOfTheGreatest, cX1_leastOfTheGreatest, 6, (some .int), false, false), M_X1_leastOfTheGreatest) = true := by decide +kernel
theorem ok_X1_allComesOut : mm_okM ((1, yX1_allComesOut, cX1_allComesOut, 4, (some .boolean), false, false), M_X1_allComesOut) = true := by decide +kernel
theorem ok_X2_init : mm_okM ((2, yX2_init, cX2_init, 2, none, false, true), M_X2_init) = true := by decide +kernel
theorem ok_X2_bringUpToDate : mm_okM ((2, yX2_bringUpToDate, cX2_bringUpToDate, 2, none, false, false), M_X2_bringUpToDate) = true := by decide +kernel
theorem ok_X2_leastLeaning : mm_okM ((2, yX2_leastLeaning, cX2_leastLeaning, 3, (some .int), false, false), M_X2_leastLeaning) = true := by decide +kernel
theorem ok_X3_init : mm_okM ((3, yX3_init, cX3_init, 3, none, false, true), M_X3_init) = true := by decide +kernel
theorem ok_X3_draw : mm_okM ((3, yX3_draw, cX3_draw, 4, none, false, false), M_X3_draw) = true := by decide +kernel
theorem ok_X3_howManyAre : mm_okM ((3, yX3_howManyAre, cX3_howManyAre, 4, (some .int), false, false), M_X3_howManyAre) = true := by decide +kernel
theorem ok_X4_init : mm_okM ((4, yX4_init, cX4_init, 3, none, false, true), M_X4_init) = true := by decide +kernel
theorem ok_X4_findMove : mm_okM ((4, yX4_findMove, cX4_findMove, 6, none, false, false), M_X4_findMove) = true := by decide +kernel
theorem ok_X4_letGoBefore : mm_okM ((4, yX4_letGoBefore, cX4_letGoBefore, 4, (some .int), false, false), M_X4_letGoBefore) = true := by decide +kernel
theorem ok_X4_findSwap : mm_okM ((4, yX4_findSwap, cX4_findSwap, 5, none, false, false), M_X4_findSwap) = true := by decide +kernel
theorem ok_X4_stayIfSwapped : mm_okM ((4, yX4_stayIfSwapped, cX4_stayIfSwapped, 4, (some .int), false, false), M_X4_stayIfSwapped) = true := by decide +kernel
theorem ok_X4_changeSlots : mm_okM ((4, yX4_changeSlots, cX4_changeSlots, 4, none, false, false), M_X4_changeSlots) = true := by decide +kernel
theorem ok_X4_stayOfAll : mm_okM ((4, yX4_stayOfAll, cX4_stayOfAll, 3, (some .int), false, false), M_X4_stayOfAll) = true := by decide +kernel
theorem ok_X4_firstButterHour : mm_okM ((4, yX4_firstButterHour, cX4_firstButterHour, 3, (some .int), false, false), M_X4_firstButterHour) = true := by decide +kernel
theorem ok_X4_greatestSummer : mm_okM ((4, yX4_greatestSummer, cX4_greatestSummer, 4, (some .int), false, false), M_X4_greatestSummer) = true := by decide +kernel
theorem ok_X5_init : mm_okM ((5, yX5_init, cX5_init, 1, none, false, true), M_X5_init) = true := by decide +kernel
theorem ok_X5_takeRack : mm_okM ((5, yX5_takeRack, cX5_takeRack, 3, none, false, false), M_X5_takeRack) = true := by decide +kernel
theorem ok_X5_takeSlices : mm_okM ((5, yX5_takeSlices, cX5_takeSlices, 5, none, false, false), M_X5_takeSlices) = true := by decide +kernel
theorem ok_X5_firesIn : mm_okM ((5, yX5_firesIn, cX5_firesIn, 4, (some .int), false, false), M_X5_firesIn) = true := by decide +kernel
theorem ok_X6_init : mm_okM ((6, yX6_init, cX6_init, 1, none, false, true), M_X6_init) = true := by decide +kernel
theorem ok_X6_isLost : mm_okM ((6, yX6_isLost, cX6_isLost, 1, (some .boolean), false, false), M_X6_isLost) = true := by decide +kernel
theorem ok_X6_renew : mm_okM ((6, yX6_renew, cX6_renew, 4, none, false, false), M_X6_renew) = true := by decide +kernel
theorem ok_X6_put : mm_okM ((6, yX6_put, cX6_put, 3, none, false, false), M_X6_put) = true := by decide +kernel
theorem ok_X6_hasRun : mm_okM ((6, yX6_hasRun, cX6_hasRun, 3, (some .boolean), false, false), M_X6_hasRun) = true := by decide +kernel
theorem ok_X7_init : mm_okM ((7, yX7_init, cX7_init, 2, none, false, true), M_X7_init) = true := by decide +kernel
theorem ok_X7_add : mm_okM ((7, yX7_add, cX7_add, 4, none, false, false), M_X7_add) = true := by decide +kernel
theorem ok_X7_lastHour : mm_okM ((7, yX7_lastHour, cX7_lastHour, 3, (some .int), false, false), M_X7_lastHour) = true := by decide +kernel
theorem ok_X7_agreeWith : mm_okM ((7, yX7_agreeWith, cX7_agreeWith, 4, (some .boolean), false, false), M_X7_agreeWith) = true := by decide +kernel
theorem ok_X8_init : mm_okM ((8, yX8_init, cX8_init, 2, none, false, true), M_X8_init) = true := by decide +kernel
theorem ok_X8_faultAsRack : mm_okM ((8, yX8_faultAsRack, cX8_faultAsRack, 2, (some .int), false, false), M_X8_faultAsRack) = true := by decide +kernel
theorem ok_X8_faultAsSlices : mm_okM ((8, yX8_faultAsSlices, cX8_faultAsSlices, 2, (some .int), false, false), M_X8_faultAsSlices) = true := by decide +kernel
theorem ok_X8_goesOn : mm_okM ((8, yX8_goesOn, cX8_goesOn, 2, (some .boolean), true, false), M_X8_goesOn) = true := by decide +kernel
theorem ok_X8_kindOf : mm_okM ((8, yX8_kindOf, cX8_kindOf, 1, (some .int), true, false), M_X8_kindOf) = true := by decide +kernel
theorem ok_X9_init : mm_okM ((9, yX9_init, cX9_init, 3, none, false, true), M_X9_init) = true := by decide +kernel
theorem ok_X9_weigh : mm_okM ((9, yX9_weigh, cX9_weigh, 6, none, false, false), M_X9_weigh) = true := by decide +kernel
theorem ok_X9_ways : mm_okM ((9, yX9_ways, cX9_ways, 5, (some .long), true, false), M_X9_ways) = true := by decide +kernel
theorem ok_X9_isLetGoFrom : mm_okM ((9, yX9_isLetGoFrom, cX9_isLetGoFrom, 4, (some .boolean), false, false), M_X9_isLetGoFrom) = true := by decide +kernel
theorem ok_X10_init : mm_okM ((10, yX10_init, cX10_init, 2, none, false, true), M_X10_init) = true := by decide +kernel
theorem ok_X10_type : mm_okM ((10, yX10_type, cX10_type, 4, (some .int), false, false), M_X10_type) = true := by decide +kernel
theorem ok_X10_wipe : mm_okM ((10, yX10_wipe, cX10_wipe, 3, (some .int), false, false), M_X10_wipe) = true := by decide +kernel
theorem ok_X10_undo : mm_okM ((10, yX10_undo, cX10_undo, 2, (some .int), false, false), M_X10_undo) = true := by decide +kernel
theorem ok_X10_fault : mm_okM ((10, yX10_fault, cX10_fault, 2, (some .int), false, false), M_X10_fault) = true := by decide +kernel
theorem ok_X10_draws : mm_okM ((10, yX10_draws, cX10_draws, 2, (some .int), false, false), M_X10_draws) = true := by decide +kernel
theorem ok_X10_slice : mm_okM ((10, yX10_slice, cX10_slice, 3, (some .int), false, false), M_X10_slice) = true := by decide +kernel
theorem ok_X10_set : mm_okM ((10, yX10_set, cX10_set, 4, (some .int), false, false), M_X10_set) = true := by decide +kernel
theorem ok_X10_butter : mm_okM ((10, yX10_butter, cX10_butter, 3, (some .int), false, false), M_X10_butter) = true := by decide +kernel
theorem ok_X10_fire : mm_okM ((10, yX10_fire, cX10_fire, 2, (some .int), false, false), M_X10_fire) = true := by decide +kernel
theorem ok_X10_back : mm_okM ((10, yX10_back, cX10_back, 3, (some .int), false, false), M_X10_back) = true := by decide +kernel
theorem ok_X10_read : mm_okM ((10, yX10_read, cX10_read, 4, (some .int), false, false), M_X10_read) = true := by decide +kernel
theorem ok_X10_heat : mm_okM ((10, yX10_heat, cX10_heat, 3, (some .int), false, false), M_X10_heat) = true := by decide +kernel
theorem ok_X10_state : mm_okM ((10, yX10_state, cX10_state, 3, (some .int), false, false), M_X10_state) = true := by decide +kernel
theorem ok_X10_held : mm_okM ((10, yX10_held, cX10_held, 2, (some .int), false, false), M_X10_held) = true := by decide +kernel
theorem ok_X10_freed : mm_okM ((10, yX10_freed, cX10_freed, 3, (some .int), false, false), M_X10_freed) = true := by decide +kernel
theorem ok_X10_spoilt : mm_okM ((10, yX10_spoilt, cX10_spoilt, 3, (some .int), false, false), M_X10_spoilt) = true := by decide +kernel
theorem ok_X10_quiet : mm_okM ((10, yX10_quiet, cX10_quiet, 2, (some .int), false, false), M_X10_quiet) = true := by decide +kernel
theorem ok_X10_crowd : mm_okM ((10, yX10_crowd, cX10_crowd, 4, (some .int), false, false), M_X10_crowd) = true := by decide +kernel
theorem ok_X10_move : mm_okM ((10, yX10_move, cX10_move, 3, (some .int), false, false), M_X10_move) = true := by decide +kernel
theorem ok_X10_swap : mm_okM ((10, yX10_swap, cX10_swap, 2, (some .int), false, false), M_X10_swap) = true := by decide +kernel
theorem ok_X10_line : mm_okM ((10, yX10_line, cX10_line, 2, (some .int), false, false), M_X10_line) = true := by decide +kernel
theorem ok_X10_bear : mm_okM ((10, yX10_bear, cX10_bear, 1, (some .int), false, false), M_X10_bear) = true := by decide +kernel
theorem ok_X10_seen : mm_okM ((10, yX10_seen, cX10_seen, 4, (some .int), false, false), M_X10_seen) = true := by decide +kernel
theorem ok_X10_forget : mm_okM ((10, yX10_forget, cX10_forget, 2, (some .int), false, false), M_X10_forget) = true := by decide +kernel
theorem ok_X10_heats : mm_okM ((10, yX10_heats, cX10_heats, 3, (some .int), false, false), M_X10_heats) = true := by decide +kernel
theorem ok_X10_slots : mm_okM ((10, yX10_slots, cX10_slots, 2, (some .int), false, false), M_X10_slots) = true := by decide +kernel
theorem ok_X10_ask : mm_okM ((10, yX10_ask, cX10_ask, 2, (some .int), false, false), M_X10_ask) = true := by decide +kernel
theorem ok_X10_window : mm_okM ((10, yX10_window, cX10_window, 6, (some .long), false, false), M_X10_window) = true := by decide +kernel
theorem ok_X10_others : mm_okM ((10, yX10_others, cX10_others, 3, (some .int), false, false), M_X10_others) = true := by decide +kernel
theorem ok_X10_sheet : mm_okM ((10, yX10_sheet, cX10_sheet, 4, (some .int), false, false), M_X10_sheet) = true := by decide +kernel
theorem ok_X10_lose : mm_okM ((10, yX10_lose, cX10_lose, 3, (some .int), false, false), M_X10_lose) = true := by decide +kernel
theorem ok_X10_lay : mm_okM ((10, yX10_lay, cX10_lay, 6, (some .int), false, false), M_X10_lay) = true := by decide +kernel
theorem ok_X10_get : mm_okM ((10, yX10_get, cX10_get, 5, (some .int), false, false), M_X10_get) = true := by decide +kernel
theorem ok_X10_copy : mm_okM ((10, yX10_copy, cX10_copy, 8, (some .int), false, false), M_X10_copy) = true := by decide +kernel
theorem ok_X10_write : mm_okM ((10, yX10_write, cX10_write, 5, (some .int), false, false), M_X10_write) = true := by decide +kernel
theorem ok_X10_count : mm_okM ((10, yX10_count, cX10_count, 2, (some .int), false, false), M_X10_count) = true := by decide +kernel
theorem ok_X10_digest : mm_okM ((10, yX10_digest, cX10_digest, 4, (some .long), false, false), M_X10_digest) = true := by decide +kernel
theorem ok_X10_mix : mm_okM ((10, yX10_mix, cX10_mix, 4, (some .long), true, false), M_X10_mix) = true := by decide +kernel
theorem ok_X10_mixTold : mm_okM ((10, yX10_mixTold, cX10_mixTold, 10, (some .long), false, false), M_X10_mixTold) = true := by decide +kernel
theorem ok_X10_mixFound : mm_okM ((10, yX10_mixFound, cX10_mixFound, 6, (some .long), false, false), M_X10_mixFound) = true := by decide +kernel
theorem ok_X10_timesLetGo : mm_okM ((10, yX10_timesLetGo, cX10_timesLetGo, 3, (some .int), false, false), M_X10_timesLetGo) = true := by decide +kernel
theorem ok_X10_learn : mm_okM ((10, yX10_learn, cX10_learn, 2, none, false, false), M_X10_learn) = true := by decide +kernel
theorem ok_X10_found : mm_okM ((10, yX10_found, cX10_found, 2, (some .int), false, false), M_X10_found) = true := by decide +kernel
theorem ok_X10_findingAt : mm_okM ((10, yX10_findingAt, cX10_findingAt, 4, (some .int), false, false), M_X10_findingAt) = true := by decide +kernel
theorem ok_X10_isWithin : mm_okM ((10, yX10_isWithin, cX10_isWithin, 2, (some .boolean), true, false), M_X10_isWithin) = true := by decide +kernel
theorem ok_X10_isText : mm_okM ((10, yX10_isText, cX10_isText, 1, (some .boolean), true, false), M_X10_isText) = true := by decide +kernel
theorem ok_X10_isHour : mm_okM ((10, yX10_isHour, cX10_isHour, 1, (some .boolean), true, false), M_X10_isHour) = true := by decide +kernel
theorem ok_X10_isSlice : mm_okM ((10, yX10_isSlice, cX10_isSlice, 2, (some .boolean), false, false), M_X10_isSlice) = true := by decide +kernel
theorem ok_X10_isSheet : mm_okM ((10, yX10_isSheet, cX10_isSheet, 1, (some .boolean), true, false), M_X10_isSheet) = true := by decide +kernel
theorem ok_X10_isForm : mm_okM ((10, yX10_isForm, cX10_isForm, 1, (some .boolean), true, false), M_X10_isForm) = true := by decide +kernel
theorem ok_X10_isFigure : mm_okM ((10, yX10_isFigure, cX10_isFigure, 1, (some .boolean), true, false), M_X10_isFigure) = true := by decide +kernel
theorem ok_X11_init : mm_okM ((11, yX11_init, cX11_init, 2, none, false, true), M_X11_init) = true := by decide +kernel
theorem ok_X11_in : mm_okM ((11, yX11_in, cX11_in, 6, (some .boolean), true, false), M_X11_in) = true := by decide +kernel
theorem ok_X11_no : mm_okM ((11, yX11_no, cX11_no, 1, (some .long), true, false), M_X11_no) = true := by decide +kernel
theorem ok_X11_isTwo : mm_okM ((11, yX11_isTwo, cX11_isTwo, 1, (some .boolean), true, false), M_X11_isTwo) = true := by decide +kernel
theorem ok_X11_isIn : mm_okM ((11, yX11_isIn, cX11_isIn, 2, (some .boolean), true, false), M_X11_isIn) = true := by decide +kernel
theorem ok_X11_lesser : mm_okM ((11, yX11_lesser, cX11_lesser, 2, (some .int), true, false), M_X11_lesser) = true := by decide +kernel
theorem ok_X11_greater : mm_okM ((11, yX11_greater, cX11_greater, 2, (some .int), true, false), M_X11_greater) = true := by decide +kernel
theorem ok_X11_part : mm_okM ((11, yX11_part, cX11_part, 11, (some .long), true, false), M_X11_part) = true := by decide +kernel
theorem ok_X11_finds : mm_okM ((11, yX11_finds, cX11_finds, 2, (some .int), false, false), M_X11_finds) = true := by decide +kernel
theorem ok_X11_isSheet : mm_okM ((11, yX11_isSheet, cX11_isSheet, 1, (some .boolean), true, false), M_X11_isSheet) = true := by decide +kernel
theorem ok_X11_sheet : mm_okM ((11, yX11_sheet, cX11_sheet, 5, (some .int), false, false), M_X11_sheet) = true := by decide +kernel
theorem ok_X11_lose : mm_okM ((11, yX11_lose, cX11_lose, 2, (some .int), false, false), M_X11_lose) = true := by decide +kernel
theorem ok_X11_lacks : mm_okM ((11, yX11_lacks, cX11_lacks, 4, (some .int), false, false), M_X11_lacks) = true := by decide +kernel
theorem ok_X11_cut : mm_okM ((11, yX11_cut, cX11_cut, 2, (some .int), true, false), M_X11_cut) = true := by decide +kernel
theorem ok_X11_lay : mm_okM ((11, yX11_lay, cX11_lay, 6, (some .int), false, false), M_X11_lay) = true := by decide +kernel
theorem ok_X11_get : mm_okM ((11, yX11_get, cX11_get, 4, (some .int), false, false), M_X11_get) = true := by decide +kernel
theorem ok_X11_copy : mm_okM ((11, yX11_copy, cX11_copy, 7, (some .int), false, false), M_X11_copy) = true := by decide +kernel
theorem ok_X11_type : mm_okM ((11, yX11_type, cX11_type, 3, (some .int), false, false), M_X11_type) = true := by decide +kernel
theorem ok_X11_wipe : mm_okM ((11, yX11_wipe, cX11_wipe, 3, (some .int), false, false), M_X11_wipe) = true := by decide +kernel
theorem ok_X11_undo : mm_okM ((11, yX11_undo, cX11_undo, 2, (some .int), false, false), M_X11_undo) = true := by decide +kernel
theorem ok_X11_figureOf : mm_okM ((11, yX11_figureOf, cX11_figureOf, 1, (some .int), true, false), M_X11_figureOf) = true := by decide +kernel
theorem ok_X11_sliceOf : mm_okM ((11, yX11_sliceOf, cX11_sliceOf, 2, (some .int), true, false), M_X11_sliceOf) = true := by decide +kernel
theorem ok_X11_readsRack : mm_okM ((11, yX11_readsRack, cX11_readsRack, 3, (some .int), false, false), M_X11_readsRack) = true := by decide +kernel
theorem ok_X11_readsSlices : mm_okM ((11, yX11_readsSlices, cX11_readsSlices, 6, (some .int), false, false), M_X11_readsSlices) = true := by decide +kernel
theorem ok_X11_fault : mm_okM ((11, yX11_fault, cX11_fault, 2, (some .int), false, false), M_X11_fault) = true := by decide +kernel
theorem ok_X11_isSlice : mm_okM ((11, yX11_isSlice, cX11_isSlice, 2, (some .boolean), false, false), M_X11_isSlice) = true := by decide +kernel
theorem ok_X11_isHour : mm_okM ((11, yX11_isHour, cX11_isHour, 1, (some .boolean), true, false), M_X11_isHour) = true := by decide +kernel
theorem ok_X11_draws : mm_okM ((11, yX11_draws, cX11_draws, 2, (some .int), false, false), M_X11_draws) = true := by decide +kernel
theorem ok_X11_slice : mm_okM ((11, yX11_slice, cX11_slice, 3, (some .int), false, false), M_X11_slice) = true := by decide +kernel
theorem ok_X11_set : mm_okM ((11, yX11_set, cX11_set, 4, (some .int), false, false), M_X11_set) = true := by decide +kernel
theorem ok_X11_butter : mm_okM ((11, yX11_butter, cX11_butter, 3, (some .int), false, false), M_X11_butter) = true := by decide +kernel
theorem ok_X11_fire : mm_okM ((11, yX11_fire, cX11_fire, 2, (some .int), false, false), M_X11_fire) = true := by decide +kernel
theorem ok_X11_back : mm_okM ((11, yX11_back, cX11_back, 3, (some .int), false, false), M_X11_back) = true := by decide +kernel
theorem ok_X11_read : mm_okM ((11, yX11_read, cX11_read, 4, (some .int), false, false), M_X11_read) = true := by decide +kernel
theorem ok_X11_isHere : mm_okM ((11, yX11_isHere, cX11_isHere, 2, (some .boolean), false, false), M_X11_isHere) = true := by decide +kernel
theorem ok_X11_standingIn : mm_okM ((11, yX11_standingIn, cX11_standingIn, 3, (some .int), false, false), M_X11_standingIn) = true := by decide +kernel
theorem ok_X11_comesAgain : mm_okM ((11, yX11_comesAgain, cX11_comesAgain, 3, none, false, false), M_X11_comesAgain) = true := by decide +kernel
theorem ok_X11_burns : mm_okM ((11, yX11_burns, cX11_burns, 4, none, false, false), M_X11_burns) = true := by decide +kernel
theorem ok_X11_spreads : mm_okM ((11, yX11_spreads, cX11_spreads, 4, none, false, false), M_X11_spreads) = true := by decide +kernel
theorem ok_X11_hotter : mm_okM ((11, yX11_hotter, cX11_hotter, 4, (some .int), false, false), M_X11_hotter) = true := by decide +kernel
theorem ok_X11_coolsBy : mm_okM ((11, yX11_coolsBy, cX11_coolsBy, 6, (some .int), false, false), M_X11_coolsBy) = true := by decide +kernel
theorem ok_X11_cool : mm_okM ((11, yX11_cool, cX11_cool, 3, none, false, false), M_X11_cool) = true := by decide +kernel
theorem ok_X11_lives : mm_okM ((11, yX11_lives, cX11_lives, 4, none, false, false), M_X11_lives) = true := by decide +kernel
theorem ok_X11_find : mm_okM ((11, yX11_find, cX11_find, 1, none, false, false), M_X11_find) = true := by decide +kernel
theorem ok_X11_heat : mm_okM ((11, yX11_heat, cX11_heat, 3, (some .int), false, false), M_X11_heat) = true := by decide +kernel
theorem ok_X11_state : mm_okM ((11, yX11_state, cX11_state, 3, (some .int), false, false), M_X11_state) = true := by decide +kernel
theorem ok_X11_heldBy : mm_okM ((11, yX11_heldBy, cX11_heldBy, 4, (some .int), false, false), M_X11_heldBy) = true := by decide +kernel
theorem ok_X11_held : mm_okM ((11, yX11_held, cX11_held, 2, (some .int), false, false), M_X11_held) = true := by decide +kernel
theorem ok_X11_freedBy : mm_okM ((11, yX11_freedBy, cX11_freedBy, 3, (some .int), false, false), M_X11_freedBy) = true := by decide +kernel
theorem ok_X11_freed : mm_okM ((11, yX11_freed, cX11_freed, 3, (some .int), false, false), M_X11_freed) = true := by decide +kernel
theorem ok_X11_spoiltNow : mm_okM ((11, yX11_spoiltNow, cX11_spoiltNow, 3, (some .int), false, false), M_X11_spoiltNow) = true := by decide +kernel
theorem ok_X11_spoilt : mm_okM ((11, yX11_spoilt, cX11_spoilt, 1, (some .int), false, false), M_X11_spoilt) = true := by decide +kernel
theorem ok_X11_here : mm_okM ((11, yX11_here, cX11_here, 4, (some .int), false, false), M_X11_here) = true := by decide +kernel
theorem ok_X11_quietNow : mm_okM ((11, yX11_quietNow, cX11_quietNow, 2, (some .int), false, false), M_X11_quietNow) = true := by decide +kernel
theorem ok_X11_quiet : mm_okM ((11, yX11_quiet, cX11_quiet, 1, (some .int), false, false), M_X11_quiet) = true := by decide +kernel
theorem ok_X11_crowdBy : mm_okM ((11, yX11_crowdBy, cX11_crowdBy, 4, (some .int), false, false), M_X11_crowdBy) = true := by decide +kernel
theorem ok_X11_crowd : mm_okM ((11, yX11_crowd, cX11_crowd, 2, (some .int), false, false), M_X11_crowd) = true := by decide +kernel
theorem ok_X11_moveOf : mm_okM ((11, yX11_moveOf, cX11_moveOf, 8, (some .int), false, false), M_X11_moveOf) = true := by decide +kernel
theorem ok_X11_move : mm_okM ((11, yX11_move, cX11_move, 3, (some .int), false, false), M_X11_move) = true := by decide +kernel
theorem ok_X11_allHere : mm_okM ((11, yX11_allHere, cX11_allHere, 3, (some .int), false, false), M_X11_allHere) = true := by decide +kernel
theorem ok_X11_changes : mm_okM ((11, yX11_changes, cX11_changes, 4, none, false, false), M_X11_changes) = true := by decide +kernel
theorem ok_X11_swapBy : mm_okM ((11, yX11_swapBy, cX11_swapBy, 8, (some .int), false, false), M_X11_swapBy) = true := by decide +kernel
theorem ok_X11_swap : mm_okM ((11, yX11_swap, cX11_swap, 2, (some .int), false, false), M_X11_swap) = true := by decide +kernel
theorem ok_X11_line : mm_okM ((11, yX11_line, cX11_line, 2, (some .int), false, false), M_X11_line) = true := by decide +kernel
theorem ok_X11_bearNow : mm_okM ((11, yX11_bearNow, cX11_bearNow, 4, (some .int), false, false), M_X11_bearNow) = true := by decide +kernel
theorem ok_X11_bear : mm_okM ((11, yX11_bear, cX11_bear, 1, (some .int), false, false), M_X11_bear) = true := by decide +kernel
theorem ok_X11_seen : mm_okM ((11, yX11_seen, cX11_seen, 4, (some .int), false, false), M_X11_seen) = true := by decide +kernel
theorem ok_X11_forget : mm_okM ((11, yX11_forget, cX11_forget, 2, (some .int), false, false), M_X11_forget) = true := by decide +kernel
theorem ok_X11_isSeen : mm_okM ((11, yX11_isSeen, cX11_isSeen, 4, (some .boolean), false, false), M_X11_isSeen) = true := by decide +kernel
theorem ok_X11_heatsOf : mm_okM ((11, yX11_heatsOf, cX11_heatsOf, 8, (some .int), false, false), M_X11_heatsOf) = true := by decide +kernel
theorem ok_X11_heats : mm_okM ((11, yX11_heats, cX11_heats, 3, (some .int), false, false), M_X11_heats) = true := by decide +kernel
theorem ok_X11_slotsOf : mm_okM ((11, yX11_slotsOf, cX11_slotsOf, 5, (some .int), false, false), M_X11_slotsOf) = true := by decide +kernel
theorem ok_X11_slots : mm_okM ((11, yX11_slots, cX11_slots, 2, (some .int), false, false), M_X11_slots) = true := by decide +kernel
theorem ok_X11_askOf : mm_okM ((11, yX11_askOf, cX11_askOf, 8, (some .int), false, false), M_X11_askOf) = true := by decide +kernel
theorem ok_X11_ask : mm_okM ((11, yX11_ask, cX11_ask, 2, (some .int), false, false), M_X11_ask) = true := by decide +kernel
theorem ok_X11_windowOf : mm_okM ((11, yX11_windowOf, cX11_windowOf, 12, (some .long), false, false), M_X11_windowOf) = true := by decide +kernel
theorem ok_X11_window : mm_okM ((11, yX11_window, cX11_window, 6, (some .long), false, false), M_X11_window) = true := by decide +kernel
theorem ok_X11_lot : mm_okM ((11, yX11_lot, cX11_lot, 2, (some .int), false, false), M_X11_lot) = true := by decide +kernel
theorem ok_X11_othersOf : mm_okM ((11, yX11_othersOf, cX11_othersOf, 5, (some .int), false, false), M_X11_othersOf) = true := by decide +kernel
theorem ok_X11_others : mm_okM ((11, yX11_others, cX11_others, 3, (some .int), false, false), M_X11_others) = true := by decide +kernel
theorem ok_X11_write : mm_okM ((11, yX11_write, cX11_write, 5, (some .int), false, false), M_X11_write) = true := by decide +kernel
theorem ok_X11_allFreed : mm_okM ((11, yX11_allFreed, cX11_allFreed, 3, (some .int), false, false), M_X11_allFreed) = true := by decide +kernel
theorem ok_X11_count : mm_okM ((11, yX11_count, cX11_count, 2, (some .int), false, false), M_X11_count) = true := by decide +kernel
theorem ok_X11_tellsSlice : mm_okM ((11, yX11_tellsSlice, cX11_tellsSlice, 8, (some .long), false, false), M_X11_tellsSlice) = true := by decide +kernel
theorem ok_X11_digest : mm_okM ((11, yX11_digest, cX11_digest, 4, (some .long), false, false), M_X11_digest) = true := by decide +kernel
theorem ok_L_law : mm_okM ((12, yL_law, cL_law, 4, (some .boolean), true, false), M_L_law) = true := by decide +kernel
theorem mm_zok0 : ∀ t ∈ mm_z0, mm_okM t = true := List.forall_mem_cons.mpr ⟨ok_X0_init, List.forall_mem_cons.mpr ⟨ok_X0_begin, List.forall_mem_cons.mpr ⟨ok_X0_goThrough, List.forall_mem_cons.mpr ⟨ok_X0_follow, List.forall_mem_cons.mpr ⟨ok_X0_untilButters, List.forall_mem_cons.mpr ⟨ok_X0_fromButters, List.forall_mem_cons.mpr ⟨ok_X0_isIn, List.forall_mem_cons.mpr ⟨ok_X0_howManyIn, List.forall_mem_cons.mpr ⟨ok_X0_comeAgain, List.forall_mem_cons.mpr ⟨ok_X0_takePlaces, List.forall_mem_cons.mpr ⟨ok_X0_warm, List.forall_mem_cons.mpr ⟨ok_X0_spread, List.forall_mem_cons.mpr ⟨ok_X0_leave, List.forall_mem_cons.mpr ⟨ok_X0_feelWarmth, List.forall_mem_cons.mpr ⟨ok_X0_cooling, List.forall_mem_cons.mpr ⟨ok_X0_letGo, fun _ h => absurd h List.not_mem_nil⟩⟩⟩⟩⟩⟩⟩⟩⟩⟩⟩⟩⟩⟩⟩⟩
theorem mm_zok1 : ∀ t ∈ mm_z1, mm_okM t = true := List.forall_mem_cons.mpr ⟨ok_X1_init, List.forall_mem_cons.mpr ⟨ok_X1_findHeats, List.forall_mem_cons.mpr ⟨ok_X1_heatAt, List.forall_mem_cons.mpr ⟨ok_X1_slotsOf, List.forall_mem_cons.mpr ⟨ok_X1_nextToTouch, List.forall_mem_cons.mpr ⟨ok_X1_tallyNoted, List.forall_mem_cons.mpr ⟨ok_X1_leastOfTheGreatest, List.forall_mem_cons.mpr ⟨ok_X1_allComesOut, List.forall_mem_cons.mpr ⟨ok_X2_init, List.forall_mem_cons.mpr ⟨ok_X2_bringUpToDate, List.forall_mem_cons.mpr ⟨ok_X2_leastLeaning, List.forall_mem_cons.mpr ⟨ok_X3_init, List.forall_mem_cons.mpr ⟨ok_X3_draw, List.forall_mem_cons.mpr ⟨ok_X3_howManyAre, List.forall_mem_cons.mpr ⟨ok_X4_init, List.forall_mem_cons.mpr ⟨ok_X4_findMove, fun _ h => absurd h List.not_mem_nil⟩⟩⟩⟩⟩⟩⟩⟩⟩⟩⟩⟩⟩⟩⟩⟩
theorem mm_zok2 : ∀ t ∈ mm_z2, mm_okM t = true := List.forall_mem_cons.mpr ⟨ok_X4_letGoBefore, List.forall_mem_cons.mpr ⟨ok_X4_findSwap, List.forall_mem_cons.mpr ⟨ok_X4_stayIfSwapped, List.forall_mem_cons.mpr ⟨ok_X4_changeSlots, List.forall_mem_cons.mpr ⟨ok_X4_stayOfAll, List.forall_mem_cons.mpr ⟨ok_X4_firstButterHour, List.forall_mem_cons.mpr ⟨ok_X4_greatestSummer, List.forall_mem_cons.mpr ⟨ok_X5_init, List.forall_mem_cons.mpr ⟨ok_X5_takeRack, List.forall_mem_cons.mpr ⟨ok_X5_takeSlices, List.forall_mem_cons.mpr ⟨ok_X5_firesIn, List.forall_mem_cons.mpr ⟨ok_X6_init, List.forall_mem_cons.mpr ⟨ok_X6_isLost, List.forall_mem_cons.mpr ⟨ok_X6_renew, List.forall_mem_cons.mpr ⟨ok_X6_put, List.forall_mem_cons.mpr ⟨ok_X6_hasRun, fun _ h => absurd h List.not_mem_nil⟩⟩⟩⟩⟩⟩⟩⟩⟩⟩⟩⟩⟩⟩⟩⟩
theorem mm_zok3 : ∀ t ∈ mm_z3, mm_okM t = true := List.forall_mem_cons.mpr ⟨ok_X7_init, List.forall_mem_cons.mpr ⟨ok_X7_add, List.forall_mem_cons.mpr ⟨ok_X7_lastHour, List.forall_mem_cons.mpr ⟨ok_X7_agreeWith, List.forall_mem_cons.mpr ⟨ok_X8_init, List.forall_mem_cons.mpr ⟨ok_X8_faultAsRack, List.forall_mem_cons.mpr ⟨ok_X8_faultAsSlices, List.forall_mem_cons.mpr ⟨ok_X8_goesOn, List.forall_mem_cons.mpr ⟨ok_X8_kindOf, List.forall_mem_cons.mpr ⟨ok_X9_init, List.forall_mem_cons.mpr ⟨ok_X9_weigh, List.forall_mem_cons.mpr ⟨ok_X9_ways, List.forall_mem_cons.mpr ⟨ok_X9_isLetGoFrom, List.forall_mem_cons.mpr ⟨ok_X10_init, List.forall_mem_cons.mpr ⟨ok_X10_type, List.forall_mem_cons.mpr ⟨ok_X10_wipe, fun _ h => absurd h List.not_mem_nil⟩⟩⟩⟩⟩⟩⟩⟩⟩⟩⟩⟩⟩⟩⟩⟩
theorem mm_zok4 : ∀ t ∈ mm_z4, mm_okM t = true := List.forall_mem_cons.mpr ⟨ok_X10_undo, List.forall_mem_cons.mpr ⟨ok_X10_fault, List.forall_mem_cons.mpr ⟨ok_X10_draws, List.forall_mem_cons.mpr ⟨ok_X10_slice, List.forall_mem_cons.mpr ⟨ok_X10_set, List.forall_mem_cons.mpr ⟨ok_X10_butter, List.forall_mem_cons.mpr ⟨ok_X10_fire, List.forall_mem_cons.mpr ⟨ok_X10_back, List.forall_mem_cons.mpr ⟨ok_X10_read, List.forall_mem_cons.mpr ⟨ok_X10_heat, List.forall_mem_cons.mpr ⟨ok_X10_state, List.forall_mem_cons.mpr ⟨ok_X10_held, List.forall_mem_cons.mpr ⟨ok_X10_freed, List.forall_mem_cons.mpr ⟨ok_X10_spoilt, List.forall_mem_cons.mpr ⟨ok_X10_quiet, List.forall_mem_cons.mpr ⟨ok_X10_crowd, fun _ h => absurd h List.not_mem_nil⟩⟩⟩⟩⟩⟩⟩⟩⟩⟩⟩⟩⟩⟩⟩⟩
theorem mm_zok5 : ∀ t ∈ mm_z5, mm_okM t = true := List.forall_mem_cons.mpr ⟨ok_X10_move, List.forall_mem_cons.mpr ⟨ok_X10_swap, List.forall_mem_cons.mpr ⟨ok_X10_line, List.forall_mem_cons.mpr ⟨ok_X10_bear, List.forall_mem_cons.mpr ⟨ok_X10_seen, List.forall_mem_cons.mpr ⟨ok_X10_forget, List.forall_mem_cons.mpr ⟨ok_X10_heats, List.forall_mem_cons.mpr ⟨ok_X10_slots, List.forall_mem_cons.mpr ⟨ok_X10_ask, List.forall_mem_cons.mpr ⟨ok_X10_window, List.forall_mem_cons.mpr ⟨ok_X10_others, List.forall_mem_cons.mpr ⟨ok_X10_sheet, List.forall_mem_cons.mpr ⟨ok_X10_lose, List.forall_mem_cons.mpr ⟨ok_X10_lay, List.forall_mem_cons.mpr ⟨ok_X10_get, List.forall_mem_cons.mpr ⟨ok_X10_copy, fun _ h => absurd h List.not_mem_nil⟩⟩⟩⟩⟩⟩⟩⟩⟩⟩⟩⟩⟩⟩⟩⟩
theorem mm_zok6 : ∀ t ∈ mm_z6, mm_okM t = true := List.forall_mem_cons.mpr ⟨ok_X10_write, List.forall_mem_cons.mpr ⟨ok_X10_count, List.forall_mem_cons.mpr ⟨ok_X10_digest, List.forall_mem_cons.mpr ⟨ok_X10_mix, List.forall_mem_cons.mpr ⟨ok_X10_mixTold, List.forall_mem_cons.mpr ⟨ok_X10_mixFound, List.forall_mem_cons.mpr ⟨ok_X10_timesLetGo, List.forall_mem_cons.mpr ⟨ok_X10_learn, List.forall_mem_cons.mpr ⟨ok_X10_found, List.forall_mem_cons.mpr ⟨ok_X10_findingAt, List.forall_mem_cons.mpr ⟨ok_X10_isWithin, List.forall_mem_cons.mpr ⟨ok_X10_isText, List.forall_mem_cons.mpr ⟨ok_X10_isHour, List.forall_mem_cons.mpr ⟨ok_X10_isSlice, List.forall_mem_cons.mpr ⟨ok_X10_isSheet, List.forall_mem_cons.mpr ⟨ok_X10_isForm, fun _ h => absurd h List.not_mem_nil⟩⟩⟩⟩⟩⟩⟩⟩⟩⟩⟩⟩⟩⟩⟩⟩
theorem mm_zok7 : ∀ t ∈ mm_z7, mm_okM t = true := List.forall_mem_cons.mpr ⟨ok_X10_isFigure, List.forall_mem_cons.mpr ⟨ok_X11_init, List.forall_mem_cons.mpr ⟨ok_X11_in, List.forall_mem_cons.mpr ⟨ok_X11_no, List.forall_mem_cons.mpr ⟨ok_X11_isTwo, List.forall_mem_cons.mpr ⟨ok_X11_isIn, List.forall_mem_cons.mpr ⟨ok_X11_lesser, List.forall_mem_cons.mpr ⟨ok_X11_greater, List.forall_mem_cons.mpr ⟨ok_X11_part, List.forall_mem_cons.mpr ⟨ok_X11_finds, List.forall_mem_cons.mpr ⟨ok_X11_isSheet, List.forall_mem_cons.mpr ⟨ok_X11_sheet, List.forall_mem_cons.mpr ⟨ok_X11_lose, List.forall_mem_cons.mpr ⟨ok_X11_lacks, List.forall_mem_cons.mpr ⟨ok_X11_cut, List.forall_mem_cons.mpr ⟨ok_X11_lay, fun _ h => absurd h List.not_mem_nil⟩⟩⟩⟩⟩⟩⟩⟩⟩⟩⟩⟩⟩⟩⟩⟩
theorem mm_zok8 : ∀ t ∈ mm_z8, mm_okM t = true := List.forall_mem_cons.mpr ⟨ok_X11_get, List.forall_mem_cons.mpr ⟨ok_X11_copy, List.forall_mem_cons.mpr ⟨ok_X11_type, List.forall_mem_cons.mpr ⟨ok_X11_wipe, List.forall_mem_cons.mpr ⟨ok_X11_undo, List.forall_mem_cons.mpr ⟨ok_X11_figureOf, List.forall_mem_cons.mpr ⟨ok_X11_sliceOf, List.forall_mem_cons.mpr ⟨ok_X11_readsRack, List.forall_mem_cons.mpr ⟨ok_X11_readsSlices, List.forall_mem_cons.mpr ⟨ok_X11_fault, List.forall_mem_cons.mpr ⟨ok_X11_isSlice, List.forall_mem_cons.mpr ⟨ok_X11_isHour, List.forall_mem_cons.mpr ⟨ok_X11_draws, List.forall_mem_cons.mpr ⟨ok_X11_slice, List.forall_mem_cons.mpr ⟨ok_X11_set, List.forall_mem_cons.mpr ⟨ok_X11_butter, fun _ h => absurd h List.not_mem_nil⟩⟩⟩⟩⟩⟩⟩⟩⟩⟩⟩⟩⟩⟩⟩⟩
theorem mm_zok9 : ∀ t ∈ mm_z9, mm_okM t = true := List.forall_mem_cons.mpr ⟨ok_X11_fire, List.forall_mem_cons.mpr ⟨ok_X11_back, List.forall_mem_cons.mpr ⟨ok_X11_read, List.forall_mem_cons.mpr ⟨ok_X11_isHere, List.forall_mem_cons.mpr ⟨ok_X11_standingIn, List.forall_mem_cons.mpr ⟨ok_X11_comesAgain, List.forall_mem_cons.mpr ⟨ok_X11_burns, List.forall_mem_cons.mpr ⟨ok_X11_spreads, List.forall_mem_cons.mpr ⟨ok_X11_hotter, List.forall_mem_cons.mpr ⟨ok_X11_coolsBy, List.forall_mem_cons.mpr ⟨ok_X11_cool, List.forall_mem_cons.mpr ⟨ok_X11_lives, List.forall_mem_cons.mpr ⟨ok_X11_find, List.forall_mem_cons.mpr ⟨ok_X11_heat, List.forall_mem_cons.mpr ⟨ok_X11_state, List.forall_mem_cons.mpr ⟨ok_X11_heldBy, fun _ h => absurd h List.not_mem_nil⟩⟩⟩⟩⟩⟩⟩⟩⟩⟩⟩⟩⟩⟩⟩⟩
theorem mm_zok10 : ∀ t ∈ mm_z10, mm_okM t = true := List.forall_mem_cons.mpr ⟨ok_X11_held, List.forall_mem_cons.mpr ⟨ok_X11_freedBy, List.forall_mem_cons.mpr ⟨ok_X11_freed, List.forall_mem_cons.mpr ⟨ok_X11_spoiltNow, List.forall_mem_cons.mpr ⟨ok_X11_spoilt, List.forall_mem_cons.mpr ⟨ok_X11_here, List.forall_mem_cons.mpr ⟨ok_X11_quietNow, List.forall_mem_cons.mpr ⟨ok_X11_quiet, List.forall_mem_cons.mpr ⟨ok_X11_crowdBy, List.forall_mem_cons.mpr ⟨ok_X11_crowd, List.forall_mem_cons.mpr ⟨ok_X11_moveOf, List.forall_mem_cons.mpr ⟨ok_X11_move, List.forall_mem_cons.mpr ⟨ok_X11_allHere, List.forall_mem_cons.mpr ⟨ok_X11_changes, List.forall_mem_cons.mpr ⟨ok_X11_swapBy, List.forall_mem_cons.mpr ⟨ok_X11_swap, fun _ h => absurd h List.not_mem_nil⟩⟩⟩⟩⟩⟩⟩⟩⟩⟩⟩⟩⟩⟩⟩⟩
theorem mm_zok11 : ∀ t ∈ mm_z11, mm_okM t = true := List.forall_mem_cons.mpr ⟨ok_X11_line, List.forall_mem_cons.mpr ⟨ok_X11_bearNow, List.forall_mem_cons.mpr ⟨ok_X11_bear, List.forall_mem_cons.mpr ⟨ok_X11_seen, List.forall_mem_cons.mpr ⟨ok_X11_forget, List.forall_mem_cons.mpr ⟨ok_X11_isSeen, List.forall_mem_cons.mpr ⟨ok_X11_heatsOf, List.forall_mem_cons.mpr ⟨ok_X11_heats, List.forall_mem_cons.mpr ⟨ok_X11_slotsOf, List.forall_mem_cons.mpr ⟨ok_X11_slots, List.forall_mem_cons.mpr ⟨ok_X11_askOf, List.forall_mem_cons.mpr ⟨ok_X11_ask, List.forall_mem_cons.mpr ⟨ok_X11_windowOf, List.forall_mem_cons.mpr ⟨ok_X11_window, List.forall_mem_cons.mpr ⟨ok_X11_lot, List.forall_mem_cons.mpr ⟨ok_X11_othersOf, fun _ h => absurd h List.not_mem_nil⟩⟩⟩⟩⟩⟩⟩⟩⟩⟩⟩⟩⟩⟩⟩⟩
theorem mm_zok12 : ∀ t ∈ mm_z12, mm_okM t = true := List.forall_mem_cons.mpr ⟨ok_X11_others, List.forall_mem_cons.mpr ⟨ok_X11_write, List.forall_mem_cons.mpr ⟨ok_X11_allFreed, List.forall_mem_cons.mpr ⟨ok_X11_count, List.forall_mem_cons.mpr ⟨ok_X11_tellsSlice, List.forall_mem_cons.mpr ⟨ok_X11_digest, fun _ h => absurd h List.not_mem_nil⟩⟩⟩⟩⟩⟩
theorem mm_zok : ∀ t ∈ mm_zl, mm_okM t = true := List.forall_mem_append.mpr ⟨List.forall_mem_append.mpr ⟨mm_zok0, List.forall_mem_append.mpr ⟨mm_zok1, List.forall_mem_append.mpr ⟨mm_zok2, List.forall_mem_append.mpr ⟨mm_zok3, List.forall_mem_append.mpr ⟨mm_zok4, List.forall_mem_append.mpr ⟨mm_zok5, List.forall_mem_append.mpr ⟨mm_zok6, List.forall_mem_append.mpr ⟨mm_zok7, List.forall_mem_append.mpr ⟨mm_zok8, List.forall_mem_append.mpr ⟨mm_zok9, List.forall_mem_append.mpr ⟨mm_zok10, List.forall_mem_append.mpr ⟨mm_zok11, mm_zok12⟩⟩⟩⟩⟩⟩⟩⟩⟩⟩⟩⟩, List.forall_mem_cons.mpr ⟨ok_L_law, fun _ h => absurd h List.not_mem_nil⟩⟩
theorem tb_X0_init : mm_tab 0 = some M_X0_init := rfl
theorem tb_X0_begin : mm_tab 1 = some M_X0_begin := rfl
theorem tb_X0_goThrough : mm_tab 2 = some M_X0_goThrough := rfl
theorem tb_X0_follow : mm_tab 3 = some M_X0_follow := rfl
theorem tb_X0_untilButters : mm_tab 4 = some M_X0_untilButters := rfl
theorem tb_X0_fromButters : mm_tab 5 = some M_X0_fromButters := rfl
theorem tb_X0_isIn : mm_tab 6 = some M_X0_isIn := rfl
theorem tb_X0_howManyIn : mm_tab 7 = some M_X0_howManyIn := rfl
theorem tb_X0_comeAgain : mm_tab 8 = some M_X0_comeAgain := rfl
theorem tb_X0_takePlaces : mm_tab 9 = some M_X0_takePlaces := rfl
theorem tb_X0_warm : mm_tab 10 = some M_X0_warm := rfl
theorem tb_X0_spread : mm_tab 11 = some M_X0_spread := rfl
theorem tb_X0_leave : mm_tab 12 = some M_X0_leave := rfl
theorem tb_X0_feelWarmth : mm_tab 13 = some M_X0_feelWarmth := rfl
theorem tb_X0_cooling : mm_tab 14 = some M_X0_cooling := rfl
theorem tb_X0_letGo : mm_tab 15 = some M_X0_letGo := rfl
theorem tb_X1_init : mm_tab 16 = some M_X1_init := rfl
theorem tb_X1_findHeats : mm_tab 17 = some M_X1_findHeats := rfl
theorem tb_X1_heatAt : mm_tab 18 = some M_X1_heatAt := rfl
theorem tb_X1_slotsOf : mm_tab 19 = some M_X1_slotsOf := rfl
theorem tb_X1_nextToTouch : mm_tab 20 = some M_X1_nextToTouch := rfl
theorem tb_X1_tallyNoted : mm_tab 21 = some M_X1_tallyNoted := rfl
theorem tb_X1_leastOfTheGreatest : mm_tab 22 = some M_X1_leastOfTheGreatest := rfl
theorem tb_X1_allComesOut : mm_tab 23 = some M_X1_allComesOut := rfl
theorem tb_X2_init : mm_tab 24 = some M_X2_init := rfl
theorem tb_X2_bringUpToDate : mm_tab 25 = some M_X2_bringUpToDate := rfl
theorem tb_X2_leastLeaning : mm_tab 26 = some M_X2_leastLeaning := rfl
theorem tb_X3_init : mm_tab 27 = some M_X3_init := rfl
theorem tb_X3_draw : mm_tab 28 = some M_X3_draw := rfl
theorem tb_X3_howManyAre : mm_tab 29 = some M_X3_howManyAre := rfl
theorem tb_X4_init : mm_tab 30 = some M_X4_init := rfl
theorem tb_X4_findMove : mm_tab 31 = some M_X4_findMove := rfl
theorem tb_X4_letGoBefore : mm_tab 32 = some M_X4_letGoBefore := rfl
theorem tb_X4_findSwap : mm_tab 33 = some M_X4_findSwap := rfl
theorem tb_X4_stayIfSwapped : mm_tab 34 = some M_X4_stayIfSwapped := rfl
theorem tb_X4_changeSlots : mm_tab 35 = some M_X4_changeSlots := rfl
theorem tb_X4_stayOfAll : mm_tab 36 = some M_X4_stayOfAll := rfl
theorem tb_X4_firstButterHour : mm_tab 37 = some M_X4_firstButterHour := rfl
theorem tb_X4_greatestSummer : mm_tab 38 = some M_X4_greatestSummer := rfl
theorem tb_X5_init : mm_tab 39 = some M_X5_init := rfl
theorem tb_X5_takeRack : mm_tab 40 = some M_X5_takeRack := rfl
theorem tb_X5_takeSlices : mm_tab 41 = some M_X5_takeSlices := rfl
theorem tb_X5_firesIn : mm_tab 42 = some M_X5_firesIn := rfl
theorem tb_X6_init : mm_tab 43 = some M_X6_init := rfl
theorem tb_X6_isLost : mm_tab 44 = some M_X6_isLost := rfl
theorem tb_X6_renew : mm_tab 45 = some M_X6_renew := rfl
theorem tb_X6_put : mm_tab 46 = some M_X6_put := rfl
theorem tb_X6_hasRun : mm_tab 47 = some M_X6_hasRun := rfl
theorem tb_X7_init : mm_tab 48 = some M_X7_init := rfl
theorem tb_X7_add : mm_tab 49 = some M_X7_add := rfl
theorem tb_X7_lastHour : mm_tab 50 = some M_X7_lastHour := rfl
theorem tb_X7_agreeWith : mm_tab 51 = some M_X7_agreeWith := rfl
theorem tb_X8_init : mm_tab 52 = some M_X8_init := rfl
theorem tb_X8_faultAsRack : mm_tab 53 = some M_X8_faultAsRack := rfl
theorem tb_X8_faultAsSlices : mm_tab 54 = some M_X8_faultAsSlices := rfl
theorem tb_X8_goesOn : mm_tab 55 = some M_X8_goesOn := rfl
theorem tb_X8_kindOf : mm_tab 56 = some M_X8_kindOf := rfl
theorem tb_X9_init : mm_tab 57 = some M_X9_init := rfl
theorem tb_X9_weigh : mm_tab 58 = some M_X9_weigh := rfl
theorem tb_X9_ways : mm_tab 59 = some M_X9_ways := rfl
theorem tb_X9_isLetGoFrom : mm_tab 60 = some M_X9_isLetGoFrom := rfl
theorem tb_X10_init : mm_tab 61 = some M_X10_init := rfl
theorem tb_X10_type : mm_tab 62 = some M_X10_type := rfl
theorem tb_X10_wipe : mm_tab 63 = some M_X10_wipe := rfl
theorem tb_X10_undo : mm_tab 64 = some M_X10_undo := rfl
theorem tb_X10_fault : mm_tab 65 = some M_X10_fault := rfl
theorem tb_X10_draws : mm_tab 66 = some M_X10_draws := rfl
theorem tb_X10_slice : mm_tab 67 = some M_X10_slice := rfl
theorem tb_X10_set : mm_tab 68 = some M_X10_set := rfl
theorem tb_X10_butter : mm_tab 69 = some M_X10_butter := rfl
theorem tb_X10_fire : mm_tab 70 = some M_X10_fire := rfl
theorem tb_X10_back : mm_tab 71 = some M_X10_back := rfl
theorem tb_X10_read : mm_tab 72 = some M_X10_read := rfl
theorem tb_X10_heat : mm_tab 73 = some M_X10_heat := rfl
theorem tb_X10_state : mm_tab 74 = some M_X10_state := rfl
theorem tb_X10_held : mm_tab 75 = some M_X10_held := rfl
theorem tb_X10_freed : mm_tab 76 = some M_X10_freed := rfl
theorem tb_X10_spoilt : mm_tab 77 = some M_X10_spoilt := rfl
theorem tb_X10_quiet : mm_tab 78 = some M_X10_quiet := rfl
theorem tb_X10_crowd : mm_tab 79 = some M_X10_crowd := rfl
theorem tb_X10_move : mm_tab 80 = some M_X10_move := rfl
theorem tb_X10_swap : mm_tab 81 = some M_X10_swap := rfl
theorem tb_X10_line : mm_tab 82 = some M_X10_line := rfl
theorem tb_X10_bear : mm_tab 83 = some M_X10_bear := rfl
theorem tb_X10_seen : mm_tab 84 = some M_X10_seen := rfl
theorem tb_X10_forget : mm_tab 85 = some M_X10_forget := rfl
theorem tb_X10_heats : mm_tab 86 = some M_X10_heats := rfl
theorem tb_X10_slots : mm_tab 87 = some M_X10_slots := rfl
theorem tb_X10_ask : mm_tab 88 = some M_X10_ask := rfl
theorem tb_X10_window : mm_tab 89 = some M_X10_window := rfl
theorem tb_X10_others : mm_tab 90 = some M_X10_others := rfl
theorem tb_X10_sheet : mm_tab 91 = some M_X10_sheet := rfl
theorem tb_X10_lose : mm_tab 92 = some M_X10_lose := rfl
theorem tb_X10_lay : mm_tab 93 = some M_X10_lay := rfl
theorem tb_X10_get : mm_tab 94 = some M_X10_get := rfl
theorem tb_X10_copy : mm_tab 95 = some M_X10_copy := rfl
theorem tb_X10_write : mm_tab 96 = some M_X10_write := rfl
theorem tb_X10_count : mm_tab 97 = some M_X10_count := rfl
theorem tb_X10_digest : mm_tab 98 = some M_X10_digest := rfl
theorem tb_X10_mix : mm_tab 99 = some M_X10_mix := rfl
theorem tb_X10_mixTold : mm_tab 100 = some M_X10_mixTold := rfl
theorem tb_X10_mixFound : mm_tab 101 = some M_X10_mixFound := rfl
theorem tb_X10_timesLetGo : mm_tab 102 = some M_X10_timesLetGo := rfl
theorem tb_X10_learn : mm_tab 103 = some M_X10_learn := rfl
theorem tb_X10_found : mm_tab 104 = some M_X10_found := rfl
theorem tb_X10_findingAt : mm_tab 105 = some M_X10_findingAt := rfl
theorem tb_X10_isWithin : mm_tab 106 = some M_X10_isWithin := rfl
theorem tb_X10_isText : mm_tab 107 = some M_X10_isText := rfl
theorem tb_X10_isHour : mm_tab 108 = some M_X10_isHour := rfl
theorem tb_X10_isSlice : mm_tab 109 = some M_X10_isSlice := rfl
theorem tb_X10_isSheet : mm_tab 110 = some M_X10_isSheet := rfl
theorem tb_X10_isForm : mm_tab 111 = some M_X10_isForm := rfl
theorem tb_X10_isFigure : mm_tab 112 = some M_X10_isFigure := rfl
theorem tb_X11_init : mm_tab 113 = some M_X11_init := rfl
theorem tb_X11_in : mm_tab 114 = some M_X11_in := rfl
theorem tb_X11_no : mm_tab 115 = some M_X11_no := rfl
theorem tb_X11_isTwo : mm_tab 116 = some M_X11_isTwo := rfl
theorem tb_X11_isIn : mm_tab 117 = some M_X11_isIn := rfl
theorem tb_X11_lesser : mm_tab 118 = some M_X11_lesser := rfl
theorem tb_X11_greater : mm_tab 119 = some M_X11_greater := rfl
theorem tb_X11_part : mm_tab 120 = some M_X11_part := rfl
theorem tb_X11_finds : mm_tab 121 = some M_X11_finds := rfl
theorem tb_X11_isSheet : mm_tab 122 = some M_X11_isSheet := rfl
theorem tb_X11_sheet : mm_tab 123 = some M_X11_sheet := rfl
theorem tb_X11_lose : mm_tab 124 = some M_X11_lose := rfl
theorem tb_X11_lacks : mm_tab 125 = some M_X11_lacks := rfl
theorem tb_X11_cut : mm_tab 126 = some M_X11_cut := rfl
theorem tb_X11_lay : mm_tab 127 = some M_X11_lay := rfl
theorem tb_X11_get : mm_tab 128 = some M_X11_get := rfl
theorem tb_X11_copy : mm_tab 129 = some M_X11_copy := rfl
theorem tb_X11_type : mm_tab 130 = some M_X11_type := rfl
theorem tb_X11_wipe : mm_tab 131 = some M_X11_wipe := rfl
theorem tb_X11_undo : mm_tab 132 = some M_X11_undo := rfl
theorem tb_X11_figureOf : mm_tab 133 = some M_X11_figureOf := rfl
theorem tb_X11_sliceOf : mm_tab 134 = some M_X11_sliceOf := rfl
theorem tb_X11_readsRack : mm_tab 135 = some M_X11_readsRack := rfl
theorem tb_X11_readsSlices : mm_tab 136 = some M_X11_readsSlices := rfl
theorem tb_X11_fault : mm_tab 137 = some M_X11_fault := rfl
theorem tb_X11_isSlice : mm_tab 138 = some M_X11_isSlice := rfl
theorem tb_X11_isHour : mm_tab 139 = some M_X11_isHour := rfl
theorem tb_X11_draws : mm_tab 140 = some M_X11_draws := rfl
theorem tb_X11_slice : mm_tab 141 = some M_X11_slice := rfl
theorem tb_X11_set : mm_tab 142 = some M_X11_set := rfl
theorem tb_X11_butter : mm_tab 143 = some M_X11_butter := rfl
theorem tb_X11_fire : mm_tab 144 = some M_X11_fire := rfl
theorem tb_X11_back : mm_tab 145 = some M_X11_back := rfl
theorem tb_X11_read : mm_tab 146 = some M_X11_read := rfl
theorem tb_X11_isHere : mm_tab 147 = some M_X11_isHere := rfl
theorem tb_X11_standingIn : mm_tab 148 = some M_X11_standingIn := rfl
theorem tb_X11_comesAgain : mm_tab 149 = some M_X11_comesAgain := rfl
theorem tb_X11_burns : mm_tab 150 = some M_X11_burns := rfl
theorem tb_X11_spreads : mm_tab 151 = some M_X11_spreads := rfl
theorem tb_X11_hotter : mm_tab 152 = some M_X11_hotter := rfl
theorem tb_X11_coolsBy : mm_tab 153 = some M_X11_coolsBy := rfl
theorem tb_X11_cool : mm_tab 154 = some M_X11_cool := rfl
theorem tb_X11_lives : mm_tab 155 = some M_X11_lives := rfl
theorem tb_X11_find : mm_tab 156 = some M_X11_find := rfl
theorem tb_X11_heat : mm_tab 157 = some M_X11_heat := rfl
theorem tb_X11_state : mm_tab 158 = some M_X11_state := rfl
theorem tb_X11_heldBy : mm_tab 159 = some M_X11_heldBy := rfl
theorem tb_X11_held : mm_tab 160 = some M_X11_held := rfl
theorem tb_X11_freedBy : mm_tab 161 = some M_X11_freedBy := rfl
theorem tb_X11_freed : mm_tab 162 = some M_X11_freed := rfl
theorem tb_X11_spoiltNow : mm_tab 163 = some M_X11_spoiltNow := rfl
theorem tb_X11_spoilt : mm_tab 164 = some M_X11_spoilt := rfl
theorem tb_X11_here : mm_tab 165 = some M_X11_here := rfl
theorem tb_X11_quietNow : mm_tab 166 = some M_X11_quietNow := rfl
theorem tb_X11_quiet : mm_tab 167 = some M_X11_quiet := rfl
theorem tb_X11_crowdBy : mm_tab 168 = some M_X11_crowdBy := rfl
theorem tb_X11_crowd : mm_tab 169 = some M_X11_crowd := rfl
theorem tb_X11_moveOf : mm_tab 170 = some M_X11_moveOf := rfl
theorem tb_X11_move : mm_tab 171 = some M_X11_move := rfl
theorem tb_X11_allHere : mm_tab 172 = some M_X11_allHere := rfl
theorem tb_X11_changes : mm_tab 173 = some M_X11_changes := rfl
theorem tb_X11_swapBy : mm_tab 174 = some M_X11_swapBy := rfl
theorem tb_X11_swap : mm_tab 175 = some M_X11_swap := rfl
theorem tb_X11_line : mm_tab 176 = some M_X11_line := rfl
theorem tb_X11_bearNow : mm_tab 177 = some M_X11_bearNow := rfl
theorem tb_X11_bear : mm_tab 178 = some M_X11_bear := rfl
theorem tb_X11_seen : mm_tab 179 = some M_X11_seen := rfl
theorem tb_X11_forget : mm_tab 180 = some M_X11_forget := rfl
theorem tb_X11_isSeen : mm_tab 181 = some M_X11_isSeen := rfl
theorem tb_X11_heatsOf : mm_tab 182 = some M_X11_heatsOf := rfl
theorem tb_X11_heats : mm_tab 183 = some M_X11_heats := rfl
theorem tb_X11_slotsOf : mm_tab 184 = some M_X11_slotsOf := rfl
theorem tb_X11_slots : mm_tab 185 = some M_X11_slots := rfl
theorem tb_X11_askOf : mm_tab 186 = some M_X11_askOf := rfl
theorem tb_X11_ask : mm_tab 187 = some M_X11_ask := rfl
theorem tb_X11_windowOf : mm_tab 188 = some M_X11_windowOf := rfl
theorem tb_X11_window : mm_tab 189 = some M_X11_window := rfl
theorem tb_X11_lot : mm_tab 190 = some M_X11_lot := rfl
theorem tb_X11_othersOf : mm_tab 191 = some M_X11_othersOf := rfl
theorem tb_X11_others : mm_tab 192 = some M_X11_others := rfl
theorem tb_X11_write : mm_tab 193 = some M_X11_write := rfl
theorem tb_X11_allFreed : mm_tab 194 = some M_X11_allFreed := rfl
theorem tb_X11_count : mm_tab 195 = some M_X11_count := rfl
theorem tb_X11_tellsSlice : mm_tab 196 = some M_X11_tellsSlice := rfl
theorem tb_X11_digest : mm_tab 197 = some M_X11_digest := rfl
theorem tb_L_law : mm_tab 198 = some M_L_law := rfl
