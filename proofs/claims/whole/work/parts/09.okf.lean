theorem ok_X11_set : mm_okM ((11, yX11_set, cX11_set, 4, (some .int), false, false), M_X11_set) = true := by decide +kernel
theorem ok_X11_butter : mm_okM ((11, yX11_butter, cX11_butter, 3, (some .int), false, false), M_X11_butter) = true := by decide +kernel
theorem ok_X11_fire : mm_okM ((11, yX11_fire, cX11_fire, 2, (some .int), false, false), M_X11_fire) = true := by decide +kernel
theorem ok_X11_back : mm_okM ((11, yX11_back, cX11_back, 3, (some .int), false, false), M_X11_back) = true := by decide +kernel
theorem ok_X11_read : mm_okM ((11, yX11_read, cX11_read, 4, (some .int), false, false), M_X11_read) = true := by decide +kernel
theorem ok_X11_isHere : mm_okM ((11, yX11_isHere, cX11_isHere, 2, (some .boolean), false, false), M_X11_isHere) = true := by decide +kernel
theorem ok_X11_standingIn : mm_okM ((11, yX11_standingIn, cX11_standingIn, 3, (some .int), false, false), M_X11_standingIn) = true := by decide +kernel
theorem ok_X11_comesAgain : mm_okM ((11, yX11_comesAgain, cX11_comesAgain, 3, none, false, false), M_X11_comesAgain) = true := by decide +kernel
theorem ok_X11_burns : mm_okM ((11, yX11_burns, cX11_burns, 4, none, false, false), M_X11_burns) = true := by decide +kernel
theorem ok_X11_spreads : mm_okM ((11, yX11_spreads, cX11_spreads, 4, none, false, false), M_X11_spreads) = true := by decide +kernel
theorem ok_X11_hotter : mm_okM ((11, yX11_hotter, cX11_hotter, 4, (some .int), false, false), M_X11_hotter) = true := by decide +kernel
theorem ok_X11_coolsBy : mm_okM ((11, yX11_coolsBy, cX11_coolsBy, 6, (some .int), false, false), M_X11_coolsBy) = true := by decide +kernel
theorem ok_X11_cool : mm_okM ((11, yX11_cool, cX11_cool, 3, none, false, false), M_X11_cool) = true := by decide +kernel
theorem ok_X11_lives : mm_okM ((11, yX11_lives, cX11_lives, 4, none, false, false), M_X11_lives) = true := by decide +kernel
theorem ok_X11_find : mm_okM ((11, yX11_find, cX11_find, 1, none, false, false), M_X11_find) = true := by decide +kernel
theorem ok_X11_heat : mm_okM ((11, yX11_heat, cX11_heat, 3, (some .int), false, false), M_X11_heat) = true := by decide +kernel
theorem ok_X11_state : mm_okM ((11, yX11_state, cX11_state, 3, (some .int), false, false), M_X11_state) = true := by decide +kernel
theorem ok_X11_heldBy : mm_okM ((11, yX11_heldBy, cX11_heldBy, 4, (some .int), false, false), M_X11_heldBy) = true := by decide +kernel
