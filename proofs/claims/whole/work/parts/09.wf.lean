theorem okL_5 : k_L5.all (mm_okI 12 false cL_law k_L_law) = true := by decide +kernel
