theorem okL_7 : k_L7.all (mm_okI 12 false cL_law k_L_law) = true := by decide +kernel
