theorem okL_8 : k_L8.all (mm_okI 12 false cL_law k_L_law) = true := by decide +kernel
