theorem okL_6 : k_L6.all (mm_okI 12 false cL_law k_L_law) = true := by decide +kernel
