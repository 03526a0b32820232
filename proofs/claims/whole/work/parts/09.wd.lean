theorem okL_3 : k_L3.all (mm_okI 12 false cL_law k_L_law) = true := by decide +kernel
