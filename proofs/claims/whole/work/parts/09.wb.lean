theorem okL_1 : k_L1.all (mm_okI 12 false cL_law k_L_law) = true := by decide +kernel
