theorem okL_2 : k_L2.all (mm_okI 12 false cL_law k_L_law) = true := by decide +kernel
