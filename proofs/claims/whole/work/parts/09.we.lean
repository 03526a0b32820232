theorem okL_4 : k_L4.all (mm_okI 12 false cL_law k_L_law) = true := by decide +kernel
