theorem okL_0 : k_L0.all (mm_okI 12 false cL_law k_L_law) = true := by decide +kernel
