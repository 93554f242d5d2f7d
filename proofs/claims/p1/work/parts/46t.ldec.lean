theorem dc_L_law_1093 : decode code 1093 = .ok (.ireturn, 1) := by decide +kernel
