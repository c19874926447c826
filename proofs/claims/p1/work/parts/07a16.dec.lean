theorem d_law_3075 : decode code 3075 = .ok (.goto (-3047), 3) := by decide +kernel
theorem d_law_3078 : decode code 3078 = .ok (.iconst 1, 1) := by decide +kernel
theorem d_law_3079 : decode code 3079 = .ok (.ireturn, 1) := by decide +kernel
