theorem dL_law_1018 : decode cL_law 1018 = .ok (.invokevirtual 127, 3) := by decide +kernel
theorem dL_law_1021 : decode cL_law 1021 = .ok (.aload_n 2, 1) := by decide +kernel
theorem dL_law_1022 : decode cL_law 1022 = .ok (.invokevirtual 130, 3) := by decide +kernel
theorem dL_law_1025 : decode cL_law 1025 = .ok (.goto 3, 3) := by decide +kernel
theorem dL_law_1028 : decode cL_law 1028 = .ok (.iinc 4 4, 3) := by decide +kernel
theorem dL_law_1031 : decode cL_law 1031 = .ok (.goto (-1008), 3) := by decide +kernel
theorem dL_law_1034 : decode cL_law 1034 = .ok (.iconst 1, 1) := by decide +kernel
theorem dL_law_1035 : decode cL_law 1035 = .ok (.ireturn, 1) := by decide +kernel
