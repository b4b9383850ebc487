theorem dL_law_2085 : decode cL_law 2085 = .ok (.invokevirtual 115, 3) := by decide +kernel
theorem dL_law_2088 : decode cL_law 2088 = .ok (.iload 5, 2) := by decide +kernel
theorem dL_law_2090 : decode cL_law 2090 = .ok (.if_icmp .eq 5, 3) := by decide +kernel
theorem dL_law_2093 : decode cL_law 2093 = .ok (.iconst 0, 1) := by decide +kernel
theorem dL_law_2094 : decode cL_law 2094 = .ok (.ireturn, 1) := by decide +kernel
theorem dL_law_2095 : decode cL_law 2095 = .ok (.iload 5, 2) := by decide +kernel
theorem dL_law_2097 : decode cL_law 2097 = .ok (.ifCond .ne 22, 3) := by decide +kernel
theorem dL_law_2100 : decode cL_law 2100 = .ok (.aload_n 3, 1) := by decide +kernel
theorem dL_law_2101 : decode cL_law 2101 = .ok (.iconst 0, 1) := by decide +kernel
theorem dL_law_2102 : decode cL_law 2102 = .ok (.laload, 1) := by decide +kernel
theorem dL_law_2103 : decode cL_law 2103 = .ok (.iload 6, 2) := by decide +kernel
theorem dL_law_2105 : decode cL_law 2105 = .ok (.ifCond .eq 7, 3) := by decide +kernel
theorem dL_law_2108 : decode cL_law 2108 = .ok (.lconst 1, 1) := by decide +kernel
theorem dL_law_2109 : decode cL_law 2109 = .ok (.goto 4, 3) := by decide +kernel
theorem dL_law_2112 : decode cL_law 2112 = .ok (.lconst 0, 1) := by decide +kernel
theorem dL_law_2113 : decode cL_law 2113 = .ok (.lcmp, 1) := by decide +kernel
theorem dL_law_2114 : decode cL_law 2114 = .ok (.ifCond .eq 5, 3) := by decide +kernel
theorem dL_law_2117 : decode cL_law 2117 = .ok (.iconst 0, 1) := by decide +kernel
theorem dL_law_2118 : decode cL_law 2118 = .ok (.ireturn, 1) := by decide +kernel
theorem dL_law_2119 : decode cL_law 2119 = .ok (.goto 3, 3) := by decide +kernel
theorem dL_law_2122 : decode cL_law 2122 = .ok (.iinc 4 4, 3) := by decide +kernel
theorem dL_law_2125 : decode cL_law 2125 = .ok (.goto (-2102), 3) := by decide +kernel
theorem dL_law_2128 : decode cL_law 2128 = .ok (.iconst 1, 1) := by decide +kernel
theorem dL_law_2129 : decode cL_law 2129 = .ok (.ireturn, 1) := by decide +kernel
