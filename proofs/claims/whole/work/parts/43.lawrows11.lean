/-! the law: what its instructions are -/
theorem dd_L_law_2186 : decode Y_L_law.2.1 2186 = .ok (.iadd, 1) := by decide +kernel
theorem dd_L_law_2187 : decode Y_L_law.2.1 2187 = .ok (.iaload, 1) := by decide +kernel
theorem dd_L_law_2188 : decode Y_L_law.2.1 2188 = .ok (.aload_n 3, 1) := by decide +kernel
theorem dd_L_law_2189 : decode Y_L_law.2.1 2189 = .ok (.invokestatic 221, 3) := by decide +kernel
theorem dd_L_law_2192 : decode Y_L_law.2.1 2192 = .ok (.istore 5, 2) := by decide +kernel
theorem dd_L_law_2194 : decode Y_L_law.2.1 2194 = .ok (.aload_n 2, 1) := by decide +kernel
theorem dd_L_law_2195 : decode Y_L_law.2.1 2195 = .ok (.aload_n 0, 1) := by decide +kernel
theorem dd_L_law_2196 : decode Y_L_law.2.1 2196 = .ok (.iload 4, 2) := by decide +kernel
theorem dd_L_law_2198 : decode Y_L_law.2.1 2198 = .ok (.iconst 1, 1) := by decide +kernel
theorem dd_L_law_2199 : decode Y_L_law.2.1 2199 = .ok (.iadd, 1) := by decide +kernel
theorem dd_L_law_2200 : decode Y_L_law.2.1 2200 = .ok (.iaload, 1) := by decide +kernel
theorem dd_L_law_2201 : decode Y_L_law.2.1 2201 = .ok (.invokevirtual 223, 3) := by decide +kernel
theorem dd_L_law_2204 : decode Y_L_law.2.1 2204 = .ok (.istore 6, 2) := by decide +kernel
theorem dd_L_law_2206 : decode Y_L_law.2.1 2206 = .ok (.aload_n 2, 1) := by decide +kernel
theorem dd_L_law_2207 : decode Y_L_law.2.1 2207 = .ok (.invokevirtual 117, 3) := by decide +kernel
theorem dd_L_law_2210 : decode Y_L_law.2.1 2210 = .ok (.iload 5, 2) := by decide +kernel
theorem dd_L_law_2212 : decode Y_L_law.2.1 2212 = .ok (.if_icmp .eq 5, 3) := by decide +kernel
theorem dd_L_law_2215 : decode Y_L_law.2.1 2215 = .ok (.iconst 0, 1) := by decide +kernel
theorem dd_L_law_2216 : decode Y_L_law.2.1 2216 = .ok (.ireturn, 1) := by decide +kernel
theorem dd_L_law_2217 : decode Y_L_law.2.1 2217 = .ok (.iload 5, 2) := by decide +kernel
theorem dd_L_law_2219 : decode Y_L_law.2.1 2219 = .ok (.ifCond .ne 15, 3) := by decide +kernel
theorem dd_L_law_2222 : decode Y_L_law.2.1 2222 = .ok (.aload_n 3, 1) := by decide +kernel
theorem dd_L_law_2223 : decode Y_L_law.2.1 2223 = .ok (.iconst 0, 1) := by decide +kernel
theorem dd_L_law_2224 : decode Y_L_law.2.1 2224 = .ok (.laload, 1) := by decide +kernel
theorem dd_L_law_2225 : decode Y_L_law.2.1 2225 = .ok (.iload 6, 2) := by decide +kernel
theorem dd_L_law_2227 : decode Y_L_law.2.1 2227 = .ok (.i2l, 1) := by decide +kernel
theorem dd_L_law_2228 : decode Y_L_law.2.1 2228 = .ok (.lcmp, 1) := by decide +kernel
theorem dd_L_law_2229 : decode Y_L_law.2.1 2229 = .ok (.ifCond .eq 5, 3) := by decide +kernel
theorem dd_L_law_2232 : decode Y_L_law.2.1 2232 = .ok (.iconst 0, 1) := by decide +kernel
theorem dd_L_law_2233 : decode Y_L_law.2.1 2233 = .ok (.ireturn, 1) := by decide +kernel
theorem dd_L_law_2234 : decode Y_L_law.2.1 2234 = .ok (.goto 27, 3) := by decide +kernel
theorem dd_L_law_2237 : decode Y_L_law.2.1 2237 = .ok (.aload_n 1, 1) := by decide +kernel
theorem dd_L_law_2238 : decode Y_L_law.2.1 2238 = .ok (.invokevirtual 224, 3) := by decide +kernel
theorem dd_L_law_2241 : decode Y_L_law.2.1 2241 = .ok (.aload_n 2, 1) := by decide +kernel
theorem dd_L_law_2242 : decode Y_L_law.2.1 2242 = .ok (.invokevirtual 227, 3) := by decide +kernel
theorem dd_L_law_2245 : decode Y_L_law.2.1 2245 = .ok (.goto 16, 3) := by decide +kernel
theorem dd_L_law_2248 : decode Y_L_law.2.1 2248 = .ok (.aload_n 1, 1) := by decide +kernel
theorem dd_L_law_2249 : decode Y_L_law.2.1 2249 = .ok (.invokevirtual 228, 3) := by decide +kernel
theorem dd_L_law_2252 : decode Y_L_law.2.1 2252 = .ok (.aload_n 2, 1) := by decide +kernel
theorem dd_L_law_2253 : decode Y_L_law.2.1 2253 = .ok (.invokevirtual 232, 3) := by decide +kernel
theorem dd_L_law_2256 : decode Y_L_law.2.1 2256 = .ok (.if_icmp .eq 5, 3) := by decide +kernel
theorem dd_L_law_2259 : decode Y_L_law.2.1 2259 = .ok (.iconst 0, 1) := by decide +kernel
theorem dd_L_law_2260 : decode Y_L_law.2.1 2260 = .ok (.ireturn, 1) := by decide +kernel
theorem dd_L_law_2261 : decode Y_L_law.2.1 2261 = .ok (.iinc 4 6, 3) := by decide +kernel
theorem dd_L_law_2264 : decode Y_L_law.2.1 2264 = .ok (.goto (-2241), 3) := by decide +kernel
theorem dd_L_law_2267 : decode Y_L_law.2.1 2267 = .ok (.iconst 1, 1) := by decide +kernel
theorem dd_L_law_2268 : decode Y_L_law.2.1 2268 = .ok (.ireturn, 1) := by decide +kernel
