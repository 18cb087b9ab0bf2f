/-! ===== the law's body, decoded ===== -/
theorem dL_law_2085 : decode cL_law 2085 = .ok (.istore 6, 2) := by decide +kernel
theorem dL_law_2087 : decode cL_law 2087 = .ok (.aload_n 2, 1) := by decide +kernel
theorem dL_law_2088 : decode cL_law 2088 = .ok (.invokevirtual 155, 3) := by decide +kernel
theorem dL_law_2091 : decode cL_law 2091 = .ok (.iload 5, 2) := by decide +kernel
theorem dL_law_2093 : decode cL_law 2093 = .ok (.if_icmp .eq 5, 3) := by decide +kernel
theorem dL_law_2096 : decode cL_law 2096 = .ok (.iconst 0, 1) := by decide +kernel
theorem dL_law_2097 : decode cL_law 2097 = .ok (.ireturn, 1) := by decide +kernel
theorem dL_law_2098 : decode cL_law 2098 = .ok (.iload 5, 2) := by decide +kernel
theorem dL_law_2100 : decode cL_law 2100 = .ok (.ifCond .ne 15, 3) := by decide +kernel
theorem dL_law_2103 : decode cL_law 2103 = .ok (.aload_n 3, 1) := by decide +kernel
theorem dL_law_2104 : decode cL_law 2104 = .ok (.iconst 0, 1) := by decide +kernel
theorem dL_law_2105 : decode cL_law 2105 = .ok (.laload, 1) := by decide +kernel
theorem dL_law_2106 : decode cL_law 2106 = .ok (.iload 6, 2) := by decide +kernel
theorem dL_law_2108 : decode cL_law 2108 = .ok (.i2l, 1) := by decide +kernel
theorem dL_law_2109 : decode cL_law 2109 = .ok (.lcmp, 1) := by decide +kernel
theorem dL_law_2110 : decode cL_law 2110 = .ok (.ifCond .eq 5, 3) := by decide +kernel
theorem dL_law_2113 : decode cL_law 2113 = .ok (.iconst 0, 1) := by decide +kernel
theorem dL_law_2114 : decode cL_law 2114 = .ok (.ireturn, 1) := by decide +kernel
theorem dL_law_2115 : decode cL_law 2115 = .ok (.goto 624, 3) := by decide +kernel
theorem dL_law_2118 : decode cL_law 2118 = .ok (.aload_n 1, 1) := by decide +kernel
theorem dL_law_2119 : decode cL_law 2119 = .ok (.aload_n 3, 1) := by decide +kernel
theorem dL_law_2120 : decode cL_law 2120 = .ok (.invokestatic 261, 3) := by decide +kernel
theorem dL_law_2123 : decode cL_law 2123 = .ok (.istore 5, 2) := by decide +kernel
theorem dL_law_2125 : decode cL_law 2125 = .ok (.aload_n 2, 1) := by decide +kernel
theorem dL_law_2126 : decode cL_law 2126 = .ok (.invokevirtual 263, 3) := by decide +kernel
theorem dL_law_2129 : decode cL_law 2129 = .ok (.istore 6, 2) := by decide +kernel
theorem dL_law_2131 : decode cL_law 2131 = .ok (.aload_n 2, 1) := by decide +kernel
theorem dL_law_2132 : decode cL_law 2132 = .ok (.invokevirtual 155, 3) := by decide +kernel
theorem dL_law_2135 : decode cL_law 2135 = .ok (.iload 5, 2) := by decide +kernel
theorem dL_law_2137 : decode cL_law 2137 = .ok (.if_icmp .eq 5, 3) := by decide +kernel
theorem dL_law_2140 : decode cL_law 2140 = .ok (.iconst 0, 1) := by decide +kernel
theorem dL_law_2141 : decode cL_law 2141 = .ok (.ireturn, 1) := by decide +kernel
theorem dL_law_2142 : decode cL_law 2142 = .ok (.iload 5, 2) := by decide +kernel
theorem dL_law_2144 : decode cL_law 2144 = .ok (.ifCond .ne 15, 3) := by decide +kernel
theorem dL_law_2147 : decode cL_law 2147 = .ok (.aload_n 3, 1) := by decide +kernel
theorem dL_law_2148 : decode cL_law 2148 = .ok (.iconst 0, 1) := by decide +kernel
theorem dL_law_2149 : decode cL_law 2149 = .ok (.laload, 1) := by decide +kernel
theorem dL_law_2150 : decode cL_law 2150 = .ok (.iload 6, 2) := by decide +kernel
theorem dL_law_2152 : decode cL_law 2152 = .ok (.i2l, 1) := by decide +kernel
theorem dL_law_2153 : decode cL_law 2153 = .ok (.lcmp, 1) := by decide +kernel
theorem dL_law_2154 : decode cL_law 2154 = .ok (.ifCond .eq 5, 3) := by decide +kernel
theorem dL_law_2157 : decode cL_law 2157 = .ok (.iconst 0, 1) := by decide +kernel
theorem dL_law_2158 : decode cL_law 2158 = .ok (.ireturn, 1) := by decide +kernel
theorem dL_law_2159 : decode cL_law 2159 = .ok (.goto 580, 3) := by decide +kernel
theorem dL_law_2162 : decode cL_law 2162 = .ok (.aload_n 1, 1) := by decide +kernel
theorem dL_law_2163 : decode cL_law 2163 = .ok (.aload_n 3, 1) := by decide +kernel
theorem dL_law_2164 : decode cL_law 2164 = .ok (.invokestatic 264, 3) := by decide +kernel
theorem dL_law_2167 : decode cL_law 2167 = .ok (.istore 5, 2) := by decide +kernel
theorem dL_law_2169 : decode cL_law 2169 = .ok (.aload_n 2, 1) := by decide +kernel
theorem dL_law_2170 : decode cL_law 2170 = .ok (.invokevirtual 266, 3) := by decide +kernel
theorem dL_law_2173 : decode cL_law 2173 = .ok (.istore 6, 2) := by decide +kernel
theorem dL_law_2175 : decode cL_law 2175 = .ok (.aload_n 2, 1) := by decide +kernel
theorem dL_law_2176 : decode cL_law 2176 = .ok (.invokevirtual 155, 3) := by decide +kernel
theorem dL_law_2179 : decode cL_law 2179 = .ok (.iload 5, 2) := by decide +kernel
theorem dL_law_2181 : decode cL_law 2181 = .ok (.if_icmp .eq 5, 3) := by decide +kernel
theorem dL_law_2184 : decode cL_law 2184 = .ok (.iconst 0, 1) := by decide +kernel
theorem dL_law_2185 : decode cL_law 2185 = .ok (.ireturn, 1) := by decide +kernel
theorem dL_law_2186 : decode cL_law 2186 = .ok (.iload 5, 2) := by decide +kernel
theorem dL_law_2188 : decode cL_law 2188 = .ok (.ifCond .ne 15, 3) := by decide +kernel
theorem dL_law_2191 : decode cL_law 2191 = .ok (.aload_n 3, 1) := by decide +kernel
theorem dL_law_2192 : decode cL_law 2192 = .ok (.iconst 0, 1) := by decide +kernel
theorem dL_law_2193 : decode cL_law 2193 = .ok (.laload, 1) := by decide +kernel
theorem dL_law_2194 : decode cL_law 2194 = .ok (.iload 6, 2) := by decide +kernel
theorem dL_law_2196 : decode cL_law 2196 = .ok (.i2l, 1) := by decide +kernel
theorem dL_law_2197 : decode cL_law 2197 = .ok (.lcmp, 1) := by decide +kernel
theorem dL_law_2198 : decode cL_law 2198 = .ok (.ifCond .eq 5, 3) := by decide +kernel
theorem dL_law_2201 : decode cL_law 2201 = .ok (.iconst 0, 1) := by decide +kernel
theorem dL_law_2202 : decode cL_law 2202 = .ok (.ireturn, 1) := by decide +kernel
theorem dL_law_2203 : decode cL_law 2203 = .ok (.goto 536, 3) := by decide +kernel
theorem dL_law_2206 : decode cL_law 2206 = .ok (.aload_n 1, 1) := by decide +kernel
theorem dL_law_2207 : decode cL_law 2207 = .ok (.aload_n 0, 1) := by decide +kernel
theorem dL_law_2208 : decode cL_law 2208 = .ok (.iload 4, 2) := by decide +kernel
theorem dL_law_2210 : decode cL_law 2210 = .ok (.iconst 1, 1) := by decide +kernel
theorem dL_law_2211 : decode cL_law 2211 = .ok (.iadd, 1) := by decide +kernel
theorem dL_law_2212 : decode cL_law 2212 = .ok (.iaload, 1) := by decide +kernel
theorem dL_law_2213 : decode cL_law 2213 = .ok (.aload_n 3, 1) := by decide +kernel
theorem dL_law_2214 : decode cL_law 2214 = .ok (.invokestatic 267, 3) := by decide +kernel
theorem dL_law_2217 : decode cL_law 2217 = .ok (.istore 5, 2) := by decide +kernel
theorem dL_law_2219 : decode cL_law 2219 = .ok (.aload_n 2, 1) := by decide +kernel
theorem dL_law_2220 : decode cL_law 2220 = .ok (.aload_n 0, 1) := by decide +kernel
theorem dL_law_2221 : decode cL_law 2221 = .ok (.iload 4, 2) := by decide +kernel
theorem dL_law_2223 : decode cL_law 2223 = .ok (.iconst 1, 1) := by decide +kernel
theorem dL_law_2224 : decode cL_law 2224 = .ok (.iadd, 1) := by decide +kernel
theorem dL_law_2225 : decode cL_law 2225 = .ok (.iaload, 1) := by decide +kernel
theorem dL_law_2226 : decode cL_law 2226 = .ok (.invokevirtual 269, 3) := by decide +kernel
theorem dL_law_2229 : decode cL_law 2229 = .ok (.istore 6, 2) := by decide +kernel
theorem dL_law_2231 : decode cL_law 2231 = .ok (.aload_n 2, 1) := by decide +kernel
theorem dL_law_2232 : decode cL_law 2232 = .ok (.invokevirtual 155, 3) := by decide +kernel
theorem dL_law_2235 : decode cL_law 2235 = .ok (.iload 5, 2) := by decide +kernel
theorem dL_law_2237 : decode cL_law 2237 = .ok (.if_icmp .eq 5, 3) := by decide +kernel
theorem dL_law_2240 : decode cL_law 2240 = .ok (.iconst 0, 1) := by decide +kernel
theorem dL_law_2241 : decode cL_law 2241 = .ok (.ireturn, 1) := by decide +kernel
theorem dL_law_2242 : decode cL_law 2242 = .ok (.iload 5, 2) := by decide +kernel
theorem dL_law_2244 : decode cL_law 2244 = .ok (.ifCond .ne 15, 3) := by decide +kernel
theorem dL_law_2247 : decode cL_law 2247 = .ok (.aload_n 3, 1) := by decide +kernel
theorem dL_law_2248 : decode cL_law 2248 = .ok (.iconst 0, 1) := by decide +kernel
theorem dL_law_2249 : decode cL_law 2249 = .ok (.laload, 1) := by decide +kernel
theorem dL_law_2250 : decode cL_law 2250 = .ok (.iload 6, 2) := by decide +kernel
theorem dL_law_2252 : decode cL_law 2252 = .ok (.i2l, 1) := by decide +kernel
theorem dL_law_2253 : decode cL_law 2253 = .ok (.lcmp, 1) := by decide +kernel
theorem dL_law_2254 : decode cL_law 2254 = .ok (.ifCond .eq 5, 3) := by decide +kernel
theorem dL_law_2257 : decode cL_law 2257 = .ok (.iconst 0, 1) := by decide +kernel
theorem dL_law_2258 : decode cL_law 2258 = .ok (.ireturn, 1) := by decide +kernel
theorem dL_law_2259 : decode cL_law 2259 = .ok (.goto 480, 3) := by decide +kernel
theorem dL_law_2262 : decode cL_law 2262 = .ok (.aload_n 1, 1) := by decide +kernel
theorem dL_law_2263 : decode cL_law 2263 = .ok (.invokevirtual 270, 3) := by decide +kernel
theorem dL_law_2266 : decode cL_law 2266 = .ok (.aload_n 2, 1) := by decide +kernel
theorem dL_law_2267 : decode cL_law 2267 = .ok (.invokevirtual 273, 3) := by decide +kernel
theorem dL_law_2270 : decode cL_law 2270 = .ok (.if_icmp .eq 469, 3) := by decide +kernel
theorem dL_law_2273 : decode cL_law 2273 = .ok (.iconst 0, 1) := by decide +kernel
theorem dL_law_2274 : decode cL_law 2274 = .ok (.ireturn, 1) := by decide +kernel
theorem dL_law_2275 : decode cL_law 2275 = .ok (.aload_n 1, 1) := by decide +kernel
theorem dL_law_2276 : decode cL_law 2276 = .ok (.invokevirtual 274, 3) := by decide +kernel
theorem dL_law_2279 : decode cL_law 2279 = .ok (.aload_n 2, 1) := by decide +kernel
theorem dL_law_2280 : decode cL_law 2280 = .ok (.invokevirtual 277, 3) := by decide +kernel
theorem dL_law_2283 : decode cL_law 2283 = .ok (.if_icmp .eq 456, 3) := by decide +kernel
theorem dL_law_2286 : decode cL_law 2286 = .ok (.iconst 0, 1) := by decide +kernel
theorem dL_law_2287 : decode cL_law 2287 = .ok (.ireturn, 1) := by decide +kernel
theorem dL_law_2288 : decode cL_law 2288 = .ok (.aload_n 1, 1) := by decide +kernel
theorem dL_law_2289 : decode cL_law 2289 = .ok (.aload_n 3, 1) := by decide +kernel
theorem dL_law_2290 : decode cL_law 2290 = .ok (.invokestatic 278, 3) := by decide +kernel
theorem dL_law_2293 : decode cL_law 2293 = .ok (.istore 5, 2) := by decide +kernel
theorem dL_law_2295 : decode cL_law 2295 = .ok (.aload_n 2, 1) := by decide +kernel
theorem dL_law_2296 : decode cL_law 2296 = .ok (.invokevirtual 280, 3) := by decide +kernel
theorem dL_law_2299 : decode cL_law 2299 = .ok (.istore 6, 2) := by decide +kernel
theorem dL_law_2301 : decode cL_law 2301 = .ok (.aload_n 2, 1) := by decide +kernel
theorem dL_law_2302 : decode cL_law 2302 = .ok (.invokevirtual 155, 3) := by decide +kernel
theorem dL_law_2305 : decode cL_law 2305 = .ok (.iload 5, 2) := by decide +kernel
theorem dL_law_2307 : decode cL_law 2307 = .ok (.if_icmp .eq 5, 3) := by decide +kernel
theorem dL_law_2310 : decode cL_law 2310 = .ok (.iconst 0, 1) := by decide +kernel
theorem dL_law_2311 : decode cL_law 2311 = .ok (.ireturn, 1) := by decide +kernel
theorem dL_law_2312 : decode cL_law 2312 = .ok (.iload 5, 2) := by decide +kernel
theorem dL_law_2314 : decode cL_law 2314 = .ok (.ifCond .ne 15, 3) := by decide +kernel
theorem dL_law_2317 : decode cL_law 2317 = .ok (.aload_n 3, 1) := by decide +kernel
theorem dL_law_2318 : decode cL_law 2318 = .ok (.iconst 0, 1) := by decide +kernel
theorem dL_law_2319 : decode cL_law 2319 = .ok (.laload, 1) := by decide +kernel
theorem dL_law_2320 : decode cL_law 2320 = .ok (.iload 6, 2) := by decide +kernel
theorem dL_law_2322 : decode cL_law 2322 = .ok (.i2l, 1) := by decide +kernel
theorem dL_law_2323 : decode cL_law 2323 = .ok (.lcmp, 1) := by decide +kernel
theorem dL_law_2324 : decode cL_law 2324 = .ok (.ifCond .eq 5, 3) := by decide +kernel
theorem dL_law_2327 : decode cL_law 2327 = .ok (.iconst 0, 1) := by decide +kernel
theorem dL_law_2328 : decode cL_law 2328 = .ok (.ireturn, 1) := by decide +kernel
theorem dL_law_2329 : decode cL_law 2329 = .ok (.goto 410, 3) := by decide +kernel
theorem dL_law_2332 : decode cL_law 2332 = .ok (.aload_n 1, 1) := by decide +kernel
theorem dL_law_2333 : decode cL_law 2333 = .ok (.aload_n 0, 1) := by decide +kernel
theorem dL_law_2334 : decode cL_law 2334 = .ok (.iload 4, 2) := by decide +kernel
theorem dL_law_2336 : decode cL_law 2336 = .ok (.iconst 1, 1) := by decide +kernel
theorem dL_law_2337 : decode cL_law 2337 = .ok (.iadd, 1) := by decide +kernel
theorem dL_law_2338 : decode cL_law 2338 = .ok (.iaload, 1) := by decide +kernel
theorem dL_law_2339 : decode cL_law 2339 = .ok (.aload_n 3, 1) := by decide +kernel
theorem dL_law_2340 : decode cL_law 2340 = .ok (.invokestatic 281, 3) := by decide +kernel
theorem dL_law_2343 : decode cL_law 2343 = .ok (.istore 5, 2) := by decide +kernel
theorem dL_law_2345 : decode cL_law 2345 = .ok (.aload_n 2, 1) := by decide +kernel
theorem dL_law_2346 : decode cL_law 2346 = .ok (.aload_n 0, 1) := by decide +kernel
theorem dL_law_2347 : decode cL_law 2347 = .ok (.iload 4, 2) := by decide +kernel
theorem dL_law_2349 : decode cL_law 2349 = .ok (.iconst 1, 1) := by decide +kernel
theorem dL_law_2350 : decode cL_law 2350 = .ok (.iadd, 1) := by decide +kernel
theorem dL_law_2351 : decode cL_law 2351 = .ok (.iaload, 1) := by decide +kernel
theorem dL_law_2352 : decode cL_law 2352 = .ok (.invokevirtual 283, 3) := by decide +kernel
theorem dL_law_2355 : decode cL_law 2355 = .ok (.istore 6, 2) := by decide +kernel
theorem dL_law_2357 : decode cL_law 2357 = .ok (.aload_n 2, 1) := by decide +kernel
theorem dL_law_2358 : decode cL_law 2358 = .ok (.invokevirtual 155, 3) := by decide +kernel
theorem dL_law_2361 : decode cL_law 2361 = .ok (.iload 5, 2) := by decide +kernel
theorem dL_law_2363 : decode cL_law 2363 = .ok (.if_icmp .eq 5, 3) := by decide +kernel
theorem dL_law_2366 : decode cL_law 2366 = .ok (.iconst 0, 1) := by decide +kernel
theorem dL_law_2367 : decode cL_law 2367 = .ok (.ireturn, 1) := by decide +kernel
theorem dL_law_2368 : decode cL_law 2368 = .ok (.iload 5, 2) := by decide +kernel
theorem dL_law_2370 : decode cL_law 2370 = .ok (.ifCond .ne 15, 3) := by decide +kernel
theorem dL_law_2373 : decode cL_law 2373 = .ok (.aload_n 3, 1) := by decide +kernel
theorem dL_law_2374 : decode cL_law 2374 = .ok (.iconst 0, 1) := by decide +kernel
theorem dL_law_2375 : decode cL_law 2375 = .ok (.laload, 1) := by decide +kernel
theorem dL_law_2376 : decode cL_law 2376 = .ok (.iload 6, 2) := by decide +kernel
theorem dL_law_2378 : decode cL_law 2378 = .ok (.i2l, 1) := by decide +kernel
theorem dL_law_2379 : decode cL_law 2379 = .ok (.lcmp, 1) := by decide +kernel
theorem dL_law_2380 : decode cL_law 2380 = .ok (.ifCond .eq 5, 3) := by decide +kernel
theorem dL_law_2383 : decode cL_law 2383 = .ok (.iconst 0, 1) := by decide +kernel
theorem dL_law_2384 : decode cL_law 2384 = .ok (.ireturn, 1) := by decide +kernel
theorem dL_law_2385 : decode cL_law 2385 = .ok (.goto 354, 3) := by decide +kernel
theorem dL_law_2388 : decode cL_law 2388 = .ok (.aload_n 1, 1) := by decide +kernel
theorem dL_law_2389 : decode cL_law 2389 = .ok (.aload_n 0, 1) := by decide +kernel
theorem dL_law_2390 : decode cL_law 2390 = .ok (.iload 4, 2) := by decide +kernel
theorem dL_law_2392 : decode cL_law 2392 = .ok (.iconst 1, 1) := by decide +kernel
theorem dL_law_2393 : decode cL_law 2393 = .ok (.iadd, 1) := by decide +kernel
theorem dL_law_2394 : decode cL_law 2394 = .ok (.iaload, 1) := by decide +kernel
theorem dL_law_2395 : decode cL_law 2395 = .ok (.aload_n 0, 1) := by decide +kernel
theorem dL_law_2396 : decode cL_law 2396 = .ok (.iload 4, 2) := by decide +kernel
theorem dL_law_2398 : decode cL_law 2398 = .ok (.iconst 2, 1) := by decide +kernel
theorem dL_law_2399 : decode cL_law 2399 = .ok (.iadd, 1) := by decide +kernel
theorem dL_law_2400 : decode cL_law 2400 = .ok (.iaload, 1) := by decide +kernel
theorem dL_law_2401 : decode cL_law 2401 = .ok (.aload_n 3, 1) := by decide +kernel
theorem dL_law_2402 : decode cL_law 2402 = .ok (.invokestatic 284, 3) := by decide +kernel
theorem dL_law_2405 : decode cL_law 2405 = .ok (.istore 5, 2) := by decide +kernel
theorem dL_law_2407 : decode cL_law 2407 = .ok (.aload_n 2, 1) := by decide +kernel
theorem dL_law_2408 : decode cL_law 2408 = .ok (.aload_n 0, 1) := by decide +kernel
theorem dL_law_2409 : decode cL_law 2409 = .ok (.iload 4, 2) := by decide +kernel
theorem dL_law_2411 : decode cL_law 2411 = .ok (.iconst 1, 1) := by decide +kernel
theorem dL_law_2412 : decode cL_law 2412 = .ok (.iadd, 1) := by decide +kernel
theorem dL_law_2413 : decode cL_law 2413 = .ok (.iaload, 1) := by decide +kernel
theorem dL_law_2414 : decode cL_law 2414 = .ok (.aload_n 0, 1) := by decide +kernel
theorem dL_law_2415 : decode cL_law 2415 = .ok (.iload 4, 2) := by decide +kernel
