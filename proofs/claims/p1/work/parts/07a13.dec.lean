theorem d_law_2111 : decode code 2111 = .ok (.i2l, 1) := by decide +kernel
theorem d_law_2112 : decode code 2112 = .ok (.lcmp, 1) := by decide +kernel
theorem d_law_2113 : decode code 2113 = .ok (.ifCond .eq 5, 3) := by decide +kernel
theorem d_law_2118 : decode code 2118 = .ok (.goto 954, 3) := by decide +kernel
theorem d_law_2121 : decode code 2121 = .ok (.aload_n 1, 1) := by decide +kernel
theorem d_law_2122 : decode code 2122 = .ok (.aload_n 0, 1) := by decide +kernel
theorem d_law_2123 : decode code 2123 = .ok (.iload 5, 2) := by decide +kernel
theorem d_law_2125 : decode code 2125 = .ok (.iconst 1, 1) := by decide +kernel
theorem d_law_2126 : decode code 2126 = .ok (.iadd, 1) := by decide +kernel
theorem d_law_2127 : decode code 2127 = .ok (.iaload, 1) := by decide +kernel
theorem d_law_2128 : decode code 2128 = .ok (.aload_n 0, 1) := by decide +kernel
theorem d_law_2129 : decode code 2129 = .ok (.iload 5, 2) := by decide +kernel
theorem d_law_2131 : decode code 2131 = .ok (.iconst 2, 1) := by decide +kernel
theorem d_law_2132 : decode code 2132 = .ok (.iadd, 1) := by decide +kernel
theorem d_law_2133 : decode code 2133 = .ok (.iaload, 1) := by decide +kernel
theorem d_law_2134 : decode code 2134 = .ok (.aload_n 3, 1) := by decide +kernel
theorem d_law_2135 : decode code 2135 = .ok (.invokestatic 282, 3) := by decide +kernel
theorem d_law_2138 : decode code 2138 = .ok (.istore 6, 2) := by decide +kernel
theorem d_law_2140 : decode code 2140 = .ok (.aload_n 2, 1) := by decide +kernel
theorem d_law_2141 : decode code 2141 = .ok (.aload_n 0, 1) := by decide +kernel
theorem d_law_2142 : decode code 2142 = .ok (.iload 5, 2) := by decide +kernel
theorem d_law_2144 : decode code 2144 = .ok (.iconst 1, 1) := by decide +kernel
theorem d_law_2145 : decode code 2145 = .ok (.iadd, 1) := by decide +kernel
theorem d_law_2146 : decode code 2146 = .ok (.iaload, 1) := by decide +kernel
theorem d_law_2147 : decode code 2147 = .ok (.aload_n 0, 1) := by decide +kernel
theorem d_law_2148 : decode code 2148 = .ok (.iload 5, 2) := by decide +kernel
theorem d_law_2150 : decode code 2150 = .ok (.iconst 2, 1) := by decide +kernel
theorem d_law_2151 : decode code 2151 = .ok (.iadd, 1) := by decide +kernel
theorem d_law_2152 : decode code 2152 = .ok (.iaload, 1) := by decide +kernel
theorem d_law_2153 : decode code 2153 = .ok (.invokevirtual 284, 3) := by decide +kernel
theorem d_law_2156 : decode code 2156 = .ok (.istore 7, 2) := by decide +kernel
theorem d_law_2158 : decode code 2158 = .ok (.aload_n 2, 1) := by decide +kernel
theorem d_law_2159 : decode code 2159 = .ok (.invokevirtual 160, 3) := by decide +kernel
theorem d_law_2162 : decode code 2162 = .ok (.iload 6, 2) := by decide +kernel
theorem d_law_2164 : decode code 2164 = .ok (.if_icmp .eq 5, 3) := by decide +kernel
theorem d_law_2169 : decode code 2169 = .ok (.iload 6, 2) := by decide +kernel
theorem d_law_2171 : decode code 2171 = .ok (.ifCond .ne 15, 3) := by decide +kernel
theorem d_law_2186 : decode code 2186 = .ok (.goto 886, 3) := by decide +kernel
theorem d_law_2189 : decode code 2189 = .ok (.aload_n 1, 1) := by decide +kernel
theorem d_law_2190 : decode code 2190 = .ok (.aload_n 0, 1) := by decide +kernel
theorem d_law_2191 : decode code 2191 = .ok (.iload 5, 2) := by decide +kernel
theorem d_law_2193 : decode code 2193 = .ok (.iconst 1, 1) := by decide +kernel
theorem d_law_2194 : decode code 2194 = .ok (.iadd, 1) := by decide +kernel
theorem d_law_2195 : decode code 2195 = .ok (.iaload, 1) := by decide +kernel
theorem d_law_2196 : decode code 2196 = .ok (.aload_n 3, 1) := by decide +kernel
theorem d_law_2197 : decode code 2197 = .ok (.invokestatic 285, 3) := by decide +kernel
theorem d_law_2200 : decode code 2200 = .ok (.istore 6, 2) := by decide +kernel
theorem d_law_2202 : decode code 2202 = .ok (.aload_n 2, 1) := by decide +kernel
theorem d_law_2203 : decode code 2203 = .ok (.aload_n 0, 1) := by decide +kernel
theorem d_law_2204 : decode code 2204 = .ok (.iload 5, 2) := by decide +kernel
theorem d_law_2206 : decode code 2206 = .ok (.iconst 1, 1) := by decide +kernel
theorem d_law_2207 : decode code 2207 = .ok (.iadd, 1) := by decide +kernel
theorem d_law_2208 : decode code 2208 = .ok (.iaload, 1) := by decide +kernel
theorem d_law_2209 : decode code 2209 = .ok (.invokevirtual 287, 3) := by decide +kernel
theorem d_law_2212 : decode code 2212 = .ok (.istore 7, 2) := by decide +kernel
theorem d_law_2214 : decode code 2214 = .ok (.aload_n 2, 1) := by decide +kernel
theorem d_law_2215 : decode code 2215 = .ok (.invokevirtual 160, 3) := by decide +kernel
theorem d_law_2218 : decode code 2218 = .ok (.iload 6, 2) := by decide +kernel
theorem d_law_2220 : decode code 2220 = .ok (.if_icmp .eq 5, 3) := by decide +kernel
theorem d_law_2225 : decode code 2225 = .ok (.iload 6, 2) := by decide +kernel
theorem d_law_2227 : decode code 2227 = .ok (.ifCond .ne 15, 3) := by decide +kernel
theorem d_law_2230 : decode code 2230 = .ok (.aload_n 3, 1) := by decide +kernel
theorem d_law_2231 : decode code 2231 = .ok (.iconst 0, 1) := by decide +kernel
theorem d_law_2232 : decode code 2232 = .ok (.laload, 1) := by decide +kernel
theorem d_law_2233 : decode code 2233 = .ok (.iload 7, 2) := by decide +kernel
theorem d_law_2235 : decode code 2235 = .ok (.i2l, 1) := by decide +kernel
theorem d_law_2236 : decode code 2236 = .ok (.lcmp, 1) := by decide +kernel
theorem d_law_2237 : decode code 2237 = .ok (.ifCond .eq 5, 3) := by decide +kernel
theorem d_law_2242 : decode code 2242 = .ok (.goto 830, 3) := by decide +kernel
theorem d_law_2245 : decode code 2245 = .ok (.aload_n 1, 1) := by decide +kernel
theorem d_law_2246 : decode code 2246 = .ok (.aload_n 0, 1) := by decide +kernel
theorem d_law_2247 : decode code 2247 = .ok (.iload 5, 2) := by decide +kernel
theorem d_law_2249 : decode code 2249 = .ok (.iconst 1, 1) := by decide +kernel
theorem d_law_2250 : decode code 2250 = .ok (.iadd, 1) := by decide +kernel
theorem d_law_2251 : decode code 2251 = .ok (.iaload, 1) := by decide +kernel
theorem d_law_2252 : decode code 2252 = .ok (.aload_n 3, 1) := by decide +kernel
theorem d_law_2253 : decode code 2253 = .ok (.invokestatic 288, 3) := by decide +kernel
theorem d_law_2256 : decode code 2256 = .ok (.istore 6, 2) := by decide +kernel
theorem d_law_2258 : decode code 2258 = .ok (.aload_n 2, 1) := by decide +kernel
theorem d_law_2259 : decode code 2259 = .ok (.aload_n 0, 1) := by decide +kernel
theorem d_law_2260 : decode code 2260 = .ok (.iload 5, 2) := by decide +kernel
theorem d_law_2262 : decode code 2262 = .ok (.iconst 1, 1) := by decide +kernel
theorem d_law_2263 : decode code 2263 = .ok (.iadd, 1) := by decide +kernel
theorem d_law_2264 : decode code 2264 = .ok (.iaload, 1) := by decide +kernel
theorem d_law_2265 : decode code 2265 = .ok (.invokevirtual 290, 3) := by decide +kernel
theorem d_law_2268 : decode code 2268 = .ok (.istore 7, 2) := by decide +kernel
theorem d_law_2270 : decode code 2270 = .ok (.aload_n 2, 1) := by decide +kernel
theorem d_law_2271 : decode code 2271 = .ok (.invokevirtual 160, 3) := by decide +kernel
theorem d_law_2274 : decode code 2274 = .ok (.iload 6, 2) := by decide +kernel
theorem d_law_2276 : decode code 2276 = .ok (.if_icmp .eq 5, 3) := by decide +kernel
theorem d_law_2281 : decode code 2281 = .ok (.iload 6, 2) := by decide +kernel
theorem d_law_2283 : decode code 2283 = .ok (.ifCond .ne 15, 3) := by decide +kernel
theorem d_law_2298 : decode code 2298 = .ok (.goto 774, 3) := by decide +kernel
theorem d_law_2301 : decode code 2301 = .ok (.aload_n 1, 1) := by decide +kernel
theorem d_law_2302 : decode code 2302 = .ok (.invokevirtual 291, 3) := by decide +kernel
theorem d_law_2305 : decode code 2305 = .ok (.aload_n 2, 1) := by decide +kernel
theorem d_law_2306 : decode code 2306 = .ok (.invokevirtual 294, 3) := by decide +kernel
theorem d_law_2309 : decode code 2309 = .ok (.if_icmp .eq 763, 3) := by decide +kernel
theorem d_law_2314 : decode code 2314 = .ok (.aload_n 1, 1) := by decide +kernel
theorem d_law_2315 : decode code 2315 = .ok (.aload_n 0, 1) := by decide +kernel
theorem d_law_2316 : decode code 2316 = .ok (.iload 5, 2) := by decide +kernel
theorem d_law_2318 : decode code 2318 = .ok (.iconst 1, 1) := by decide +kernel
theorem d_law_2319 : decode code 2319 = .ok (.iadd, 1) := by decide +kernel
theorem d_law_2320 : decode code 2320 = .ok (.iaload, 1) := by decide +kernel
theorem d_law_2321 : decode code 2321 = .ok (.aload_n 0, 1) := by decide +kernel
theorem d_law_2322 : decode code 2322 = .ok (.iload 5, 2) := by decide +kernel
theorem d_law_2324 : decode code 2324 = .ok (.iconst 2, 1) := by decide +kernel
theorem d_law_2325 : decode code 2325 = .ok (.iadd, 1) := by decide +kernel
theorem d_law_2326 : decode code 2326 = .ok (.iaload, 1) := by decide +kernel
theorem d_law_2327 : decode code 2327 = .ok (.aload_n 0, 1) := by decide +kernel
theorem d_law_2328 : decode code 2328 = .ok (.iload 5, 2) := by decide +kernel
theorem d_law_2330 : decode code 2330 = .ok (.iconst 3, 1) := by decide +kernel
theorem d_law_2331 : decode code 2331 = .ok (.iadd, 1) := by decide +kernel
theorem d_law_2332 : decode code 2332 = .ok (.iaload, 1) := by decide +kernel
theorem d_law_2333 : decode code 2333 = .ok (.aload_n 3, 1) := by decide +kernel
theorem d_law_2334 : decode code 2334 = .ok (.invokestatic 295, 3) := by decide +kernel
theorem d_law_2337 : decode code 2337 = .ok (.istore 6, 2) := by decide +kernel
theorem d_law_2339 : decode code 2339 = .ok (.aload_n 2, 1) := by decide +kernel
theorem d_law_2340 : decode code 2340 = .ok (.aload_n 0, 1) := by decide +kernel
theorem d_law_2341 : decode code 2341 = .ok (.iload 5, 2) := by decide +kernel
theorem d_law_2343 : decode code 2343 = .ok (.iconst 1, 1) := by decide +kernel
theorem d_law_2344 : decode code 2344 = .ok (.iadd, 1) := by decide +kernel
theorem d_law_2345 : decode code 2345 = .ok (.iaload, 1) := by decide +kernel
theorem d_law_2346 : decode code 2346 = .ok (.aload_n 0, 1) := by decide +kernel
theorem d_law_2347 : decode code 2347 = .ok (.iload 5, 2) := by decide +kernel
theorem d_law_2349 : decode code 2349 = .ok (.iconst 2, 1) := by decide +kernel
theorem d_law_2350 : decode code 2350 = .ok (.iadd, 1) := by decide +kernel
theorem d_law_2351 : decode code 2351 = .ok (.iaload, 1) := by decide +kernel
theorem d_law_2352 : decode code 2352 = .ok (.aload_n 0, 1) := by decide +kernel
theorem d_law_2353 : decode code 2353 = .ok (.iload 5, 2) := by decide +kernel
theorem d_law_2355 : decode code 2355 = .ok (.iconst 3, 1) := by decide +kernel
theorem d_law_2356 : decode code 2356 = .ok (.iadd, 1) := by decide +kernel
theorem d_law_2357 : decode code 2357 = .ok (.iaload, 1) := by decide +kernel
theorem d_law_2358 : decode code 2358 = .ok (.invokevirtual 297, 3) := by decide +kernel
theorem d_law_2361 : decode code 2361 = .ok (.istore 7, 2) := by decide +kernel
theorem d_law_2363 : decode code 2363 = .ok (.aload_n 2, 1) := by decide +kernel
theorem d_law_2364 : decode code 2364 = .ok (.invokevirtual 160, 3) := by decide +kernel
theorem d_law_2367 : decode code 2367 = .ok (.iload 6, 2) := by decide +kernel
theorem d_law_2369 : decode code 2369 = .ok (.if_icmp .eq 5, 3) := by decide +kernel
theorem d_law_2374 : decode code 2374 = .ok (.iload 6, 2) := by decide +kernel
theorem d_law_2376 : decode code 2376 = .ok (.ifCond .ne 15, 3) := by decide +kernel
theorem d_law_2379 : decode code 2379 = .ok (.aload_n 3, 1) := by decide +kernel
theorem d_law_2380 : decode code 2380 = .ok (.iconst 0, 1) := by decide +kernel
theorem d_law_2381 : decode code 2381 = .ok (.laload, 1) := by decide +kernel
theorem d_law_2382 : decode code 2382 = .ok (.iload 7, 2) := by decide +kernel
theorem d_law_2384 : decode code 2384 = .ok (.i2l, 1) := by decide +kernel
theorem d_law_2385 : decode code 2385 = .ok (.lcmp, 1) := by decide +kernel
theorem d_law_2386 : decode code 2386 = .ok (.ifCond .eq 5, 3) := by decide +kernel
theorem d_law_2391 : decode code 2391 = .ok (.goto 681, 3) := by decide +kernel
theorem d_law_2394 : decode code 2394 = .ok (.aload_n 1, 1) := by decide +kernel
