/-! ===== lawcase 2: printed by wip/whole/lawcase.py ===== -/
theorem dL_law_2211 : decode cL_law 2211 = .ok (.aload_n 1, 1) := by decide +kernel
theorem dL_law_2212 : decode cL_law 2212 = .ok (.invokevirtual 291, 3) := by decide +kernel
theorem dL_law_2215 : decode cL_law 2215 = .ok (.aload_n 2, 1) := by decide +kernel
theorem dL_law_2216 : decode cL_law 2216 = .ok (.invokevirtual 294, 3) := by decide +kernel
theorem dL_law_2219 : decode cL_law 2219 = .ok (.if_icmp .eq 789, 3) := by decide +kernel
theorem dL_law_2222 : decode cL_law 2222 = .ok (.iconst 0, 1) := by decide +kernel
theorem dL_law_2223 : decode cL_law 2223 = .ok (.ireturn, 1) := by decide +kernel
theorem dL_law_2224 : decode cL_law 2224 = .ok (.aload_n 1, 1) := by decide +kernel
theorem dL_law_2225 : decode cL_law 2225 = .ok (.invokevirtual 295, 3) := by decide +kernel
theorem dL_law_2228 : decode cL_law 2228 = .ok (.aload_n 2, 1) := by decide +kernel
theorem dL_law_2229 : decode cL_law 2229 = .ok (.invokevirtual 298, 3) := by decide +kernel
theorem dL_law_2232 : decode cL_law 2232 = .ok (.if_icmp .eq 776, 3) := by decide +kernel
theorem dL_law_2235 : decode cL_law 2235 = .ok (.iconst 0, 1) := by decide +kernel
theorem dL_law_2236 : decode cL_law 2236 = .ok (.ireturn, 1) := by decide +kernel
theorem dL_law_2237 : decode cL_law 2237 = .ok (.aload_n 1, 1) := by decide +kernel
theorem dL_law_2238 : decode cL_law 2238 = .ok (.invokevirtual 299, 3) := by decide +kernel
theorem dL_law_2241 : decode cL_law 2241 = .ok (.aload_n 2, 1) := by decide +kernel
theorem dL_law_2242 : decode cL_law 2242 = .ok (.invokevirtual 302, 3) := by decide +kernel
theorem dL_law_2245 : decode cL_law 2245 = .ok (.if_icmp .eq 763, 3) := by decide +kernel
theorem dL_law_2248 : decode cL_law 2248 = .ok (.iconst 0, 1) := by decide +kernel
theorem dL_law_2249 : decode cL_law 2249 = .ok (.ireturn, 1) := by decide +kernel
theorem dL_law_2250 : decode cL_law 2250 = .ok (.aload_n 1, 1) := by decide +kernel
theorem dL_law_2251 : decode cL_law 2251 = .ok (.invokevirtual 303, 3) := by decide +kernel
theorem dL_law_2254 : decode cL_law 2254 = .ok (.aload_n 2, 1) := by decide +kernel
theorem dL_law_2255 : decode cL_law 2255 = .ok (.invokevirtual 306, 3) := by decide +kernel
theorem dL_law_2258 : decode cL_law 2258 = .ok (.if_icmp .eq 750, 3) := by decide +kernel
theorem dL_law_2261 : decode cL_law 2261 = .ok (.iconst 0, 1) := by decide +kernel
theorem dL_law_2262 : decode cL_law 2262 = .ok (.ireturn, 1) := by decide +kernel
theorem dL_law_2263 : decode cL_law 2263 = .ok (.aload_n 1, 1) := by decide +kernel
theorem dL_law_2264 : decode cL_law 2264 = .ok (.invokevirtual 307, 3) := by decide +kernel
theorem dL_law_2267 : decode cL_law 2267 = .ok (.aload_n 2, 1) := by decide +kernel
theorem dL_law_2268 : decode cL_law 2268 = .ok (.invokevirtual 310, 3) := by decide +kernel
theorem dL_law_2271 : decode cL_law 2271 = .ok (.if_icmp .eq 737, 3) := by decide +kernel
theorem dL_law_2274 : decode cL_law 2274 = .ok (.iconst 0, 1) := by decide +kernel
theorem dL_law_2275 : decode cL_law 2275 = .ok (.ireturn, 1) := by decide +kernel
theorem dL_law_2276 : decode cL_law 2276 = .ok (.aload_n 1, 1) := by decide +kernel
theorem dL_law_2277 : decode cL_law 2277 = .ok (.invokevirtual 311, 3) := by decide +kernel
theorem dL_law_2280 : decode cL_law 2280 = .ok (.aload_n 2, 1) := by decide +kernel
theorem dL_law_2281 : decode cL_law 2281 = .ok (.invokevirtual 314, 3) := by decide +kernel
theorem dL_law_2284 : decode cL_law 2284 = .ok (.if_icmp .eq 724, 3) := by decide +kernel
theorem dL_law_2287 : decode cL_law 2287 = .ok (.iconst 0, 1) := by decide +kernel
theorem dL_law_2288 : decode cL_law 2288 = .ok (.ireturn, 1) := by decide +kernel
theorem dL_law_2289 : decode cL_law 2289 = .ok (.aload_n 1, 1) := by decide +kernel
theorem dL_law_2290 : decode cL_law 2290 = .ok (.invokevirtual 315, 3) := by decide +kernel
theorem dL_law_2293 : decode cL_law 2293 = .ok (.f2d, 1) := by decide +kernel
theorem dL_law_2294 : decode cL_law 2294 = .ok (.dstore 5, 2) := by decide +kernel
theorem dL_law_2296 : decode cL_law 2296 = .ok (.aload_n 2, 1) := by decide +kernel
theorem dL_law_2297 : decode cL_law 2297 = .ok (.invokevirtual 319, 3) := by decide +kernel
theorem dL_law_2300 : decode cL_law 2300 = .ok (.f2d, 1) := by decide +kernel
theorem dL_law_2301 : decode cL_law 2301 = .ok (.dstore 7, 2) := by decide +kernel
theorem dL_law_2303 : decode cL_law 2303 = .ok (.dload 5, 2) := by decide +kernel
theorem dL_law_2305 : decode cL_law 2305 = .ok (.dload 7, 2) := by decide +kernel
theorem dL_law_2307 : decode cL_law 2307 = .ok (.dcmp .l, 1) := by decide +kernel
theorem dL_law_2308 : decode cL_law 2308 = .ok (.ifCond .eq 21, 3) := by decide +kernel
theorem dL_law_2311 : decode cL_law 2311 = .ok (.dload 5, 2) := by decide +kernel
theorem dL_law_2313 : decode cL_law 2313 = .ok (.dload 5, 2) := by decide +kernel
theorem dL_law_2315 : decode cL_law 2315 = .ok (.dcmp .l, 1) := by decide +kernel
theorem dL_law_2316 : decode cL_law 2316 = .ok (.ifCond .eq 11, 3) := by decide +kernel
theorem dL_law_2319 : decode cL_law 2319 = .ok (.dload 7, 2) := by decide +kernel
theorem dL_law_2321 : decode cL_law 2321 = .ok (.dload 7, 2) := by decide +kernel
theorem dL_law_2323 : decode cL_law 2323 = .ok (.dcmp .l, 1) := by decide +kernel
theorem dL_law_2324 : decode cL_law 2324 = .ok (.ifCond .ne 5, 3) := by decide +kernel
theorem dL_law_2327 : decode cL_law 2327 = .ok (.iconst 0, 1) := by decide +kernel
theorem dL_law_2328 : decode cL_law 2328 = .ok (.ireturn, 1) := by decide +kernel
theorem dL_law_2329 : decode cL_law 2329 = .ok (.goto 679, 3) := by decide +kernel
theorem dL_law_2332 : decode cL_law 2332 = .ok (.aload_n 1, 1) := by decide +kernel
theorem dL_law_2333 : decode cL_law 2333 = .ok (.invokevirtual 320, 3) := by decide +kernel
theorem dL_law_2336 : decode cL_law 2336 = .ok (.dstore 5, 2) := by decide +kernel
theorem dL_law_2338 : decode cL_law 2338 = .ok (.aload_n 2, 1) := by decide +kernel
theorem dL_law_2339 : decode cL_law 2339 = .ok (.invokevirtual 324, 3) := by decide +kernel
theorem dL_law_2342 : decode cL_law 2342 = .ok (.dstore 7, 2) := by decide +kernel
theorem dL_law_2344 : decode cL_law 2344 = .ok (.dload 5, 2) := by decide +kernel
theorem dL_law_2346 : decode cL_law 2346 = .ok (.dload 7, 2) := by decide +kernel
theorem dL_law_2348 : decode cL_law 2348 = .ok (.dcmp .l, 1) := by decide +kernel
theorem dL_law_2349 : decode cL_law 2349 = .ok (.ifCond .eq 21, 3) := by decide +kernel
theorem dL_law_2352 : decode cL_law 2352 = .ok (.dload 5, 2) := by decide +kernel
theorem dL_law_2354 : decode cL_law 2354 = .ok (.dload 5, 2) := by decide +kernel
theorem dL_law_2356 : decode cL_law 2356 = .ok (.dcmp .l, 1) := by decide +kernel
theorem dL_law_2357 : decode cL_law 2357 = .ok (.ifCond .eq 11, 3) := by decide +kernel
theorem dL_law_2360 : decode cL_law 2360 = .ok (.dload 7, 2) := by decide +kernel
theorem dL_law_2362 : decode cL_law 2362 = .ok (.dload 7, 2) := by decide +kernel
theorem dL_law_2364 : decode cL_law 2364 = .ok (.dcmp .l, 1) := by decide +kernel
theorem dL_law_2365 : decode cL_law 2365 = .ok (.ifCond .ne 5, 3) := by decide +kernel
theorem dL_law_2368 : decode cL_law 2368 = .ok (.iconst 0, 1) := by decide +kernel
theorem dL_law_2369 : decode cL_law 2369 = .ok (.ireturn, 1) := by decide +kernel
theorem dL_law_2370 : decode cL_law 2370 = .ok (.goto 638, 3) := by decide +kernel
theorem dL_law_2373 : decode cL_law 2373 = .ok (.aload_n 1, 1) := by decide +kernel
theorem dL_law_2374 : decode cL_law 2374 = .ok (.aload_n 0, 1) := by decide +kernel
theorem dL_law_2375 : decode cL_law 2375 = .ok (.iload 4, 2) := by decide +kernel
theorem dL_law_2377 : decode cL_law 2377 = .ok (.iconst 1, 1) := by decide +kernel
theorem dL_law_2378 : decode cL_law 2378 = .ok (.iadd, 1) := by decide +kernel
theorem dL_law_2379 : decode cL_law 2379 = .ok (.iaload, 1) := by decide +kernel
theorem dL_law_2380 : decode cL_law 2380 = .ok (.aload_n 0, 1) := by decide +kernel
theorem dL_law_2381 : decode cL_law 2381 = .ok (.iload 4, 2) := by decide +kernel
theorem dL_law_2383 : decode cL_law 2383 = .ok (.iconst 2, 1) := by decide +kernel
theorem dL_law_2384 : decode cL_law 2384 = .ok (.iadd, 1) := by decide +kernel
theorem dL_law_2385 : decode cL_law 2385 = .ok (.iaload, 1) := by decide +kernel
theorem dL_law_2386 : decode cL_law 2386 = .ok (.aload_n 3, 1) := by decide +kernel
theorem dL_law_2387 : decode cL_law 2387 = .ok (.invokestatic 325, 3) := by decide +kernel
theorem dL_law_2390 : decode cL_law 2390 = .ok (.istore 5, 2) := by decide +kernel
theorem dL_law_2392 : decode cL_law 2392 = .ok (.aload_n 2, 1) := by decide +kernel
theorem dL_law_2393 : decode cL_law 2393 = .ok (.aload_n 0, 1) := by decide +kernel
theorem dL_law_2394 : decode cL_law 2394 = .ok (.iload 4, 2) := by decide +kernel
theorem dL_law_2396 : decode cL_law 2396 = .ok (.iconst 1, 1) := by decide +kernel
theorem dL_law_2397 : decode cL_law 2397 = .ok (.iadd, 1) := by decide +kernel
theorem dL_law_2398 : decode cL_law 2398 = .ok (.iaload, 1) := by decide +kernel
theorem dL_law_2399 : decode cL_law 2399 = .ok (.aload_n 0, 1) := by decide +kernel
theorem dL_law_2400 : decode cL_law 2400 = .ok (.iload 4, 2) := by decide +kernel
theorem dL_law_2402 : decode cL_law 2402 = .ok (.iconst 2, 1) := by decide +kernel
theorem dL_law_2403 : decode cL_law 2403 = .ok (.iadd, 1) := by decide +kernel
theorem dL_law_2404 : decode cL_law 2404 = .ok (.iaload, 1) := by decide +kernel
theorem dL_law_2405 : decode cL_law 2405 = .ok (.invokevirtual 327, 3) := by decide +kernel
theorem dL_law_2408 : decode cL_law 2408 = .ok (.istore 6, 2) := by decide +kernel
theorem dL_law_2410 : decode cL_law 2410 = .ok (.aload_n 2, 1) := by decide +kernel
theorem dL_law_2411 : decode cL_law 2411 = .ok (.invokevirtual 148, 3) := by decide +kernel
theorem dL_law_2414 : decode cL_law 2414 = .ok (.iload 5, 2) := by decide +kernel
theorem dL_law_2416 : decode cL_law 2416 = .ok (.if_icmp .eq 5, 3) := by decide +kernel
theorem dL_law_2419 : decode cL_law 2419 = .ok (.iconst 0, 1) := by decide +kernel
theorem dL_law_2420 : decode cL_law 2420 = .ok (.ireturn, 1) := by decide +kernel
theorem dL_law_2421 : decode cL_law 2421 = .ok (.iload 5, 2) := by decide +kernel
theorem dL_law_2423 : decode cL_law 2423 = .ok (.ifCond .ne 15, 3) := by decide +kernel
theorem dL_law_2426 : decode cL_law 2426 = .ok (.aload_n 3, 1) := by decide +kernel
theorem dL_law_2427 : decode cL_law 2427 = .ok (.iconst 0, 1) := by decide +kernel
theorem dL_law_2428 : decode cL_law 2428 = .ok (.laload, 1) := by decide +kernel
theorem dL_law_2429 : decode cL_law 2429 = .ok (.iload 6, 2) := by decide +kernel
theorem dL_law_2431 : decode cL_law 2431 = .ok (.i2l, 1) := by decide +kernel
theorem dL_law_2432 : decode cL_law 2432 = .ok (.lcmp, 1) := by decide +kernel
theorem dL_law_2433 : decode cL_law 2433 = .ok (.ifCond .eq 5, 3) := by decide +kernel
theorem dL_law_2436 : decode cL_law 2436 = .ok (.iconst 0, 1) := by decide +kernel
theorem dL_law_2437 : decode cL_law 2437 = .ok (.ireturn, 1) := by decide +kernel
theorem dL_law_2438 : decode cL_law 2438 = .ok (.goto 570, 3) := by decide +kernel
theorem dL_law_2441 : decode cL_law 2441 = .ok (.aload_n 1, 1) := by decide +kernel
theorem dL_law_2442 : decode cL_law 2442 = .ok (.aload_n 0, 1) := by decide +kernel
theorem dL_law_2443 : decode cL_law 2443 = .ok (.iload 4, 2) := by decide +kernel
theorem dL_law_2445 : decode cL_law 2445 = .ok (.iconst 1, 1) := by decide +kernel
theorem dL_law_2446 : decode cL_law 2446 = .ok (.iadd, 1) := by decide +kernel
theorem dL_law_2447 : decode cL_law 2447 = .ok (.iaload, 1) := by decide +kernel
theorem dL_law_2448 : decode cL_law 2448 = .ok (.aload_n 3, 1) := by decide +kernel
theorem dL_law_2449 : decode cL_law 2449 = .ok (.invokestatic 328, 3) := by decide +kernel
theorem dL_law_2452 : decode cL_law 2452 = .ok (.istore 5, 2) := by decide +kernel
theorem dL_law_2454 : decode cL_law 2454 = .ok (.aload_n 2, 1) := by decide +kernel
theorem dL_law_2455 : decode cL_law 2455 = .ok (.aload_n 0, 1) := by decide +kernel
theorem dL_law_2456 : decode cL_law 2456 = .ok (.iload 4, 2) := by decide +kernel
theorem dL_law_2458 : decode cL_law 2458 = .ok (.iconst 1, 1) := by decide +kernel
theorem dL_law_2459 : decode cL_law 2459 = .ok (.iadd, 1) := by decide +kernel
theorem dL_law_2460 : decode cL_law 2460 = .ok (.iaload, 1) := by decide +kernel
theorem dL_law_2461 : decode cL_law 2461 = .ok (.invokevirtual 330, 3) := by decide +kernel
theorem dL_law_2464 : decode cL_law 2464 = .ok (.istore 6, 2) := by decide +kernel
theorem dL_law_2466 : decode cL_law 2466 = .ok (.aload_n 2, 1) := by decide +kernel
theorem dL_law_2467 : decode cL_law 2467 = .ok (.invokevirtual 148, 3) := by decide +kernel
theorem dL_law_2470 : decode cL_law 2470 = .ok (.iload 5, 2) := by decide +kernel
theorem dL_law_2472 : decode cL_law 2472 = .ok (.if_icmp .eq 5, 3) := by decide +kernel
theorem dL_law_2475 : decode cL_law 2475 = .ok (.iconst 0, 1) := by decide +kernel
theorem dL_law_2476 : decode cL_law 2476 = .ok (.ireturn, 1) := by decide +kernel
theorem dL_law_2477 : decode cL_law 2477 = .ok (.iload 5, 2) := by decide +kernel
theorem dL_law_2479 : decode cL_law 2479 = .ok (.ifCond .ne 15, 3) := by decide +kernel
theorem dL_law_2482 : decode cL_law 2482 = .ok (.aload_n 3, 1) := by decide +kernel
theorem dL_law_2483 : decode cL_law 2483 = .ok (.iconst 0, 1) := by decide +kernel
theorem dL_law_2484 : decode cL_law 2484 = .ok (.laload, 1) := by decide +kernel
theorem dL_law_2485 : decode cL_law 2485 = .ok (.iload 6, 2) := by decide +kernel
theorem dL_law_2487 : decode cL_law 2487 = .ok (.i2l, 1) := by decide +kernel
theorem dL_law_2488 : decode cL_law 2488 = .ok (.lcmp, 1) := by decide +kernel
theorem dL_law_2489 : decode cL_law 2489 = .ok (.ifCond .eq 5, 3) := by decide +kernel
theorem dL_law_2492 : decode cL_law 2492 = .ok (.iconst 0, 1) := by decide +kernel
theorem dL_law_2493 : decode cL_law 2493 = .ok (.ireturn, 1) := by decide +kernel
theorem dL_law_2494 : decode cL_law 2494 = .ok (.goto 514, 3) := by decide +kernel
theorem dL_law_2497 : decode cL_law 2497 = .ok (.aload_n 1, 1) := by decide +kernel
theorem dL_law_2498 : decode cL_law 2498 = .ok (.aload_n 0, 1) := by decide +kernel
theorem dL_law_2499 : decode cL_law 2499 = .ok (.iload 4, 2) := by decide +kernel
theorem dL_law_2501 : decode cL_law 2501 = .ok (.iconst 1, 1) := by decide +kernel
theorem dL_law_2502 : decode cL_law 2502 = .ok (.iadd, 1) := by decide +kernel
theorem dL_law_2503 : decode cL_law 2503 = .ok (.iaload, 1) := by decide +kernel
theorem dL_law_2504 : decode cL_law 2504 = .ok (.aload_n 0, 1) := by decide +kernel
theorem dL_law_2505 : decode cL_law 2505 = .ok (.iload 4, 2) := by decide +kernel
theorem dL_law_2507 : decode cL_law 2507 = .ok (.iconst 2, 1) := by decide +kernel
theorem dL_law_2508 : decode cL_law 2508 = .ok (.iadd, 1) := by decide +kernel
theorem dL_law_2509 : decode cL_law 2509 = .ok (.iaload, 1) := by decide +kernel
theorem dL_law_2510 : decode cL_law 2510 = .ok (.aload_n 3, 1) := by decide +kernel
theorem dL_law_2511 : decode cL_law 2511 = .ok (.invokestatic 331, 3) := by decide +kernel
theorem dL_law_2514 : decode cL_law 2514 = .ok (.istore 5, 2) := by decide +kernel
theorem dL_law_2516 : decode cL_law 2516 = .ok (.aload_n 2, 1) := by decide +kernel
theorem dL_law_2517 : decode cL_law 2517 = .ok (.aload_n 0, 1) := by decide +kernel
theorem dL_law_2518 : decode cL_law 2518 = .ok (.iload 4, 2) := by decide +kernel
theorem dL_law_2520 : decode cL_law 2520 = .ok (.iconst 1, 1) := by decide +kernel
theorem dL_law_2521 : decode cL_law 2521 = .ok (.iadd, 1) := by decide +kernel
theorem dL_law_2522 : decode cL_law 2522 = .ok (.iaload, 1) := by decide +kernel
theorem dL_law_2523 : decode cL_law 2523 = .ok (.aload_n 0, 1) := by decide +kernel
theorem dL_law_2524 : decode cL_law 2524 = .ok (.iload 4, 2) := by decide +kernel
theorem dL_law_2526 : decode cL_law 2526 = .ok (.iconst 2, 1) := by decide +kernel
theorem dL_law_2527 : decode cL_law 2527 = .ok (.iadd, 1) := by decide +kernel
theorem dL_law_2528 : decode cL_law 2528 = .ok (.iaload, 1) := by decide +kernel
theorem dL_law_2529 : decode cL_law 2529 = .ok (.invokevirtual 333, 3) := by decide +kernel
theorem dL_law_2532 : decode cL_law 2532 = .ok (.istore 6, 2) := by decide +kernel
theorem dL_law_2534 : decode cL_law 2534 = .ok (.aload_n 2, 1) := by decide +kernel
theorem dL_law_2535 : decode cL_law 2535 = .ok (.invokevirtual 148, 3) := by decide +kernel
theorem dL_law_2538 : decode cL_law 2538 = .ok (.iload 5, 2) := by decide +kernel
theorem dL_law_2540 : decode cL_law 2540 = .ok (.if_icmp .eq 5, 3) := by decide +kernel
theorem dL_law_2543 : decode cL_law 2543 = .ok (.iconst 0, 1) := by decide +kernel
theorem dL_law_2544 : decode cL_law 2544 = .ok (.ireturn, 1) := by decide +kernel
theorem dL_law_2545 : decode cL_law 2545 = .ok (.iload 5, 2) := by decide +kernel
theorem dL_law_2547 : decode cL_law 2547 = .ok (.ifCond .ne 15, 3) := by decide +kernel
theorem dL_law_2550 : decode cL_law 2550 = .ok (.aload_n 3, 1) := by decide +kernel
theorem dL_law_2551 : decode cL_law 2551 = .ok (.iconst 0, 1) := by decide +kernel
theorem dL_law_2552 : decode cL_law 2552 = .ok (.laload, 1) := by decide +kernel
theorem dL_law_2553 : decode cL_law 2553 = .ok (.iload 6, 2) := by decide +kernel
theorem dL_law_2555 : decode cL_law 2555 = .ok (.i2l, 1) := by decide +kernel
theorem dL_law_2556 : decode cL_law 2556 = .ok (.lcmp, 1) := by decide +kernel
theorem dL_law_2557 : decode cL_law 2557 = .ok (.ifCond .eq 5, 3) := by decide +kernel
theorem dL_law_2560 : decode cL_law 2560 = .ok (.iconst 0, 1) := by decide +kernel
theorem dL_law_2561 : decode cL_law 2561 = .ok (.ireturn, 1) := by decide +kernel
theorem dL_law_2562 : decode cL_law 2562 = .ok (.goto 446, 3) := by decide +kernel
theorem dL_law_2565 : decode cL_law 2565 = .ok (.aload_n 1, 1) := by decide +kernel
theorem dL_law_2566 : decode cL_law 2566 = .ok (.aload_n 0, 1) := by decide +kernel
theorem dL_law_2567 : decode cL_law 2567 = .ok (.iload 4, 2) := by decide +kernel
theorem dL_law_2569 : decode cL_law 2569 = .ok (.iconst 1, 1) := by decide +kernel
theorem dL_law_2570 : decode cL_law 2570 = .ok (.iadd, 1) := by decide +kernel
theorem dL_law_2571 : decode cL_law 2571 = .ok (.iaload, 1) := by decide +kernel
theorem dL_law_2572 : decode cL_law 2572 = .ok (.aload_n 0, 1) := by decide +kernel
theorem dL_law_2573 : decode cL_law 2573 = .ok (.iload 4, 2) := by decide +kernel
theorem dL_law_2575 : decode cL_law 2575 = .ok (.iconst 2, 1) := by decide +kernel
theorem dL_law_2576 : decode cL_law 2576 = .ok (.iadd, 1) := by decide +kernel
theorem dL_law_2577 : decode cL_law 2577 = .ok (.iaload, 1) := by decide +kernel
theorem dL_law_2578 : decode cL_law 2578 = .ok (.aload_n 3, 1) := by decide +kernel
theorem dL_law_2579 : decode cL_law 2579 = .ok (.invokestatic 334, 3) := by decide +kernel
theorem dL_law_2582 : decode cL_law 2582 = .ok (.istore 5, 2) := by decide +kernel
theorem dL_law_2584 : decode cL_law 2584 = .ok (.aload_n 2, 1) := by decide +kernel
theorem dL_law_2585 : decode cL_law 2585 = .ok (.aload_n 0, 1) := by decide +kernel
theorem dL_law_2586 : decode cL_law 2586 = .ok (.iload 4, 2) := by decide +kernel
theorem dL_law_2588 : decode cL_law 2588 = .ok (.iconst 1, 1) := by decide +kernel
theorem dL_law_2589 : decode cL_law 2589 = .ok (.iadd, 1) := by decide +kernel
theorem dL_law_2590 : decode cL_law 2590 = .ok (.iaload, 1) := by decide +kernel
theorem dL_law_2591 : decode cL_law 2591 = .ok (.aload_n 0, 1) := by decide +kernel
theorem dL_law_2592 : decode cL_law 2592 = .ok (.iload 4, 2) := by decide +kernel
theorem dL_law_2594 : decode cL_law 2594 = .ok (.iconst 2, 1) := by decide +kernel
theorem dL_law_2595 : decode cL_law 2595 = .ok (.iadd, 1) := by decide +kernel
theorem dL_law_2596 : decode cL_law 2596 = .ok (.iaload, 1) := by decide +kernel
theorem dL_law_2597 : decode cL_law 2597 = .ok (.invokevirtual 336, 3) := by decide +kernel
theorem dL_law_2600 : decode cL_law 2600 = .ok (.istore 6, 2) := by decide +kernel
theorem dL_law_2602 : decode cL_law 2602 = .ok (.aload_n 2, 1) := by decide +kernel
theorem dL_law_2603 : decode cL_law 2603 = .ok (.invokevirtual 148, 3) := by decide +kernel
theorem dL_law_2606 : decode cL_law 2606 = .ok (.iload 5, 2) := by decide +kernel
theorem dL_law_2608 : decode cL_law 2608 = .ok (.if_icmp .eq 5, 3) := by decide +kernel
theorem dL_law_2611 : decode cL_law 2611 = .ok (.iconst 0, 1) := by decide +kernel
theorem dL_law_2612 : decode cL_law 2612 = .ok (.ireturn, 1) := by decide +kernel
theorem dL_law_2613 : decode cL_law 2613 = .ok (.iload 5, 2) := by decide +kernel
theorem dL_law_2615 : decode cL_law 2615 = .ok (.ifCond .ne 15, 3) := by decide +kernel
theorem dL_law_2618 : decode cL_law 2618 = .ok (.aload_n 3, 1) := by decide +kernel
theorem dL_law_2619 : decode cL_law 2619 = .ok (.iconst 0, 1) := by decide +kernel
theorem dL_law_2620 : decode cL_law 2620 = .ok (.laload, 1) := by decide +kernel
theorem dL_law_2621 : decode cL_law 2621 = .ok (.iload 6, 2) := by decide +kernel
theorem dL_law_2623 : decode cL_law 2623 = .ok (.i2l, 1) := by decide +kernel
theorem dL_law_2624 : decode cL_law 2624 = .ok (.lcmp, 1) := by decide +kernel
theorem dL_law_2625 : decode cL_law 2625 = .ok (.ifCond .eq 5, 3) := by decide +kernel
theorem dL_law_2628 : decode cL_law 2628 = .ok (.iconst 0, 1) := by decide +kernel
theorem dL_law_2629 : decode cL_law 2629 = .ok (.ireturn, 1) := by decide +kernel
theorem dL_law_2630 : decode cL_law 2630 = .ok (.goto 378, 3) := by decide +kernel
theorem dL_law_2633 : decode cL_law 2633 = .ok (.aload_n 1, 1) := by decide +kernel
theorem dL_law_2634 : decode cL_law 2634 = .ok (.aload_n 0, 1) := by decide +kernel
theorem dL_law_2635 : decode cL_law 2635 = .ok (.iload 4, 2) := by decide +kernel
theorem dL_law_2637 : decode cL_law 2637 = .ok (.iconst 1, 1) := by decide +kernel
theorem dL_law_2638 : decode cL_law 2638 = .ok (.iadd, 1) := by decide +kernel
theorem dL_law_2639 : decode cL_law 2639 = .ok (.iaload, 1) := by decide +kernel
theorem dL_law_2640 : decode cL_law 2640 = .ok (.aload_n 3, 1) := by decide +kernel
theorem dL_law_2641 : decode cL_law 2641 = .ok (.invokestatic 337, 3) := by decide +kernel
theorem dL_law_2644 : decode cL_law 2644 = .ok (.istore 5, 2) := by decide +kernel
theorem dL_law_2646 : decode cL_law 2646 = .ok (.aload_n 2, 1) := by decide +kernel
theorem dL_law_2647 : decode cL_law 2647 = .ok (.aload_n 0, 1) := by decide +kernel
theorem dL_law_2648 : decode cL_law 2648 = .ok (.iload 4, 2) := by decide +kernel
theorem dL_law_2650 : decode cL_law 2650 = .ok (.iconst 1, 1) := by decide +kernel
theorem dL_law_2651 : decode cL_law 2651 = .ok (.iadd, 1) := by decide +kernel
theorem dL_law_2652 : decode cL_law 2652 = .ok (.iaload, 1) := by decide +kernel
theorem dL_law_2653 : decode cL_law 2653 = .ok (.invokevirtual 339, 3) := by decide +kernel
theorem dL_law_2656 : decode cL_law 2656 = .ok (.istore 6, 2) := by decide +kernel
theorem dL_law_2658 : decode cL_law 2658 = .ok (.aload_n 2, 1) := by decide +kernel
theorem dL_law_2659 : decode cL_law 2659 = .ok (.invokevirtual 148, 3) := by decide +kernel
theorem dL_law_2662 : decode cL_law 2662 = .ok (.iload 5, 2) := by decide +kernel
theorem dL_law_2664 : decode cL_law 2664 = .ok (.if_icmp .eq 5, 3) := by decide +kernel
theorem dL_law_2667 : decode cL_law 2667 = .ok (.iconst 0, 1) := by decide +kernel
theorem dL_law_2668 : decode cL_law 2668 = .ok (.ireturn, 1) := by decide +kernel
theorem dL_law_2669 : decode cL_law 2669 = .ok (.iload 5, 2) := by decide +kernel
theorem dL_law_2671 : decode cL_law 2671 = .ok (.ifCond .ne 15, 3) := by decide +kernel
theorem dL_law_2674 : decode cL_law 2674 = .ok (.aload_n 3, 1) := by decide +kernel
theorem dL_law_2675 : decode cL_law 2675 = .ok (.iconst 0, 1) := by decide +kernel
theorem dL_law_2676 : decode cL_law 2676 = .ok (.laload, 1) := by decide +kernel
theorem dL_law_2677 : decode cL_law 2677 = .ok (.iload 6, 2) := by decide +kernel
theorem dL_law_2679 : decode cL_law 2679 = .ok (.i2l, 1) := by decide +kernel
theorem dL_law_2680 : decode cL_law 2680 = .ok (.lcmp, 1) := by decide +kernel
theorem dL_law_2681 : decode cL_law 2681 = .ok (.ifCond .eq 5, 3) := by decide +kernel
theorem dL_law_2684 : decode cL_law 2684 = .ok (.iconst 0, 1) := by decide +kernel
theorem dL_law_2685 : decode cL_law 2685 = .ok (.ireturn, 1) := by decide +kernel
theorem dL_law_2686 : decode cL_law 2686 = .ok (.goto 322, 3) := by decide +kernel
theorem dL_law_2689 : decode cL_law 2689 = .ok (.aload_n 1, 1) := by decide +kernel
theorem dL_law_2690 : decode cL_law 2690 = .ok (.aload_n 0, 1) := by decide +kernel
theorem dL_law_2691 : decode cL_law 2691 = .ok (.iload 4, 2) := by decide +kernel
theorem dL_law_2693 : decode cL_law 2693 = .ok (.iconst 1, 1) := by decide +kernel
theorem dL_law_2694 : decode cL_law 2694 = .ok (.iadd, 1) := by decide +kernel
theorem dL_law_2695 : decode cL_law 2695 = .ok (.iaload, 1) := by decide +kernel
theorem dL_law_2696 : decode cL_law 2696 = .ok (.aload_n 0, 1) := by decide +kernel
theorem dL_law_2697 : decode cL_law 2697 = .ok (.iload 4, 2) := by decide +kernel
theorem dL_law_2699 : decode cL_law 2699 = .ok (.iconst 2, 1) := by decide +kernel
theorem dL_law_2700 : decode cL_law 2700 = .ok (.iadd, 1) := by decide +kernel
theorem dL_law_2701 : decode cL_law 2701 = .ok (.iaload, 1) := by decide +kernel
theorem dL_law_2702 : decode cL_law 2702 = .ok (.aload_n 3, 1) := by decide +kernel
theorem dL_law_2703 : decode cL_law 2703 = .ok (.invokestatic 340, 3) := by decide +kernel
theorem dL_law_2706 : decode cL_law 2706 = .ok (.istore 5, 2) := by decide +kernel
theorem dL_law_2708 : decode cL_law 2708 = .ok (.aload_n 2, 1) := by decide +kernel
theorem dL_law_2709 : decode cL_law 2709 = .ok (.aload_n 0, 1) := by decide +kernel
theorem dL_law_2710 : decode cL_law 2710 = .ok (.iload 4, 2) := by decide +kernel
theorem dL_law_2712 : decode cL_law 2712 = .ok (.iconst 1, 1) := by decide +kernel
theorem dL_law_2713 : decode cL_law 2713 = .ok (.iadd, 1) := by decide +kernel
theorem dL_law_2714 : decode cL_law 2714 = .ok (.iaload, 1) := by decide +kernel
theorem dL_law_2715 : decode cL_law 2715 = .ok (.aload_n 0, 1) := by decide +kernel
theorem dL_law_2716 : decode cL_law 2716 = .ok (.iload 4, 2) := by decide +kernel
theorem dL_law_2718 : decode cL_law 2718 = .ok (.iconst 2, 1) := by decide +kernel
theorem dL_law_2719 : decode cL_law 2719 = .ok (.iadd, 1) := by decide +kernel
theorem dL_law_2720 : decode cL_law 2720 = .ok (.iaload, 1) := by decide +kernel
theorem dL_law_2721 : decode cL_law 2721 = .ok (.invokevirtual 342, 3) := by decide +kernel
theorem dL_law_2724 : decode cL_law 2724 = .ok (.istore 6, 2) := by decide +kernel
theorem dL_law_2726 : decode cL_law 2726 = .ok (.aload_n 2, 1) := by decide +kernel
theorem dL_law_2727 : decode cL_law 2727 = .ok (.invokevirtual 148, 3) := by decide +kernel
theorem dL_law_2730 : decode cL_law 2730 = .ok (.iload 5, 2) := by decide +kernel
theorem dL_law_2732 : decode cL_law 2732 = .ok (.if_icmp .eq 5, 3) := by decide +kernel
theorem dL_law_2735 : decode cL_law 2735 = .ok (.iconst 0, 1) := by decide +kernel
theorem dL_law_2736 : decode cL_law 2736 = .ok (.ireturn, 1) := by decide +kernel
theorem dL_law_2737 : decode cL_law 2737 = .ok (.iload 5, 2) := by decide +kernel
theorem dL_law_2739 : decode cL_law 2739 = .ok (.ifCond .ne 15, 3) := by decide +kernel
theorem dL_law_2742 : decode cL_law 2742 = .ok (.aload_n 3, 1) := by decide +kernel
theorem dL_law_2743 : decode cL_law 2743 = .ok (.iconst 0, 1) := by decide +kernel
theorem dL_law_2744 : decode cL_law 2744 = .ok (.laload, 1) := by decide +kernel
theorem dL_law_2745 : decode cL_law 2745 = .ok (.iload 6, 2) := by decide +kernel
theorem dL_law_2747 : decode cL_law 2747 = .ok (.i2l, 1) := by decide +kernel
theorem dL_law_2748 : decode cL_law 2748 = .ok (.lcmp, 1) := by decide +kernel
theorem dL_law_2749 : decode cL_law 2749 = .ok (.ifCond .eq 5, 3) := by decide +kernel
theorem dL_law_2752 : decode cL_law 2752 = .ok (.iconst 0, 1) := by decide +kernel
theorem dL_law_2753 : decode cL_law 2753 = .ok (.ireturn, 1) := by decide +kernel
theorem dL_law_2754 : decode cL_law 2754 = .ok (.goto 254, 3) := by decide +kernel
theorem dL_law_2757 : decode cL_law 2757 = .ok (.aload_n 1, 1) := by decide +kernel
theorem dL_law_2758 : decode cL_law 2758 = .ok (.aload_n 0, 1) := by decide +kernel
theorem dL_law_2759 : decode cL_law 2759 = .ok (.iload 4, 2) := by decide +kernel
theorem dL_law_2761 : decode cL_law 2761 = .ok (.iconst 1, 1) := by decide +kernel
theorem dL_law_2762 : decode cL_law 2762 = .ok (.iadd, 1) := by decide +kernel
theorem dL_law_2763 : decode cL_law 2763 = .ok (.iaload, 1) := by decide +kernel
theorem dL_law_2764 : decode cL_law 2764 = .ok (.aload_n 3, 1) := by decide +kernel
theorem dL_law_2765 : decode cL_law 2765 = .ok (.invokestatic 343, 3) := by decide +kernel
theorem dL_law_2768 : decode cL_law 2768 = .ok (.istore 5, 2) := by decide +kernel
theorem dL_law_2770 : decode cL_law 2770 = .ok (.aload_n 2, 1) := by decide +kernel
theorem dL_law_2771 : decode cL_law 2771 = .ok (.aload_n 0, 1) := by decide +kernel
theorem dL_law_2772 : decode cL_law 2772 = .ok (.iload 4, 2) := by decide +kernel
theorem dL_law_2774 : decode cL_law 2774 = .ok (.iconst 1, 1) := by decide +kernel
theorem dL_law_2775 : decode cL_law 2775 = .ok (.iadd, 1) := by decide +kernel
theorem dL_law_2776 : decode cL_law 2776 = .ok (.iaload, 1) := by decide +kernel
theorem dL_law_2777 : decode cL_law 2777 = .ok (.invokevirtual 345, 3) := by decide +kernel
theorem dL_law_2780 : decode cL_law 2780 = .ok (.istore 6, 2) := by decide +kernel
theorem dL_law_2782 : decode cL_law 2782 = .ok (.aload_n 2, 1) := by decide +kernel
theorem dL_law_2783 : decode cL_law 2783 = .ok (.invokevirtual 148, 3) := by decide +kernel
theorem dL_law_2786 : decode cL_law 2786 = .ok (.iload 5, 2) := by decide +kernel
theorem dL_law_2788 : decode cL_law 2788 = .ok (.if_icmp .eq 5, 3) := by decide +kernel
theorem dL_law_2791 : decode cL_law 2791 = .ok (.iconst 0, 1) := by decide +kernel
theorem dL_law_2792 : decode cL_law 2792 = .ok (.ireturn, 1) := by decide +kernel
theorem dL_law_2793 : decode cL_law 2793 = .ok (.iload 5, 2) := by decide +kernel
theorem dL_law_2795 : decode cL_law 2795 = .ok (.ifCond .ne 15, 3) := by decide +kernel
theorem dL_law_2798 : decode cL_law 2798 = .ok (.aload_n 3, 1) := by decide +kernel
theorem dL_law_2799 : decode cL_law 2799 = .ok (.iconst 0, 1) := by decide +kernel
theorem dL_law_2800 : decode cL_law 2800 = .ok (.laload, 1) := by decide +kernel
theorem dL_law_2801 : decode cL_law 2801 = .ok (.iload 6, 2) := by decide +kernel
theorem dL_law_2803 : decode cL_law 2803 = .ok (.i2l, 1) := by decide +kernel
theorem dL_law_2804 : decode cL_law 2804 = .ok (.lcmp, 1) := by decide +kernel
theorem dL_law_2805 : decode cL_law 2805 = .ok (.ifCond .eq 5, 3) := by decide +kernel
theorem dL_law_2808 : decode cL_law 2808 = .ok (.iconst 0, 1) := by decide +kernel
theorem dL_law_2809 : decode cL_law 2809 = .ok (.ireturn, 1) := by decide +kernel
theorem dL_law_2810 : decode cL_law 2810 = .ok (.goto 198, 3) := by decide +kernel
theorem dL_law_2813 : decode cL_law 2813 = .ok (.aload_n 1, 1) := by decide +kernel
theorem dL_law_2814 : decode cL_law 2814 = .ok (.aload_n 0, 1) := by decide +kernel
theorem dL_law_2815 : decode cL_law 2815 = .ok (.iload 4, 2) := by decide +kernel
theorem dL_law_2817 : decode cL_law 2817 = .ok (.iconst 1, 1) := by decide +kernel
theorem dL_law_2818 : decode cL_law 2818 = .ok (.iadd, 1) := by decide +kernel
theorem dL_law_2819 : decode cL_law 2819 = .ok (.iaload, 1) := by decide +kernel
theorem dL_law_2820 : decode cL_law 2820 = .ok (.aload_n 3, 1) := by decide +kernel
theorem dL_law_2821 : decode cL_law 2821 = .ok (.invokestatic 346, 3) := by decide +kernel
theorem dL_law_2824 : decode cL_law 2824 = .ok (.istore 5, 2) := by decide +kernel
theorem dL_law_2826 : decode cL_law 2826 = .ok (.aload_n 2, 1) := by decide +kernel
theorem dL_law_2827 : decode cL_law 2827 = .ok (.aload_n 0, 1) := by decide +kernel
theorem dL_law_2828 : decode cL_law 2828 = .ok (.iload 4, 2) := by decide +kernel
theorem dL_law_2830 : decode cL_law 2830 = .ok (.iconst 1, 1) := by decide +kernel
theorem dL_law_2831 : decode cL_law 2831 = .ok (.iadd, 1) := by decide +kernel
theorem dL_law_2832 : decode cL_law 2832 = .ok (.iaload, 1) := by decide +kernel
theorem dL_law_2833 : decode cL_law 2833 = .ok (.invokevirtual 348, 3) := by decide +kernel
theorem dL_law_2836 : decode cL_law 2836 = .ok (.istore 6, 2) := by decide +kernel
theorem dL_law_2838 : decode cL_law 2838 = .ok (.aload_n 2, 1) := by decide +kernel
theorem dL_law_2839 : decode cL_law 2839 = .ok (.invokevirtual 148, 3) := by decide +kernel
theorem dL_law_2842 : decode cL_law 2842 = .ok (.iload 5, 2) := by decide +kernel
theorem dL_law_2844 : decode cL_law 2844 = .ok (.if_icmp .eq 5, 3) := by decide +kernel
theorem dL_law_2847 : decode cL_law 2847 = .ok (.iconst 0, 1) := by decide +kernel
theorem dL_law_2848 : decode cL_law 2848 = .ok (.ireturn, 1) := by decide +kernel
theorem dL_law_2849 : decode cL_law 2849 = .ok (.iload 5, 2) := by decide +kernel
theorem dL_law_2851 : decode cL_law 2851 = .ok (.ifCond .ne 15, 3) := by decide +kernel
theorem dL_law_2854 : decode cL_law 2854 = .ok (.aload_n 3, 1) := by decide +kernel
theorem dL_law_2855 : decode cL_law 2855 = .ok (.iconst 0, 1) := by decide +kernel
theorem dL_law_2856 : decode cL_law 2856 = .ok (.laload, 1) := by decide +kernel
theorem dL_law_2857 : decode cL_law 2857 = .ok (.iload 6, 2) := by decide +kernel
theorem dL_law_2859 : decode cL_law 2859 = .ok (.i2l, 1) := by decide +kernel
theorem dL_law_2860 : decode cL_law 2860 = .ok (.lcmp, 1) := by decide +kernel
theorem dL_law_2861 : decode cL_law 2861 = .ok (.ifCond .eq 5, 3) := by decide +kernel
theorem dL_law_2864 : decode cL_law 2864 = .ok (.iconst 0, 1) := by decide +kernel
theorem dL_law_2865 : decode cL_law 2865 = .ok (.ireturn, 1) := by decide +kernel
theorem dL_law_2866 : decode cL_law 2866 = .ok (.goto 142, 3) := by decide +kernel
theorem dL_law_2869 : decode cL_law 2869 = .ok (.aload_n 1, 1) := by decide +kernel
theorem dL_law_2870 : decode cL_law 2870 = .ok (.aload_n 3, 1) := by decide +kernel
theorem dL_law_2871 : decode cL_law 2871 = .ok (.invokestatic 349, 3) := by decide +kernel
theorem dL_law_2874 : decode cL_law 2874 = .ok (.istore 5, 2) := by decide +kernel
theorem dL_law_2876 : decode cL_law 2876 = .ok (.aload_n 2, 1) := by decide +kernel
theorem dL_law_2877 : decode cL_law 2877 = .ok (.invokevirtual 351, 3) := by decide +kernel
theorem dL_law_2880 : decode cL_law 2880 = .ok (.istore 6, 2) := by decide +kernel
theorem dL_law_2882 : decode cL_law 2882 = .ok (.aload_n 2, 1) := by decide +kernel
theorem dL_law_2883 : decode cL_law 2883 = .ok (.invokevirtual 148, 3) := by decide +kernel
theorem dL_law_2886 : decode cL_law 2886 = .ok (.iload 5, 2) := by decide +kernel
theorem dL_law_2888 : decode cL_law 2888 = .ok (.if_icmp .eq 5, 3) := by decide +kernel
theorem dL_law_2891 : decode cL_law 2891 = .ok (.iconst 0, 1) := by decide +kernel
theorem dL_law_2892 : decode cL_law 2892 = .ok (.ireturn, 1) := by decide +kernel
theorem dL_law_2893 : decode cL_law 2893 = .ok (.iload 5, 2) := by decide +kernel
theorem dL_law_2895 : decode cL_law 2895 = .ok (.ifCond .ne 15, 3) := by decide +kernel
theorem dL_law_2898 : decode cL_law 2898 = .ok (.aload_n 3, 1) := by decide +kernel
theorem dL_law_2899 : decode cL_law 2899 = .ok (.iconst 0, 1) := by decide +kernel
theorem dL_law_2900 : decode cL_law 2900 = .ok (.laload, 1) := by decide +kernel
theorem dL_law_2901 : decode cL_law 2901 = .ok (.iload 6, 2) := by decide +kernel
theorem dL_law_2903 : decode cL_law 2903 = .ok (.i2l, 1) := by decide +kernel
theorem dL_law_2904 : decode cL_law 2904 = .ok (.lcmp, 1) := by decide +kernel
theorem dL_law_2905 : decode cL_law 2905 = .ok (.ifCond .eq 5, 3) := by decide +kernel
theorem dL_law_2908 : decode cL_law 2908 = .ok (.iconst 0, 1) := by decide +kernel
theorem dL_law_2909 : decode cL_law 2909 = .ok (.ireturn, 1) := by decide +kernel
theorem dL_law_2910 : decode cL_law 2910 = .ok (.goto 98, 3) := by decide +kernel
theorem dL_law_2913 : decode cL_law 2913 = .ok (.aload_n 1, 1) := by decide +kernel
theorem dL_law_2914 : decode cL_law 2914 = .ok (.invokevirtual 352, 3) := by decide +kernel
theorem dL_law_2917 : decode cL_law 2917 = .ok (.aload_n 2, 1) := by decide +kernel
theorem dL_law_2918 : decode cL_law 2918 = .ok (.invokevirtual 355, 3) := by decide +kernel
theorem dL_law_2921 : decode cL_law 2921 = .ok (.if_icmp .eq 87, 3) := by decide +kernel
theorem dL_law_2924 : decode cL_law 2924 = .ok (.iconst 0, 1) := by decide +kernel
theorem dL_law_2925 : decode cL_law 2925 = .ok (.ireturn, 1) := by decide +kernel
theorem dL_law_2926 : decode cL_law 2926 = .ok (.aload_n 1, 1) := by decide +kernel
theorem dL_law_2927 : decode cL_law 2927 = .ok (.aload_n 3, 1) := by decide +kernel
theorem dL_law_2928 : decode cL_law 2928 = .ok (.invokestatic 356, 3) := by decide +kernel
theorem dL_law_2931 : decode cL_law 2931 = .ok (.istore 5, 2) := by decide +kernel
theorem dL_law_2933 : decode cL_law 2933 = .ok (.aload_n 2, 1) := by decide +kernel
theorem dL_law_2934 : decode cL_law 2934 = .ok (.invokevirtual 358, 3) := by decide +kernel
theorem dL_law_2937 : decode cL_law 2937 = .ok (.istore 6, 2) := by decide +kernel
theorem dL_law_2939 : decode cL_law 2939 = .ok (.aload_n 2, 1) := by decide +kernel
theorem dL_law_2940 : decode cL_law 2940 = .ok (.invokevirtual 148, 3) := by decide +kernel
theorem dL_law_2943 : decode cL_law 2943 = .ok (.iload 5, 2) := by decide +kernel
theorem dL_law_2945 : decode cL_law 2945 = .ok (.if_icmp .eq 5, 3) := by decide +kernel
theorem dL_law_2948 : decode cL_law 2948 = .ok (.iconst 0, 1) := by decide +kernel
theorem dL_law_2949 : decode cL_law 2949 = .ok (.ireturn, 1) := by decide +kernel
theorem dL_law_2950 : decode cL_law 2950 = .ok (.iload 5, 2) := by decide +kernel
theorem dL_law_2952 : decode cL_law 2952 = .ok (.ifCond .ne 15, 3) := by decide +kernel
theorem dL_law_2955 : decode cL_law 2955 = .ok (.aload_n 3, 1) := by decide +kernel
theorem dL_law_2956 : decode cL_law 2956 = .ok (.iconst 0, 1) := by decide +kernel
theorem dL_law_2957 : decode cL_law 2957 = .ok (.laload, 1) := by decide +kernel
theorem dL_law_2958 : decode cL_law 2958 = .ok (.iload 6, 2) := by decide +kernel
theorem dL_law_2960 : decode cL_law 2960 = .ok (.i2l, 1) := by decide +kernel
theorem dL_law_2961 : decode cL_law 2961 = .ok (.lcmp, 1) := by decide +kernel
theorem dL_law_2962 : decode cL_law 2962 = .ok (.ifCond .eq 5, 3) := by decide +kernel
theorem dL_law_2965 : decode cL_law 2965 = .ok (.iconst 0, 1) := by decide +kernel
theorem dL_law_2966 : decode cL_law 2966 = .ok (.ireturn, 1) := by decide +kernel
theorem dL_law_2967 : decode cL_law 2967 = .ok (.goto 41, 3) := by decide +kernel
theorem dL_law_2970 : decode cL_law 2970 = .ok (.aload_n 1, 1) := by decide +kernel
theorem dL_law_2971 : decode cL_law 2971 = .ok (.invokevirtual 359, 3) := by decide +kernel
theorem dL_law_2974 : decode cL_law 2974 = .ok (.aload_n 2, 1) := by decide +kernel
theorem dL_law_2975 : decode cL_law 2975 = .ok (.invokevirtual 362, 3) := by decide +kernel
theorem dL_law_2978 : decode cL_law 2978 = .ok (.if_icmp .eq 30, 3) := by decide +kernel
theorem dL_law_2981 : decode cL_law 2981 = .ok (.iconst 0, 1) := by decide +kernel
theorem dL_law_2982 : decode cL_law 2982 = .ok (.ireturn, 1) := by decide +kernel
theorem dL_law_2983 : decode cL_law 2983 = .ok (.aload_n 1, 1) := by decide +kernel
theorem dL_law_2984 : decode cL_law 2984 = .ok (.aload_n 0, 1) := by decide +kernel
theorem dL_law_2985 : decode cL_law 2985 = .ok (.iload 4, 2) := by decide +kernel
theorem dL_law_2987 : decode cL_law 2987 = .ok (.iconst 1, 1) := by decide +kernel
theorem dL_law_2988 : decode cL_law 2988 = .ok (.iadd, 1) := by decide +kernel
theorem dL_law_2989 : decode cL_law 2989 = .ok (.iaload, 1) := by decide +kernel
theorem dL_law_2990 : decode cL_law 2990 = .ok (.invokevirtual 363, 3) := by decide +kernel
theorem dL_law_2993 : decode cL_law 2993 = .ok (.aload_n 2, 1) := by decide +kernel
theorem dL_law_2994 : decode cL_law 2994 = .ok (.aload_n 0, 1) := by decide +kernel
theorem dL_law_2995 : decode cL_law 2995 = .ok (.iload 4, 2) := by decide +kernel
theorem dL_law_2997 : decode cL_law 2997 = .ok (.iconst 1, 1) := by decide +kernel
theorem dL_law_2998 : decode cL_law 2998 = .ok (.iadd, 1) := by decide +kernel
theorem dL_law_2999 : decode cL_law 2999 = .ok (.iaload, 1) := by decide +kernel
theorem dL_law_3000 : decode cL_law 3000 = .ok (.invokevirtual 366, 3) := by decide +kernel
theorem dL_law_3003 : decode cL_law 3003 = .ok (.if_icmp .eq 5, 3) := by decide +kernel
theorem dL_law_3006 : decode cL_law 3006 = .ok (.iconst 0, 1) := by decide +kernel
theorem dL_law_3007 : decode cL_law 3007 = .ok (.ireturn, 1) := by decide +kernel
theorem la42N {w : WP} (hW : gW w) (hM : gWM w) (hS : gS w) (hZ : gZ w) (hO : wFr w (14, 13, 0, 0)) {X : CX} (C : gC w X cL_law "HedgeMessagesLaw" (some .boolean) 15 9) {b L : Nat} {xs : Nat → Int32} (hX : gSc X b L xs) {S : Nat → Nat → HV} {τ : HV} {o : Nat → Int64} {i : Int32} {v : Int32} (hF : F_X10_twigsPlanted S = v) {τ' : HV} (hG : F_X11_twigsPlanted τ = some (v, τ')) {Q1 : State → Prop} {c n : Nat} (hq : qOk X (Q1, c, n)) (kk : gU w X (Q1, c, n) (cA w (S, τ', o)) 3008 [(4, .int i), (0, .ref b), (1, .ref (wAd w (7, 11, 6, 0))), (2, .ref (wAd w (11, 12, 0, 0))), (3, .ref (wAd w (14, 13, 0, 0)))] []) : gU w X (Q1, c, n) (cA w (S, τ, o)) 2211 [(4, .int i), (0, .ref b), (1, .ref (wAd w (7, 11, 6, 0))), (2, .ref (wAd w (11, 12, 0, 0))), (3, .ref (wAd w (14, 13, 0, 0)))] [] := by
  refine r_aload_n C (k := 2) rfl rfl dL_law_2211 ?_
  refine r_callV C (d' := 0) [] (c_X10_twigsPlanted hW (Ω := (S, τ, o)) rfl  hF) myX10_twigsPlanted wm3_62 ⟨_, _, _, _, (hW.ok k7), rfl, rfl, rfl, rfl⟩ rfl (kR rfl) (by decide) (kR rfl) rfl dL_law_2212 ?_
  refine r_aload_n C (k := 3) rfl rfl dL_law_2215 ?_
  refine r_callV C (d' := 0) [] (c_X11_twigsPlanted hM (Ω := (S, τ, o)) rfl  hG rfl) myX11_twigsPlanted wm9_80 ⟨_, _, _, _, (hM.ok k11), rfl, rfl, rfl, rfl⟩ rfl (kR rfl) (by decide) (kR rfl) rfl dL_law_2216 ?_
  refine r_icmp_eq C (tgt := 3008) rfl dL_law_2219 (fun _ => ?_) (fun h => absurd rfl h)
  exact kk
theorem la43N {w : WP} (hW : gW w) (hM : gWM w) (hS : gS w) (hZ : gZ w) (hO : wFr w (14, 13, 0, 0)) {X : CX} (C : gC w X cL_law "HedgeMessagesLaw" (some .boolean) 15 9) {b L : Nat} {xs : Nat → Int32} (hX : gSc X b L xs) {S : Nat → Nat → HV} {τ : HV} {o : Nat → Int64} {i : Int32} {v : Int32} (hF : F_X10_twigsPruned S = v) {τ' : HV} (hG : F_X11_twigsPruned τ = some (v, τ')) {Q1 : State → Prop} {c n : Nat} (hq : qOk X (Q1, c, n)) (kk : gU w X (Q1, c, n) (cA w (S, τ', o)) 3008 [(4, .int i), (0, .ref b), (1, .ref (wAd w (7, 11, 6, 0))), (2, .ref (wAd w (11, 12, 0, 0))), (3, .ref (wAd w (14, 13, 0, 0)))] []) : gU w X (Q1, c, n) (cA w (S, τ, o)) 2224 [(4, .int i), (0, .ref b), (1, .ref (wAd w (7, 11, 6, 0))), (2, .ref (wAd w (11, 12, 0, 0))), (3, .ref (wAd w (14, 13, 0, 0)))] [] := by
  refine r_aload_n C (k := 2) rfl rfl dL_law_2224 ?_
  refine r_callV C (d' := 0) [] (c_X10_twigsPruned hW (Ω := (S, τ, o)) rfl  hF) myX10_twigsPruned wm3_66 ⟨_, _, _, _, (hW.ok k7), rfl, rfl, rfl, rfl⟩ rfl (kR rfl) (by decide) (kR rfl) rfl dL_law_2225 ?_
  refine r_aload_n C (k := 3) rfl rfl dL_law_2228 ?_
  refine r_callV C (d' := 0) [] (c_X11_twigsPruned hM (Ω := (S, τ, o)) rfl  hG rfl) myX11_twigsPruned wm9_84 ⟨_, _, _, _, (hM.ok k11), rfl, rfl, rfl, rfl⟩ rfl (kR rfl) (by decide) (kR rfl) rfl dL_law_2229 ?_
  refine r_icmp_eq C (tgt := 3008) rfl dL_law_2232 (fun _ => ?_) (fun h => absurd rfl h)
  exact kk
theorem la44N {w : WP} (hW : gW w) (hM : gWM w) (hS : gS w) (hZ : gZ w) (hO : wFr w (14, 13, 0, 0)) {X : CX} (C : gC w X cL_law "HedgeMessagesLaw" (some .boolean) 15 9) {b L : Nat} {xs : Nat → Int32} (hX : gSc X b L xs) {S : Nat → Nat → HV} {τ : HV} {o : Nat → Int64} {i : Int32} {v : Int32} (hF : F_X10_twigsRemoved S = v) {τ' : HV} (hG : F_X11_twigsRemoved τ = some (v, τ')) {Q1 : State → Prop} {c n : Nat} (hq : qOk X (Q1, c, n)) (kk : gU w X (Q1, c, n) (cA w (S, τ', o)) 3008 [(4, .int i), (0, .ref b), (1, .ref (wAd w (7, 11, 6, 0))), (2, .ref (wAd w (11, 12, 0, 0))), (3, .ref (wAd w (14, 13, 0, 0)))] []) : gU w X (Q1, c, n) (cA w (S, τ, o)) 2237 [(4, .int i), (0, .ref b), (1, .ref (wAd w (7, 11, 6, 0))), (2, .ref (wAd w (11, 12, 0, 0))), (3, .ref (wAd w (14, 13, 0, 0)))] [] := by
  refine r_aload_n C (k := 2) rfl rfl dL_law_2237 ?_
  refine r_callV C (d' := 0) [] (c_X10_twigsRemoved hW (Ω := (S, τ, o)) rfl  hF) myX10_twigsRemoved wm3_70 ⟨_, _, _, _, (hW.ok k7), rfl, rfl, rfl, rfl⟩ rfl (kR rfl) (by decide) (kR rfl) rfl dL_law_2238 ?_
  refine r_aload_n C (k := 3) rfl rfl dL_law_2241 ?_
  refine r_callV C (d' := 0) [] (c_X11_twigsRemoved hM (Ω := (S, τ, o)) rfl  hG rfl) myX11_twigsRemoved wm9_88 ⟨_, _, _, _, (hM.ok k11), rfl, rfl, rfl, rfl⟩ rfl (kR rfl) (by decide) (kR rfl) rfl dL_law_2242 ?_
  refine r_icmp_eq C (tgt := 3008) rfl dL_law_2245 (fun _ => ?_) (fun h => absurd rfl h)
  exact kk
theorem la45N {w : WP} (hW : gW w) (hM : gWM w) (hS : gS w) (hZ : gZ w) (hO : wFr w (14, 13, 0, 0)) {X : CX} (C : gC w X cL_law "HedgeMessagesLaw" (some .boolean) 15 9) {b L : Nat} {xs : Nat → Int32} (hX : gSc X b L xs) {S : Nat → Nat → HV} {τ : HV} {o : Nat → Int64} {i : Int32} (N : Nat) {v : Int32} (hF : F_X10_twigImbalance N S = some v) {τ' : HV} (hG : F_X11_twigImbalance N τ = some (v, τ')) {Q1 : State → Prop} {c n : Nat} (hq : qOk X (Q1, c, n)) (kk : gU w X (Q1, c, n) (cA w (S, τ', o)) 3008 [(4, .int i), (0, .ref b), (1, .ref (wAd w (7, 11, 6, 0))), (2, .ref (wAd w (11, 12, 0, 0))), (3, .ref (wAd w (14, 13, 0, 0)))] []) : gU w X (Q1, c, n) (cA w (S, τ, o)) 2250 [(4, .int i), (0, .ref b), (1, .ref (wAd w (7, 11, 6, 0))), (2, .ref (wAd w (11, 12, 0, 0))), (3, .ref (wAd w (14, 13, 0, 0)))] [] := by
  refine r_aload_n C (k := 2) rfl rfl dL_law_2250 ?_
  refine r_callV C (d' := 2) [] (c_X10_twigImbalance hW (Ω := (S, τ, o)) rfl N  hF) myX10_twigImbalance wm3_74 ⟨_, _, _, _, (hW.ok k7), rfl, rfl, rfl, rfl⟩ rfl (kR rfl) (by decide) (kR rfl) rfl dL_law_2251 ?_
  refine r_aload_n C (k := 3) rfl rfl dL_law_2254 ?_
  refine r_callV C (d' := 3) [] (c_X11_twigImbalance hM (Ω := (S, τ, o)) rfl N  hG rfl) myX11_twigImbalance wm9_92 ⟨_, _, _, _, (hM.ok k11), rfl, rfl, rfl, rfl⟩ rfl (kR rfl) (by decide) (kR rfl) rfl dL_law_2255 ?_
  refine r_icmp_eq C (tgt := 3008) rfl dL_law_2258 (fun _ => ?_) (fun h => absurd rfl h)
  exact kk
theorem la46N {w : WP} (hW : gW w) (hM : gWM w) (hS : gS w) (hZ : gZ w) (hO : wFr w (14, 13, 0, 0)) {X : CX} (C : gC w X cL_law "HedgeMessagesLaw" (some .boolean) 15 9) {b L : Nat} {xs : Nat → Int32} (hX : gSc X b L xs) {S : Nat → Nat → HV} {τ : HV} {o : Nat → Int64} {i : Int32} (N : Nat) {v : Int32} (hF : F_X10_messageImbalance S = v) {τ' : HV} (hG : F_X11_messageImbalance N τ = some (v, τ')) {Q1 : State → Prop} {c n : Nat} (hq : qOk X (Q1, c, n)) (kk : gU w X (Q1, c, n) (cA w (S, τ', o)) 3008 [(4, .int i), (0, .ref b), (1, .ref (wAd w (7, 11, 6, 0))), (2, .ref (wAd w (11, 12, 0, 0))), (3, .ref (wAd w (14, 13, 0, 0)))] []) : gU w X (Q1, c, n) (cA w (S, τ, o)) 2263 [(4, .int i), (0, .ref b), (1, .ref (wAd w (7, 11, 6, 0))), (2, .ref (wAd w (11, 12, 0, 0))), (3, .ref (wAd w (14, 13, 0, 0)))] [] := by
  refine r_aload_n C (k := 2) rfl rfl dL_law_2263 ?_
  refine r_callV C (d' := 2) [] (c_X10_messageImbalance hW (Ω := (S, τ, o)) rfl  hF) myX10_messageImbalance wm3_78 ⟨_, _, _, _, (hW.ok k7), rfl, rfl, rfl, rfl⟩ rfl (kR rfl) (by decide) (kR rfl) rfl dL_law_2264 ?_
  refine r_aload_n C (k := 3) rfl rfl dL_law_2267 ?_
  refine r_callV C (d' := 2) [] (c_X11_messageImbalance hM (Ω := (S, τ, o)) rfl N  hG rfl) myX11_messageImbalance wm9_96 ⟨_, _, _, _, (hM.ok k11), rfl, rfl, rfl, rfl⟩ rfl (kR rfl) (by decide) (kR rfl) rfl dL_law_2268 ?_
  refine r_icmp_eq C (tgt := 3008) rfl dL_law_2271 (fun _ => ?_) (fun h => absurd rfl h)
  exact kk
theorem la47N {w : WP} (hW : gW w) (hM : gWM w) (hS : gS w) (hZ : gZ w) (hO : wFr w (14, 13, 0, 0)) {X : CX} (C : gC w X cL_law "HedgeMessagesLaw" (some .boolean) 15 9) {b L : Nat} {xs : Nat → Int32} (hX : gSc X b L xs) {S : Nat → Nat → HV} {τ : HV} {o : Nat → Int64} {i : Int32} (N : Nat) {v : Int32} (hF : F_X10_wrongLetters N S = some v) {τ' : HV} (hG : F_X11_wrongLetters N τ = some (v, τ')) {Q1 : State → Prop} {c n : Nat} (hq : qOk X (Q1, c, n)) (kk : gU w X (Q1, c, n) (cA w (S, τ', o)) 3008 [(4, .int i), (0, .ref b), (1, .ref (wAd w (7, 11, 6, 0))), (2, .ref (wAd w (11, 12, 0, 0))), (3, .ref (wAd w (14, 13, 0, 0)))] []) : gU w X (Q1, c, n) (cA w (S, τ, o)) 2276 [(4, .int i), (0, .ref b), (1, .ref (wAd w (7, 11, 6, 0))), (2, .ref (wAd w (11, 12, 0, 0))), (3, .ref (wAd w (14, 13, 0, 0)))] [] := by
  refine r_aload_n C (k := 2) rfl rfl dL_law_2276 ?_
  refine r_callV C (d' := 4) [] (c_X10_wrongLetters hW (Ω := (S, τ, o)) rfl N  hF) myX10_wrongLetters wm3_90 ⟨_, _, _, _, (hW.ok k7), rfl, rfl, rfl, rfl⟩ rfl (kR rfl) (by decide) (kR rfl) rfl dL_law_2277 ?_
  refine r_aload_n C (k := 3) rfl rfl dL_law_2280 ?_
  refine r_callV C (d' := 2) [] (c_X11_wrongLetters hM (Ω := (S, τ, o)) rfl N  hG rfl) myX11_wrongLetters wm9_100 ⟨_, _, _, _, (hM.ok k11), rfl, rfl, rfl, rfl⟩ rfl (kR rfl) (by decide) (kR rfl) rfl dL_law_2281 ?_
  refine r_icmp_eq C (tgt := 3008) rfl dL_law_2284 (fun _ => ?_) (fun h => absurd rfl h)
  exact kk
theorem la48N {w : WP} (hW : gW w) (hM : gWM w) (hS : gS w) (hZ : gZ w) (hO : wFr w (14, 13, 0, 0)) {X : CX} (C : gC w X cL_law "HedgeMessagesLaw" (some .boolean) 15 9) {b L : Nat} {xs : Nat → Int32} (hX : gSc X b L xs) {S : Nat → Nat → HV} {τ : HV} {o : Nat → Int64} {i : Int32} (N : Nat) {v : UInt32} (hF : F_X10_meanLength N S = some v) (hn : n64 (FP.f2d v) = true) {τ' : HV} (hG : F_X11_meanLength N τ = some (v, τ')) (hc9 : Op.cmpValue (FP.dcmp (FP.f2d v) (FP.f2d v)) .l = 0) {Q1 : State → Prop} {c n : Nat} (hq : qOk X (Q1, c, n)) (kk : gU w X (Q1, c, n) (cA w (S, τ', o)) 3008 [(4, .int i), (0, .ref b), (1, .ref (wAd w (7, 11, 6, 0))), (2, .ref (wAd w (11, 12, 0, 0))), (3, .ref (wAd w (14, 13, 0, 0)))] []) : gU w X (Q1, c, n) (cA w (S, τ, o)) 2289 [(4, .int i), (0, .ref b), (1, .ref (wAd w (7, 11, 6, 0))), (2, .ref (wAd w (11, 12, 0, 0))), (3, .ref (wAd w (14, 13, 0, 0)))] [] := by
  refine r_aload_n C (k := 2) rfl rfl dL_law_2289 ?_
  refine r_callV C (d' := 2) [] (c_X10_meanLength hW (Ω := (S, τ, o)) rfl N  hF) myX10_meanLength wm3_102 ⟨_, _, _, _, (hW.ok k7), rfl, rfl, rfl, rfl⟩ rfl (kR rfl) (by decide) (kR rfl) rfl dL_law_2290 ?_
  refine r_f2d C hn dL_law_2293 ?_
  refine r_dstore C (lo' := [(5, .double (FP.f2d v)), (4, .int i), (0, .ref b), (1, .ref (wAd w (7, 11, 6, 0))), (2, .ref (wAd w (11, 12, 0, 0))), (3, .ref (wAd w (14, 13, 0, 0)))]) (by decide) rfl dL_law_2294 ?_
  refine r_aload_n C (k := 4) rfl rfl dL_law_2296 ?_
  refine r_callV C (d' := 3) [] (c_X11_meanLength hM (Ω := (S, τ, o)) rfl N  hG rfl) myX11_meanLength wm9_108 ⟨_, _, _, _, (hM.ok k11), rfl, rfl, rfl, rfl⟩ rfl (kR rfl) (by decide) (kR rfl) rfl dL_law_2297 ?_
  refine r_f2d C hn dL_law_2300 ?_
  refine r_dstore C (lo' := [(7, .double (FP.f2d v)), (5, .double (FP.f2d v)), (4, .int i), (0, .ref b), (1, .ref (wAd w (7, 11, 6, 0))), (2, .ref (wAd w (11, 12, 0, 0))), (3, .ref (wAd w (14, 13, 0, 0)))]) (by decide) rfl dL_law_2301 ?_
  refine r_dload C (k := 1) rfl dL_law_2303 ?_
  refine r_dload C (k := 0) rfl dL_law_2305 ?_
  refine r_dcmp C hc9 dL_law_2307 ?_
  refine r_if_eq C (tgt := 2329) rfl dL_law_2308 (fun _ => ?_) (fun h => absurd rfl h)
  refine r_goto C (tgt := 3008) rfl dL_law_2329 ?_
  refine r_lo [2, 3, 4, 5, 6] (lo' := [(4, .int i), (0, .ref b), (1, .ref (wAd w (7, 11, 6, 0))), (2, .ref (wAd w (11, 12, 0, 0))), (3, .ref (wAd w (14, 13, 0, 0)))]) rfl ?_
  exact kk
theorem la49N {w : WP} (hW : gW w) (hM : gWM w) (hS : gS w) (hZ : gZ w) (hO : wFr w (14, 13, 0, 0)) {X : CX} (C : gC w X cL_law "HedgeMessagesLaw" (some .boolean) 15 9) {b L : Nat} {xs : Nat → Int32} (hX : gSc X b L xs) {S : Nat → Nat → HV} {τ : HV} {o : Nat → Int64} {i : Int32} (N : Nat) {v : UInt64} (hF : F_X10_occupancy N S = some v) {τ' : HV} (hG : F_X11_occupancy N τ = some (v, τ')) (hc9 : Op.cmpValue (FP.dcmp v v) .l = 0) {Q1 : State → Prop} {c n : Nat} (hq : qOk X (Q1, c, n)) (kk : gU w X (Q1, c, n) (cA w (S, τ', o)) 3008 [(4, .int i), (0, .ref b), (1, .ref (wAd w (7, 11, 6, 0))), (2, .ref (wAd w (11, 12, 0, 0))), (3, .ref (wAd w (14, 13, 0, 0)))] []) : gU w X (Q1, c, n) (cA w (S, τ, o)) 2332 [(4, .int i), (0, .ref b), (1, .ref (wAd w (7, 11, 6, 0))), (2, .ref (wAd w (11, 12, 0, 0))), (3, .ref (wAd w (14, 13, 0, 0)))] [] := by
  refine r_aload_n C (k := 2) rfl rfl dL_law_2332 ?_
  refine r_callV C (d' := 2) [] (c_X10_occupancy hW (Ω := (S, τ, o)) rfl N  hF) myX10_occupancy wm3_110 ⟨_, _, _, _, (hW.ok k7), rfl, rfl, rfl, rfl⟩ rfl (kR rfl) (by decide) (kR rfl) rfl dL_law_2333 ?_
  refine r_dstore C (lo' := [(5, .double v), (4, .int i), (0, .ref b), (1, .ref (wAd w (7, 11, 6, 0))), (2, .ref (wAd w (11, 12, 0, 0))), (3, .ref (wAd w (14, 13, 0, 0)))]) (by decide) rfl dL_law_2336 ?_
  refine r_aload_n C (k := 4) rfl rfl dL_law_2338 ?_
  refine r_callV C (d' := 3) [] (c_X11_occupancy hM (Ω := (S, τ, o)) rfl N  hG rfl) myX11_occupancy wm9_112 ⟨_, _, _, _, (hM.ok k11), rfl, rfl, rfl, rfl⟩ rfl (kR rfl) (by decide) (kR rfl) rfl dL_law_2339 ?_
  refine r_dstore C (lo' := [(7, .double v), (5, .double v), (4, .int i), (0, .ref b), (1, .ref (wAd w (7, 11, 6, 0))), (2, .ref (wAd w (11, 12, 0, 0))), (3, .ref (wAd w (14, 13, 0, 0)))]) (by decide) rfl dL_law_2342 ?_
  refine r_dload C (k := 1) rfl dL_law_2344 ?_
  refine r_dload C (k := 0) rfl dL_law_2346 ?_
  refine r_dcmp C hc9 dL_law_2348 ?_
  refine r_if_eq C (tgt := 2370) rfl dL_law_2349 (fun _ => ?_) (fun h => absurd rfl h)
  refine r_goto C (tgt := 3008) rfl dL_law_2370 ?_
  refine r_lo [2, 3, 4, 5, 6] (lo' := [(4, .int i), (0, .ref b), (1, .ref (wAd w (7, 11, 6, 0))), (2, .ref (wAd w (11, 12, 0, 0))), (3, .ref (wAd w (14, 13, 0, 0)))]) rfl ?_
  exact kk
theorem la50N {w : WP} (hW : gW w) (hM : gWM w) (hS : gS w) (hZ : gZ w) (hO : wFr w (14, 13, 0, 0)) {X : CX} (C : gC w X cL_law "HedgeMessagesLaw" (some .boolean) 15 9) {b L : Nat} {xs : Nat → Int32} (hX : gSc X b L xs) {S : Nat → Nat → HV} {τ : HV} {o : Nat → Int64} {i : Int32} {p1 : Int32} (h1 : vp_in (i + 1) L ∧ xs (i + 1).toNatClampNeg = p1) {p2 : Int32} (h2 : vp_in (i + 2) L ∧ xs (i + 2).toNatClampNeg = p2) (N : Nat) {v : Int32} {S' : Nat → Nat → HV} (hF : F_X10_plant N p1 p2 S = some (.inl (v, S'))) {τ' : HV} (hG : F_X11_plant N p1 p2 τ = some (v, τ')) (ht : F_X11_thrown τ' = 0) {Q1 : State → Prop} {c n : Nat} (hq : qOk X (Q1, c, n)) (kk : gU w X (Q1, c, n) (cA w (S', τ', (vp_updL o 0 v.toInt64))) 3008 [(4, .int i), (0, .ref b), (1, .ref (wAd w (7, 11, 6, 0))), (2, .ref (wAd w (11, 12, 0, 0))), (3, .ref (wAd w (14, 13, 0, 0)))] []) : gU w X (Q1, c, n) (cA w (S, τ, o)) 2373 [(4, .int i), (0, .ref b), (1, .ref (wAd w (7, 11, 6, 0))), (2, .ref (wAd w (11, 12, 0, 0))), (3, .ref (wAd w (14, 13, 0, 0)))] [] := by
  refine r_aload_n C (k := 2) rfl rfl dL_law_2373 ?_
  refine r_aload_n C (k := 1) rfl rfl dL_law_2374 ?_
  refine r_iload C (k := 0) rfl dL_law_2375 ?_
  refine r_iconst C (v := 1) rfl dL_law_2377 ?_
  refine r_iadd C dL_law_2378 ?_
  refine r_sld C hX h1.1 h1.2 dL_law_2379 ?_
  refine r_aload_n C (k := 1) rfl rfl dL_law_2380 ?_
  refine r_iload C (k := 0) rfl dL_law_2381 ?_
  refine r_iconst C (v := 2) rfl dL_law_2383 ?_
  refine r_iadd C dL_law_2384 ?_
  refine r_sld C hX h2.1 h2.2 dL_law_2385 ?_
  refine r_aload_n C (k := 4) rfl rfl dL_law_2386 ?_
  refine r_callH C (ny := 4) (d' := 8) (mc := 0) (ms := 0) [.ref (wAd w (7, 11, 6, 0)), .int p1, .int p2, .ref (wAd w (14, 13, 0, 0))] (kL_plant hW hS hO (Ω := (S, τ, o)) rfl N p1 p2 hF) cwL_plant rfl wm1_0 wm6_78 ⟨by decide, by decide, by decide +kernel⟩ wm6_77 rfl (kR rfl) (by decide) (kR rfl) rfl dL_law_2387 hq ?_
  refine r_istore C (lo' := [(5, .int 0), (4, .int i), (0, .ref b), (1, .ref (wAd w (7, 11, 6, 0))), (2, .ref (wAd w (11, 12, 0, 0))), (3, .ref (wAd w (14, 13, 0, 0)))]) (by decide) rfl dL_law_2390 ?_
  refine r_aload_n C (k := 4) rfl rfl dL_law_2392 ?_
  refine r_aload_n C (k := 2) rfl rfl dL_law_2393 ?_
  refine r_iload C (k := 1) rfl dL_law_2394 ?_
  refine r_iconst C (v := 1) rfl dL_law_2396 ?_
  refine r_iadd C dL_law_2397 ?_
  refine r_sld C hX h1.1 h1.2 dL_law_2398 ?_
  refine r_aload_n C (k := 2) rfl rfl dL_law_2399 ?_
  refine r_iload C (k := 1) rfl dL_law_2400 ?_
  refine r_iconst C (v := 2) rfl dL_law_2402 ?_
  refine r_iadd C dL_law_2403 ?_
  refine r_sld C hX h2.1 h2.2 dL_law_2404 ?_
  refine r_callV C (d' := 5) [.int p1, .int p2] (c_X11_plant hM (Ω := (S', τ, (vp_updL o 0 v.toInt64))) rfl N p1 p2 hG rfl) myX11_plant wm9_116 ⟨_, _, _, _, (hM.ok k11), rfl, rfl, rfl, rfl⟩ rfl (kR rfl) (by decide) (kR rfl) rfl dL_law_2405 ?_
  refine r_istore C (lo' := [(6, .int v), (5, .int 0), (4, .int i), (0, .ref b), (1, .ref (wAd w (7, 11, 6, 0))), (2, .ref (wAd w (11, 12, 0, 0))), (3, .ref (wAd w (14, 13, 0, 0)))]) (by decide) rfl dL_law_2408 ?_
  refine r_aload_n C (k := 5) rfl rfl dL_law_2410 ?_
  refine r_callV C (d' := 0) [] (c_X11_thrown hM (Ω := (S', τ', (vp_updL o 0 v.toInt64))) rfl ht) myX11_thrown wm7_137 ⟨_, _, _, _, (hM.ok k11), rfl, rfl, rfl, rfl⟩ rfl (kR rfl) (by decide) (kR rfl) rfl dL_law_2411 ?_
  refine r_iload C (k := 1) rfl dL_law_2414 ?_
  refine r_icmp_eq C (tgt := 2421) rfl dL_law_2416 (fun _ => ?_) (fun h => absurd rfl h)
  refine r_iload C (k := 1) rfl dL_law_2421 ?_
  refine r_if_ne C (tgt := 2438) rfl dL_law_2423 (fun h => absurd rfl h) (fun _ => ?_)
  refine r_aload_n C (k := 6) rfl rfl dL_law_2426 ?_
  refine r_iconst C (v := 0) rfl dL_law_2427 ?_
  refine r_lald C (o := (vp_updL o 0 v.toInt64)) (hM.1 |> fun _ => hW.2.2.2.1 _ hO) rfl dL_law_2428 ?_
  refine r_iload C (k := 0) rfl dL_law_2429 ?_
  refine r_i2l C (v := v.toInt64) rfl dL_law_2431 ?_
  refine r_lcmp C dL_law_2432 ?_
  refine r_if_eq C (tgt := 2438) rfl dL_law_2433 (fun _ => ?_) (fun h => absurd (lgself _) h)
  refine r_goto C (tgt := 3008) rfl dL_law_2438 ?_
  refine r_lo [2, 3, 4, 5, 6] (lo' := [(4, .int i), (0, .ref b), (1, .ref (wAd w (7, 11, 6, 0))), (2, .ref (wAd w (11, 12, 0, 0))), (3, .ref (wAd w (14, 13, 0, 0)))]) rfl ?_
  exact kk
theorem la50X3 {w : WP} (hW : gW w) (hM : gWM w) (hS : gS w) (hZ : gZ w) (hO : wFr w (14, 13, 0, 0)) {X : CX} (C : gC w X cL_law "HedgeMessagesLaw" (some .boolean) 15 9) {b L : Nat} {xs : Nat → Int32} (hX : gSc X b L xs) {S : Nat → Nat → HV} {τ : HV} {o : Nat → Int64} {i : Int32} {p1 : Int32} (h1 : vp_in (i + 1) L ∧ xs (i + 1).toNatClampNeg = p1) {p2 : Int32} (h2 : vp_in (i + 2) L ∧ xs (i + 2).toNatClampNeg = p2) (N : Nat) {S' : Nat → Nat → HV} (hF : F_X10_plant N p1 p2 S = some (.inr (3, S'))) {b9 : Int32} {τ' : HV} (hG : F_X11_plant N p1 p2 τ = some (b9, τ')) (ht : F_X11_thrown τ' = 1) {Q1 : State → Prop} {c n : Nat} (hq1 : qOk X (Q1, c + 1, n + 6)) (kk : gU w X (Q1, c + 1, n + 6) (cA w (S', τ', o)) 3008 [(4, .int i), (0, .ref b), (1, .ref (wAd w (7, 11, 6, 0))), (2, .ref (wAd w (11, 12, 0, 0))), (3, .ref (wAd w (14, 13, 0, 0)))] []) : gU w X (Q1, c, n) (cA w (S, τ, o)) 2373 [(4, .int i), (0, .ref b), (1, .ref (wAd w (7, 11, 6, 0))), (2, .ref (wAd w (11, 12, 0, 0))), (3, .ref (wAd w (14, 13, 0, 0)))] [] := by
  have hq : qOk X (Q1, c + 1, n + 6) := hq1
  refine r_aload_n C (k := 2) rfl rfl dL_law_2373 ?_
  refine r_aload_n C (k := 1) rfl rfl dL_law_2374 ?_
  refine r_iload C (k := 0) rfl dL_law_2375 ?_
  refine r_iconst C (v := 1) rfl dL_law_2377 ?_
  refine r_iadd C dL_law_2378 ?_
  refine r_sld C hX h1.1 h1.2 dL_law_2379 ?_
  refine r_aload_n C (k := 1) rfl rfl dL_law_2380 ?_
  refine r_iload C (k := 0) rfl dL_law_2381 ?_
  refine r_iconst C (v := 2) rfl dL_law_2383 ?_
  refine r_iadd C dL_law_2384 ?_
  refine r_sld C hX h2.1 h2.2 dL_law_2385 ?_
  refine r_aload_n C (k := 4) rfl rfl dL_law_2386 ?_
  refine r_callH C (ny := 4) (d' := 8) (mc := 1) (ms := 6) [.ref (wAd w (7, 11, 6, 0)), .int p1, .int p2, .ref (wAd w (14, 13, 0, 0))] (xL_plant_3 hW hS hZ (Ω := (S, τ, o)) rfl N p1 p2 hF) cwL_plant rfl wm1_0 wm6_78 ⟨by decide, by decide, by decide +kernel⟩ wm6_77 rfl (kR rfl) (by decide) (kR rfl) rfl dL_law_2387 hq1 ?_
  refine r_istore C (lo' := [(5, .int 1), (4, .int i), (0, .ref b), (1, .ref (wAd w (7, 11, 6, 0))), (2, .ref (wAd w (11, 12, 0, 0))), (3, .ref (wAd w (14, 13, 0, 0)))]) (by decide) rfl dL_law_2390 ?_
  refine r_aload_n C (k := 4) rfl rfl dL_law_2392 ?_
  refine r_aload_n C (k := 2) rfl rfl dL_law_2393 ?_
  refine r_iload C (k := 1) rfl dL_law_2394 ?_
  refine r_iconst C (v := 1) rfl dL_law_2396 ?_
  refine r_iadd C dL_law_2397 ?_
  refine r_sld C hX h1.1 h1.2 dL_law_2398 ?_
  refine r_aload_n C (k := 2) rfl rfl dL_law_2399 ?_
  refine r_iload C (k := 1) rfl dL_law_2400 ?_
  refine r_iconst C (v := 2) rfl dL_law_2402 ?_
  refine r_iadd C dL_law_2403 ?_
  refine r_sld C hX h2.1 h2.2 dL_law_2404 ?_
  refine r_callV C (d' := 5) [.int p1, .int p2] (c_X11_plant hM (Ω := (S', τ, o)) rfl N p1 p2 hG rfl) myX11_plant wm9_116 ⟨_, _, _, _, (hM.ok k11), rfl, rfl, rfl, rfl⟩ rfl (kR rfl) (by decide) (kR rfl) rfl dL_law_2405 ?_
  refine r_istore C (lo' := [(6, .int b9), (5, .int 1), (4, .int i), (0, .ref b), (1, .ref (wAd w (7, 11, 6, 0))), (2, .ref (wAd w (11, 12, 0, 0))), (3, .ref (wAd w (14, 13, 0, 0)))]) (by decide) rfl dL_law_2408 ?_
  refine r_aload_n C (k := 5) rfl rfl dL_law_2410 ?_
  refine r_callV C (d' := 0) [] (c_X11_thrown hM (Ω := (S', τ', o)) rfl ht) myX11_thrown wm7_137 ⟨_, _, _, _, (hM.ok k11), rfl, rfl, rfl, rfl⟩ rfl (kR rfl) (by decide) (kR rfl) rfl dL_law_2411 ?_
  refine r_iload C (k := 1) rfl dL_law_2414 ?_
  refine r_icmp_eq C (tgt := 2421) rfl dL_law_2416 (fun _ => ?_) (fun h => absurd rfl h)
  refine r_iload C (k := 1) rfl dL_law_2421 ?_
  refine r_if_ne C (tgt := 2438) rfl dL_law_2423 (fun _ => ?_) (fun h => absurd h (by decide))
  refine r_goto C (tgt := 3008) rfl dL_law_2438 ?_
  refine r_lo [2, 3, 4, 5, 6] (lo' := [(4, .int i), (0, .ref b), (1, .ref (wAd w (7, 11, 6, 0))), (2, .ref (wAd w (11, 12, 0, 0))), (3, .ref (wAd w (14, 13, 0, 0)))]) rfl ?_
  exact kk
theorem la50X2 {w : WP} (hW : gW w) (hM : gWM w) (hS : gS w) (hZ : gZ w) (hO : wFr w (14, 13, 0, 0)) {X : CX} (C : gC w X cL_law "HedgeMessagesLaw" (some .boolean) 15 9) {b L : Nat} {xs : Nat → Int32} (hX : gSc X b L xs) {S : Nat → Nat → HV} {τ : HV} {o : Nat → Int64} {i : Int32} {p1 : Int32} (h1 : vp_in (i + 1) L ∧ xs (i + 1).toNatClampNeg = p1) {p2 : Int32} (h2 : vp_in (i + 2) L ∧ xs (i + 2).toNatClampNeg = p2) (N : Nat) {S' : Nat → Nat → HV} (hF : F_X10_plant N p1 p2 S = some (.inr (2, S'))) {b9 : Int32} {τ' : HV} (hG : F_X11_plant N p1 p2 τ = some (b9, τ')) (ht : F_X11_thrown τ' = 2) {Q1 : State → Prop} {c n : Nat} (hq1 : qOk X (Q1, c + 1, n + 6)) (kk : gU w X (Q1, c + 1, n + 6) (cA w (S', τ', o)) 3008 [(4, .int i), (0, .ref b), (1, .ref (wAd w (7, 11, 6, 0))), (2, .ref (wAd w (11, 12, 0, 0))), (3, .ref (wAd w (14, 13, 0, 0)))] []) : gU w X (Q1, c, n) (cA w (S, τ, o)) 2373 [(4, .int i), (0, .ref b), (1, .ref (wAd w (7, 11, 6, 0))), (2, .ref (wAd w (11, 12, 0, 0))), (3, .ref (wAd w (14, 13, 0, 0)))] [] := by
  have hq : qOk X (Q1, c + 1, n + 6) := hq1
  refine r_aload_n C (k := 2) rfl rfl dL_law_2373 ?_
  refine r_aload_n C (k := 1) rfl rfl dL_law_2374 ?_
  refine r_iload C (k := 0) rfl dL_law_2375 ?_
  refine r_iconst C (v := 1) rfl dL_law_2377 ?_
  refine r_iadd C dL_law_2378 ?_
  refine r_sld C hX h1.1 h1.2 dL_law_2379 ?_
  refine r_aload_n C (k := 1) rfl rfl dL_law_2380 ?_
  refine r_iload C (k := 0) rfl dL_law_2381 ?_
  refine r_iconst C (v := 2) rfl dL_law_2383 ?_
  refine r_iadd C dL_law_2384 ?_
  refine r_sld C hX h2.1 h2.2 dL_law_2385 ?_
  refine r_aload_n C (k := 4) rfl rfl dL_law_2386 ?_
  refine r_callH C (ny := 4) (d' := 8) (mc := 1) (ms := 6) [.ref (wAd w (7, 11, 6, 0)), .int p1, .int p2, .ref (wAd w (14, 13, 0, 0))] (xL_plant_2 hW hS hZ (Ω := (S, τ, o)) rfl N p1 p2 hF) cwL_plant rfl wm1_0 wm6_78 ⟨by decide, by decide, by decide +kernel⟩ wm6_77 rfl (kR rfl) (by decide) (kR rfl) rfl dL_law_2387 hq1 ?_
  refine r_istore C (lo' := [(5, .int 2), (4, .int i), (0, .ref b), (1, .ref (wAd w (7, 11, 6, 0))), (2, .ref (wAd w (11, 12, 0, 0))), (3, .ref (wAd w (14, 13, 0, 0)))]) (by decide) rfl dL_law_2390 ?_
  refine r_aload_n C (k := 4) rfl rfl dL_law_2392 ?_
  refine r_aload_n C (k := 2) rfl rfl dL_law_2393 ?_
  refine r_iload C (k := 1) rfl dL_law_2394 ?_
  refine r_iconst C (v := 1) rfl dL_law_2396 ?_
  refine r_iadd C dL_law_2397 ?_
  refine r_sld C hX h1.1 h1.2 dL_law_2398 ?_
  refine r_aload_n C (k := 2) rfl rfl dL_law_2399 ?_
  refine r_iload C (k := 1) rfl dL_law_2400 ?_
  refine r_iconst C (v := 2) rfl dL_law_2402 ?_
  refine r_iadd C dL_law_2403 ?_
  refine r_sld C hX h2.1 h2.2 dL_law_2404 ?_
  refine r_callV C (d' := 5) [.int p1, .int p2] (c_X11_plant hM (Ω := (S', τ, o)) rfl N p1 p2 hG rfl) myX11_plant wm9_116 ⟨_, _, _, _, (hM.ok k11), rfl, rfl, rfl, rfl⟩ rfl (kR rfl) (by decide) (kR rfl) rfl dL_law_2405 ?_
  refine r_istore C (lo' := [(6, .int b9), (5, .int 2), (4, .int i), (0, .ref b), (1, .ref (wAd w (7, 11, 6, 0))), (2, .ref (wAd w (11, 12, 0, 0))), (3, .ref (wAd w (14, 13, 0, 0)))]) (by decide) rfl dL_law_2408 ?_
  refine r_aload_n C (k := 5) rfl rfl dL_law_2410 ?_
  refine r_callV C (d' := 0) [] (c_X11_thrown hM (Ω := (S', τ', o)) rfl ht) myX11_thrown wm7_137 ⟨_, _, _, _, (hM.ok k11), rfl, rfl, rfl, rfl⟩ rfl (kR rfl) (by decide) (kR rfl) rfl dL_law_2411 ?_
  refine r_iload C (k := 1) rfl dL_law_2414 ?_
  refine r_icmp_eq C (tgt := 2421) rfl dL_law_2416 (fun _ => ?_) (fun h => absurd rfl h)
  refine r_iload C (k := 1) rfl dL_law_2421 ?_
  refine r_if_ne C (tgt := 2438) rfl dL_law_2423 (fun _ => ?_) (fun h => absurd h (by decide))
  refine r_goto C (tgt := 3008) rfl dL_law_2438 ?_
  refine r_lo [2, 3, 4, 5, 6] (lo' := [(4, .int i), (0, .ref b), (1, .ref (wAd w (7, 11, 6, 0))), (2, .ref (wAd w (11, 12, 0, 0))), (3, .ref (wAd w (14, 13, 0, 0)))]) rfl ?_
  exact kk
theorem la50X1 {w : WP} (hW : gW w) (hM : gWM w) (hS : gS w) (hZ : gZ w) (hO : wFr w (14, 13, 0, 0)) {X : CX} (C : gC w X cL_law "HedgeMessagesLaw" (some .boolean) 15 9) {b L : Nat} {xs : Nat → Int32} (hX : gSc X b L xs) {S : Nat → Nat → HV} {τ : HV} {o : Nat → Int64} {i : Int32} {p1 : Int32} (h1 : vp_in (i + 1) L ∧ xs (i + 1).toNatClampNeg = p1) {p2 : Int32} (h2 : vp_in (i + 2) L ∧ xs (i + 2).toNatClampNeg = p2) (N : Nat) {S' : Nat → Nat → HV} (hF : F_X10_plant N p1 p2 S = some (.inr (1, S'))) {b9 : Int32} {τ' : HV} (hG : F_X11_plant N p1 p2 τ = some (b9, τ')) (ht : F_X11_thrown τ' = 3) {Q1 : State → Prop} {c n : Nat} (hq1 : qOk X (Q1, c + 1, n + 6)) (kk : gU w X (Q1, c + 1, n + 6) (cA w (S', τ', o)) 3008 [(4, .int i), (0, .ref b), (1, .ref (wAd w (7, 11, 6, 0))), (2, .ref (wAd w (11, 12, 0, 0))), (3, .ref (wAd w (14, 13, 0, 0)))] []) : gU w X (Q1, c, n) (cA w (S, τ, o)) 2373 [(4, .int i), (0, .ref b), (1, .ref (wAd w (7, 11, 6, 0))), (2, .ref (wAd w (11, 12, 0, 0))), (3, .ref (wAd w (14, 13, 0, 0)))] [] := by
  have hq : qOk X (Q1, c + 1, n + 6) := hq1
  refine r_aload_n C (k := 2) rfl rfl dL_law_2373 ?_
  refine r_aload_n C (k := 1) rfl rfl dL_law_2374 ?_
  refine r_iload C (k := 0) rfl dL_law_2375 ?_
  refine r_iconst C (v := 1) rfl dL_law_2377 ?_
  refine r_iadd C dL_law_2378 ?_
  refine r_sld C hX h1.1 h1.2 dL_law_2379 ?_
  refine r_aload_n C (k := 1) rfl rfl dL_law_2380 ?_
  refine r_iload C (k := 0) rfl dL_law_2381 ?_
  refine r_iconst C (v := 2) rfl dL_law_2383 ?_
  refine r_iadd C dL_law_2384 ?_
  refine r_sld C hX h2.1 h2.2 dL_law_2385 ?_
  refine r_aload_n C (k := 4) rfl rfl dL_law_2386 ?_
  refine r_callH C (ny := 4) (d' := 8) (mc := 1) (ms := 6) [.ref (wAd w (7, 11, 6, 0)), .int p1, .int p2, .ref (wAd w (14, 13, 0, 0))] (xL_plant_1 hW hS hZ (Ω := (S, τ, o)) rfl N p1 p2 hF) cwL_plant rfl wm1_0 wm6_78 ⟨by decide, by decide, by decide +kernel⟩ wm6_77 rfl (kR rfl) (by decide) (kR rfl) rfl dL_law_2387 hq1 ?_
  refine r_istore C (lo' := [(5, .int 3), (4, .int i), (0, .ref b), (1, .ref (wAd w (7, 11, 6, 0))), (2, .ref (wAd w (11, 12, 0, 0))), (3, .ref (wAd w (14, 13, 0, 0)))]) (by decide) rfl dL_law_2390 ?_
  refine r_aload_n C (k := 4) rfl rfl dL_law_2392 ?_
  refine r_aload_n C (k := 2) rfl rfl dL_law_2393 ?_
  refine r_iload C (k := 1) rfl dL_law_2394 ?_
  refine r_iconst C (v := 1) rfl dL_law_2396 ?_
  refine r_iadd C dL_law_2397 ?_
  refine r_sld C hX h1.1 h1.2 dL_law_2398 ?_
  refine r_aload_n C (k := 2) rfl rfl dL_law_2399 ?_
  refine r_iload C (k := 1) rfl dL_law_2400 ?_
  refine r_iconst C (v := 2) rfl dL_law_2402 ?_
  refine r_iadd C dL_law_2403 ?_
  refine r_sld C hX h2.1 h2.2 dL_law_2404 ?_
  refine r_callV C (d' := 5) [.int p1, .int p2] (c_X11_plant hM (Ω := (S', τ, o)) rfl N p1 p2 hG rfl) myX11_plant wm9_116 ⟨_, _, _, _, (hM.ok k11), rfl, rfl, rfl, rfl⟩ rfl (kR rfl) (by decide) (kR rfl) rfl dL_law_2405 ?_
  refine r_istore C (lo' := [(6, .int b9), (5, .int 3), (4, .int i), (0, .ref b), (1, .ref (wAd w (7, 11, 6, 0))), (2, .ref (wAd w (11, 12, 0, 0))), (3, .ref (wAd w (14, 13, 0, 0)))]) (by decide) rfl dL_law_2408 ?_
  refine r_aload_n C (k := 5) rfl rfl dL_law_2410 ?_
  refine r_callV C (d' := 0) [] (c_X11_thrown hM (Ω := (S', τ', o)) rfl ht) myX11_thrown wm7_137 ⟨_, _, _, _, (hM.ok k11), rfl, rfl, rfl, rfl⟩ rfl (kR rfl) (by decide) (kR rfl) rfl dL_law_2411 ?_
  refine r_iload C (k := 1) rfl dL_law_2414 ?_
  refine r_icmp_eq C (tgt := 2421) rfl dL_law_2416 (fun _ => ?_) (fun h => absurd rfl h)
  refine r_iload C (k := 1) rfl dL_law_2421 ?_
  refine r_if_ne C (tgt := 2438) rfl dL_law_2423 (fun _ => ?_) (fun h => absurd h (by decide))
  refine r_goto C (tgt := 3008) rfl dL_law_2438 ?_
  refine r_lo [2, 3, 4, 5, 6] (lo' := [(4, .int i), (0, .ref b), (1, .ref (wAd w (7, 11, 6, 0))), (2, .ref (wAd w (11, 12, 0, 0))), (3, .ref (wAd w (14, 13, 0, 0)))]) rfl ?_
  exact kk
theorem la51N {w : WP} (hW : gW w) (hM : gWM w) (hS : gS w) (hZ : gZ w) (hO : wFr w (14, 13, 0, 0)) {X : CX} (C : gC w X cL_law "HedgeMessagesLaw" (some .boolean) 15 9) {b L : Nat} {xs : Nat → Int32} (hX : gSc X b L xs) {S : Nat → Nat → HV} {τ : HV} {o : Nat → Int64} {i : Int32} {p1 : Int32} (h1 : vp_in (i + 1) L ∧ xs (i + 1).toNatClampNeg = p1) (N : Nat) {v : Int32} {S' : Nat → Nat → HV} (hF : F_X10_remove p1 S = some (.inl (v, S'))) {τ' : HV} (hG : F_X11_remove N p1 τ = some (v, τ')) (ht : F_X11_thrown τ' = 0) {Q1 : State → Prop} {c n : Nat} (hq : qOk X (Q1, c, n)) (kk : gU w X (Q1, c, n) (cA w (S', τ', (vp_updL o 0 v.toInt64))) 3008 [(4, .int i), (0, .ref b), (1, .ref (wAd w (7, 11, 6, 0))), (2, .ref (wAd w (11, 12, 0, 0))), (3, .ref (wAd w (14, 13, 0, 0)))] []) : gU w X (Q1, c, n) (cA w (S, τ, o)) 2441 [(4, .int i), (0, .ref b), (1, .ref (wAd w (7, 11, 6, 0))), (2, .ref (wAd w (11, 12, 0, 0))), (3, .ref (wAd w (14, 13, 0, 0)))] [] := by
  refine r_aload_n C (k := 2) rfl rfl dL_law_2441 ?_
  refine r_aload_n C (k := 1) rfl rfl dL_law_2442 ?_
  refine r_iload C (k := 0) rfl dL_law_2443 ?_
  refine r_iconst C (v := 1) rfl dL_law_2445 ?_
  refine r_iadd C dL_law_2446 ?_
  refine r_sld C hX h1.1 h1.2 dL_law_2447 ?_
  refine r_aload_n C (k := 4) rfl rfl dL_law_2448 ?_
  refine r_callH C (ny := 3) (d' := 8) (mc := 0) (ms := 0) [.ref (wAd w (7, 11, 6, 0)), .int p1, .ref (wAd w (14, 13, 0, 0))] (kL_remove hW hS hO (Ω := (S, τ, o)) rfl p1 hF) cwL_remove rfl wm1_0 wm6_88 ⟨by decide, by decide, by decide +kernel⟩ wm6_87 rfl (kR rfl) (by decide) (kR rfl) rfl dL_law_2449 hq ?_
  refine r_istore C (lo' := [(5, .int 0), (4, .int i), (0, .ref b), (1, .ref (wAd w (7, 11, 6, 0))), (2, .ref (wAd w (11, 12, 0, 0))), (3, .ref (wAd w (14, 13, 0, 0)))]) (by decide) rfl dL_law_2452 ?_
  refine r_aload_n C (k := 4) rfl rfl dL_law_2454 ?_
  refine r_aload_n C (k := 2) rfl rfl dL_law_2455 ?_
  refine r_iload C (k := 1) rfl dL_law_2456 ?_
  refine r_iconst C (v := 1) rfl dL_law_2458 ?_
  refine r_iadd C dL_law_2459 ?_
  refine r_sld C hX h1.1 h1.2 dL_law_2460 ?_
  refine r_callV C (d' := 6) [.int p1] (c_X11_remove hM (Ω := (S', τ, (vp_updL o 0 v.toInt64))) rfl N p1 hG rfl) myX11_remove wm9_132 ⟨_, _, _, _, (hM.ok k11), rfl, rfl, rfl, rfl⟩ rfl (kR rfl) (by decide) (kR rfl) rfl dL_law_2461 ?_
  refine r_istore C (lo' := [(6, .int v), (5, .int 0), (4, .int i), (0, .ref b), (1, .ref (wAd w (7, 11, 6, 0))), (2, .ref (wAd w (11, 12, 0, 0))), (3, .ref (wAd w (14, 13, 0, 0)))]) (by decide) rfl dL_law_2464 ?_
  refine r_aload_n C (k := 5) rfl rfl dL_law_2466 ?_
  refine r_callV C (d' := 0) [] (c_X11_thrown hM (Ω := (S', τ', (vp_updL o 0 v.toInt64))) rfl ht) myX11_thrown wm7_137 ⟨_, _, _, _, (hM.ok k11), rfl, rfl, rfl, rfl⟩ rfl (kR rfl) (by decide) (kR rfl) rfl dL_law_2467 ?_
  refine r_iload C (k := 1) rfl dL_law_2470 ?_
  refine r_icmp_eq C (tgt := 2477) rfl dL_law_2472 (fun _ => ?_) (fun h => absurd rfl h)
  refine r_iload C (k := 1) rfl dL_law_2477 ?_
  refine r_if_ne C (tgt := 2494) rfl dL_law_2479 (fun h => absurd rfl h) (fun _ => ?_)
  refine r_aload_n C (k := 6) rfl rfl dL_law_2482 ?_
  refine r_iconst C (v := 0) rfl dL_law_2483 ?_
  refine r_lald C (o := (vp_updL o 0 v.toInt64)) (hM.1 |> fun _ => hW.2.2.2.1 _ hO) rfl dL_law_2484 ?_
  refine r_iload C (k := 0) rfl dL_law_2485 ?_
  refine r_i2l C (v := v.toInt64) rfl dL_law_2487 ?_
  refine r_lcmp C dL_law_2488 ?_
  refine r_if_eq C (tgt := 2494) rfl dL_law_2489 (fun _ => ?_) (fun h => absurd (lgself _) h)
  refine r_goto C (tgt := 3008) rfl dL_law_2494 ?_
  refine r_lo [2, 3, 4, 5, 6] (lo' := [(4, .int i), (0, .ref b), (1, .ref (wAd w (7, 11, 6, 0))), (2, .ref (wAd w (11, 12, 0, 0))), (3, .ref (wAd w (14, 13, 0, 0)))]) rfl ?_
  exact kk
theorem la51X3 {w : WP} (hW : gW w) (hM : gWM w) (hS : gS w) (hZ : gZ w) (hO : wFr w (14, 13, 0, 0)) {X : CX} (C : gC w X cL_law "HedgeMessagesLaw" (some .boolean) 15 9) {b L : Nat} {xs : Nat → Int32} (hX : gSc X b L xs) {S : Nat → Nat → HV} {τ : HV} {o : Nat → Int64} {i : Int32} {p1 : Int32} (h1 : vp_in (i + 1) L ∧ xs (i + 1).toNatClampNeg = p1) (N : Nat) {S' : Nat → Nat → HV} (hF : F_X10_remove p1 S = some (.inr (3, S'))) {b9 : Int32} {τ' : HV} (hG : F_X11_remove N p1 τ = some (b9, τ')) (ht : F_X11_thrown τ' = 1) {Q1 : State → Prop} {c n : Nat} (hq1 : qOk X (Q1, c + 1, n + 6)) (kk : gU w X (Q1, c + 1, n + 6) (cA w (S', τ', o)) 3008 [(4, .int i), (0, .ref b), (1, .ref (wAd w (7, 11, 6, 0))), (2, .ref (wAd w (11, 12, 0, 0))), (3, .ref (wAd w (14, 13, 0, 0)))] []) : gU w X (Q1, c, n) (cA w (S, τ, o)) 2441 [(4, .int i), (0, .ref b), (1, .ref (wAd w (7, 11, 6, 0))), (2, .ref (wAd w (11, 12, 0, 0))), (3, .ref (wAd w (14, 13, 0, 0)))] [] := by
  have hq : qOk X (Q1, c + 1, n + 6) := hq1
  refine r_aload_n C (k := 2) rfl rfl dL_law_2441 ?_
  refine r_aload_n C (k := 1) rfl rfl dL_law_2442 ?_
  refine r_iload C (k := 0) rfl dL_law_2443 ?_
  refine r_iconst C (v := 1) rfl dL_law_2445 ?_
  refine r_iadd C dL_law_2446 ?_
  refine r_sld C hX h1.1 h1.2 dL_law_2447 ?_
  refine r_aload_n C (k := 4) rfl rfl dL_law_2448 ?_
  refine r_callH C (ny := 3) (d' := 8) (mc := 1) (ms := 6) [.ref (wAd w (7, 11, 6, 0)), .int p1, .ref (wAd w (14, 13, 0, 0))] (xL_remove_3 hW hS hZ (Ω := (S, τ, o)) rfl p1 hF) cwL_remove rfl wm1_0 wm6_88 ⟨by decide, by decide, by decide +kernel⟩ wm6_87 rfl (kR rfl) (by decide) (kR rfl) rfl dL_law_2449 hq1 ?_
  refine r_istore C (lo' := [(5, .int 1), (4, .int i), (0, .ref b), (1, .ref (wAd w (7, 11, 6, 0))), (2, .ref (wAd w (11, 12, 0, 0))), (3, .ref (wAd w (14, 13, 0, 0)))]) (by decide) rfl dL_law_2452 ?_
  refine r_aload_n C (k := 4) rfl rfl dL_law_2454 ?_
  refine r_aload_n C (k := 2) rfl rfl dL_law_2455 ?_
  refine r_iload C (k := 1) rfl dL_law_2456 ?_
  refine r_iconst C (v := 1) rfl dL_law_2458 ?_
  refine r_iadd C dL_law_2459 ?_
  refine r_sld C hX h1.1 h1.2 dL_law_2460 ?_
  refine r_callV C (d' := 6) [.int p1] (c_X11_remove hM (Ω := (S', τ, o)) rfl N p1 hG rfl) myX11_remove wm9_132 ⟨_, _, _, _, (hM.ok k11), rfl, rfl, rfl, rfl⟩ rfl (kR rfl) (by decide) (kR rfl) rfl dL_law_2461 ?_
  refine r_istore C (lo' := [(6, .int b9), (5, .int 1), (4, .int i), (0, .ref b), (1, .ref (wAd w (7, 11, 6, 0))), (2, .ref (wAd w (11, 12, 0, 0))), (3, .ref (wAd w (14, 13, 0, 0)))]) (by decide) rfl dL_law_2464 ?_
  refine r_aload_n C (k := 5) rfl rfl dL_law_2466 ?_
  refine r_callV C (d' := 0) [] (c_X11_thrown hM (Ω := (S', τ', o)) rfl ht) myX11_thrown wm7_137 ⟨_, _, _, _, (hM.ok k11), rfl, rfl, rfl, rfl⟩ rfl (kR rfl) (by decide) (kR rfl) rfl dL_law_2467 ?_
  refine r_iload C (k := 1) rfl dL_law_2470 ?_
  refine r_icmp_eq C (tgt := 2477) rfl dL_law_2472 (fun _ => ?_) (fun h => absurd rfl h)
  refine r_iload C (k := 1) rfl dL_law_2477 ?_
  refine r_if_ne C (tgt := 2494) rfl dL_law_2479 (fun _ => ?_) (fun h => absurd h (by decide))
  refine r_goto C (tgt := 3008) rfl dL_law_2494 ?_
  refine r_lo [2, 3, 4, 5, 6] (lo' := [(4, .int i), (0, .ref b), (1, .ref (wAd w (7, 11, 6, 0))), (2, .ref (wAd w (11, 12, 0, 0))), (3, .ref (wAd w (14, 13, 0, 0)))]) rfl ?_
  exact kk
theorem la51X1 {w : WP} (hW : gW w) (hM : gWM w) (hS : gS w) (hZ : gZ w) (hO : wFr w (14, 13, 0, 0)) {X : CX} (C : gC w X cL_law "HedgeMessagesLaw" (some .boolean) 15 9) {b L : Nat} {xs : Nat → Int32} (hX : gSc X b L xs) {S : Nat → Nat → HV} {τ : HV} {o : Nat → Int64} {i : Int32} {p1 : Int32} (h1 : vp_in (i + 1) L ∧ xs (i + 1).toNatClampNeg = p1) (N : Nat) {S' : Nat → Nat → HV} (hF : F_X10_remove p1 S = some (.inr (1, S'))) {b9 : Int32} {τ' : HV} (hG : F_X11_remove N p1 τ = some (b9, τ')) (ht : F_X11_thrown τ' = 2) {Q1 : State → Prop} {c n : Nat} (hq1 : qOk X (Q1, c + 1, n + 6)) (kk : gU w X (Q1, c + 1, n + 6) (cA w (S', τ', o)) 3008 [(4, .int i), (0, .ref b), (1, .ref (wAd w (7, 11, 6, 0))), (2, .ref (wAd w (11, 12, 0, 0))), (3, .ref (wAd w (14, 13, 0, 0)))] []) : gU w X (Q1, c, n) (cA w (S, τ, o)) 2441 [(4, .int i), (0, .ref b), (1, .ref (wAd w (7, 11, 6, 0))), (2, .ref (wAd w (11, 12, 0, 0))), (3, .ref (wAd w (14, 13, 0, 0)))] [] := by
  have hq : qOk X (Q1, c + 1, n + 6) := hq1
  refine r_aload_n C (k := 2) rfl rfl dL_law_2441 ?_
  refine r_aload_n C (k := 1) rfl rfl dL_law_2442 ?_
  refine r_iload C (k := 0) rfl dL_law_2443 ?_
  refine r_iconst C (v := 1) rfl dL_law_2445 ?_
  refine r_iadd C dL_law_2446 ?_
  refine r_sld C hX h1.1 h1.2 dL_law_2447 ?_
  refine r_aload_n C (k := 4) rfl rfl dL_law_2448 ?_
  refine r_callH C (ny := 3) (d' := 8) (mc := 1) (ms := 6) [.ref (wAd w (7, 11, 6, 0)), .int p1, .ref (wAd w (14, 13, 0, 0))] (xL_remove_1 hW hS hZ (Ω := (S, τ, o)) rfl p1 hF) cwL_remove rfl wm1_0 wm6_88 ⟨by decide, by decide, by decide +kernel⟩ wm6_87 rfl (kR rfl) (by decide) (kR rfl) rfl dL_law_2449 hq1 ?_
  refine r_istore C (lo' := [(5, .int 2), (4, .int i), (0, .ref b), (1, .ref (wAd w (7, 11, 6, 0))), (2, .ref (wAd w (11, 12, 0, 0))), (3, .ref (wAd w (14, 13, 0, 0)))]) (by decide) rfl dL_law_2452 ?_
  refine r_aload_n C (k := 4) rfl rfl dL_law_2454 ?_
  refine r_aload_n C (k := 2) rfl rfl dL_law_2455 ?_
  refine r_iload C (k := 1) rfl dL_law_2456 ?_
  refine r_iconst C (v := 1) rfl dL_law_2458 ?_
  refine r_iadd C dL_law_2459 ?_
  refine r_sld C hX h1.1 h1.2 dL_law_2460 ?_
  refine r_callV C (d' := 6) [.int p1] (c_X11_remove hM (Ω := (S', τ, o)) rfl N p1 hG rfl) myX11_remove wm9_132 ⟨_, _, _, _, (hM.ok k11), rfl, rfl, rfl, rfl⟩ rfl (kR rfl) (by decide) (kR rfl) rfl dL_law_2461 ?_
  refine r_istore C (lo' := [(6, .int b9), (5, .int 2), (4, .int i), (0, .ref b), (1, .ref (wAd w (7, 11, 6, 0))), (2, .ref (wAd w (11, 12, 0, 0))), (3, .ref (wAd w (14, 13, 0, 0)))]) (by decide) rfl dL_law_2464 ?_
  refine r_aload_n C (k := 5) rfl rfl dL_law_2466 ?_
  refine r_callV C (d' := 0) [] (c_X11_thrown hM (Ω := (S', τ', o)) rfl ht) myX11_thrown wm7_137 ⟨_, _, _, _, (hM.ok k11), rfl, rfl, rfl, rfl⟩ rfl (kR rfl) (by decide) (kR rfl) rfl dL_law_2467 ?_
  refine r_iload C (k := 1) rfl dL_law_2470 ?_
  refine r_icmp_eq C (tgt := 2477) rfl dL_law_2472 (fun _ => ?_) (fun h => absurd rfl h)
  refine r_iload C (k := 1) rfl dL_law_2477 ?_
  refine r_if_ne C (tgt := 2494) rfl dL_law_2479 (fun _ => ?_) (fun h => absurd h (by decide))
  refine r_goto C (tgt := 3008) rfl dL_law_2494 ?_
  refine r_lo [2, 3, 4, 5, 6] (lo' := [(4, .int i), (0, .ref b), (1, .ref (wAd w (7, 11, 6, 0))), (2, .ref (wAd w (11, 12, 0, 0))), (3, .ref (wAd w (14, 13, 0, 0)))]) rfl ?_
  exact kk
theorem la52N {w : WP} (hW : gW w) (hM : gWM w) (hS : gS w) (hZ : gZ w) (hO : wFr w (14, 13, 0, 0)) {X : CX} (C : gC w X cL_law "HedgeMessagesLaw" (some .boolean) 15 9) {b L : Nat} {xs : Nat → Int32} (hX : gSc X b L xs) {S : Nat → Nat → HV} {τ : HV} {o : Nat → Int64} {i : Int32} {p1 : Int32} (h1 : vp_in (i + 1) L ∧ xs (i + 1).toNatClampNeg = p1) {p2 : Int32} (h2 : vp_in (i + 2) L ∧ xs (i + 2).toNatClampNeg = p2) (N : Nat) {v : Int32} {S' : Nat → Nat → HV} (hF : F_X10_trim p1 p2 S = some (.inl (v, S'))) {τ' : HV} (hG : F_X11_trim N p1 p2 τ = some (v, τ')) (ht : F_X11_thrown τ' = 0) {Q1 : State → Prop} {c n : Nat} (hq : qOk X (Q1, c, n)) (kk : gU w X (Q1, c, n) (cA w (S', τ', (vp_updL o 0 v.toInt64))) 3008 [(4, .int i), (0, .ref b), (1, .ref (wAd w (7, 11, 6, 0))), (2, .ref (wAd w (11, 12, 0, 0))), (3, .ref (wAd w (14, 13, 0, 0)))] []) : gU w X (Q1, c, n) (cA w (S, τ, o)) 2497 [(4, .int i), (0, .ref b), (1, .ref (wAd w (7, 11, 6, 0))), (2, .ref (wAd w (11, 12, 0, 0))), (3, .ref (wAd w (14, 13, 0, 0)))] [] := by
  refine r_aload_n C (k := 2) rfl rfl dL_law_2497 ?_
  refine r_aload_n C (k := 1) rfl rfl dL_law_2498 ?_
  refine r_iload C (k := 0) rfl dL_law_2499 ?_
  refine r_iconst C (v := 1) rfl dL_law_2501 ?_
  refine r_iadd C dL_law_2502 ?_
  refine r_sld C hX h1.1 h1.2 dL_law_2503 ?_
  refine r_aload_n C (k := 1) rfl rfl dL_law_2504 ?_
  refine r_iload C (k := 0) rfl dL_law_2505 ?_
  refine r_iconst C (v := 2) rfl dL_law_2507 ?_
  refine r_iadd C dL_law_2508 ?_
  refine r_sld C hX h2.1 h2.2 dL_law_2509 ?_
  refine r_aload_n C (k := 4) rfl rfl dL_law_2510 ?_
  refine r_callH C (ny := 4) (d' := 8) (mc := 0) (ms := 0) [.ref (wAd w (7, 11, 6, 0)), .int p1, .int p2, .ref (wAd w (14, 13, 0, 0))] (kL_trim hW hS hO (Ω := (S, τ, o)) rfl p1 p2 hF) cwL_trim rfl wm1_0 wm6_96 ⟨by decide, by decide, by decide +kernel⟩ wm6_95 rfl (kR rfl) (by decide) (kR rfl) rfl dL_law_2511 hq ?_
  refine r_istore C (lo' := [(5, .int 0), (4, .int i), (0, .ref b), (1, .ref (wAd w (7, 11, 6, 0))), (2, .ref (wAd w (11, 12, 0, 0))), (3, .ref (wAd w (14, 13, 0, 0)))]) (by decide) rfl dL_law_2514 ?_
  refine r_aload_n C (k := 4) rfl rfl dL_law_2516 ?_
  refine r_aload_n C (k := 2) rfl rfl dL_law_2517 ?_
  refine r_iload C (k := 1) rfl dL_law_2518 ?_
  refine r_iconst C (v := 1) rfl dL_law_2520 ?_
  refine r_iadd C dL_law_2521 ?_
  refine r_sld C hX h1.1 h1.2 dL_law_2522 ?_
  refine r_aload_n C (k := 2) rfl rfl dL_law_2523 ?_
  refine r_iload C (k := 1) rfl dL_law_2524 ?_
  refine r_iconst C (v := 2) rfl dL_law_2526 ?_
  refine r_iadd C dL_law_2527 ?_
  refine r_sld C hX h2.1 h2.2 dL_law_2528 ?_
  refine r_callV C (d' := 6) [.int p1, .int p2] (c_X11_trim hM (Ω := (S', τ, (vp_updL o 0 v.toInt64))) rfl N p1 p2 hG rfl) myX11_trim wm9_140 ⟨_, _, _, _, (hM.ok k11), rfl, rfl, rfl, rfl⟩ rfl (kR rfl) (by decide) (kR rfl) rfl dL_law_2529 ?_
  refine r_istore C (lo' := [(6, .int v), (5, .int 0), (4, .int i), (0, .ref b), (1, .ref (wAd w (7, 11, 6, 0))), (2, .ref (wAd w (11, 12, 0, 0))), (3, .ref (wAd w (14, 13, 0, 0)))]) (by decide) rfl dL_law_2532 ?_
  refine r_aload_n C (k := 5) rfl rfl dL_law_2534 ?_
  refine r_callV C (d' := 0) [] (c_X11_thrown hM (Ω := (S', τ', (vp_updL o 0 v.toInt64))) rfl ht) myX11_thrown wm7_137 ⟨_, _, _, _, (hM.ok k11), rfl, rfl, rfl, rfl⟩ rfl (kR rfl) (by decide) (kR rfl) rfl dL_law_2535 ?_
  refine r_iload C (k := 1) rfl dL_law_2538 ?_
  refine r_icmp_eq C (tgt := 2545) rfl dL_law_2540 (fun _ => ?_) (fun h => absurd rfl h)
  refine r_iload C (k := 1) rfl dL_law_2545 ?_
  refine r_if_ne C (tgt := 2562) rfl dL_law_2547 (fun h => absurd rfl h) (fun _ => ?_)
  refine r_aload_n C (k := 6) rfl rfl dL_law_2550 ?_
  refine r_iconst C (v := 0) rfl dL_law_2551 ?_
  refine r_lald C (o := (vp_updL o 0 v.toInt64)) (hM.1 |> fun _ => hW.2.2.2.1 _ hO) rfl dL_law_2552 ?_
  refine r_iload C (k := 0) rfl dL_law_2553 ?_
  refine r_i2l C (v := v.toInt64) rfl dL_law_2555 ?_
  refine r_lcmp C dL_law_2556 ?_
  refine r_if_eq C (tgt := 2562) rfl dL_law_2557 (fun _ => ?_) (fun h => absurd (lgself _) h)
  refine r_goto C (tgt := 3008) rfl dL_law_2562 ?_
  refine r_lo [2, 3, 4, 5, 6] (lo' := [(4, .int i), (0, .ref b), (1, .ref (wAd w (7, 11, 6, 0))), (2, .ref (wAd w (11, 12, 0, 0))), (3, .ref (wAd w (14, 13, 0, 0)))]) rfl ?_
  exact kk
theorem la52X3 {w : WP} (hW : gW w) (hM : gWM w) (hS : gS w) (hZ : gZ w) (hO : wFr w (14, 13, 0, 0)) {X : CX} (C : gC w X cL_law "HedgeMessagesLaw" (some .boolean) 15 9) {b L : Nat} {xs : Nat → Int32} (hX : gSc X b L xs) {S : Nat → Nat → HV} {τ : HV} {o : Nat → Int64} {i : Int32} {p1 : Int32} (h1 : vp_in (i + 1) L ∧ xs (i + 1).toNatClampNeg = p1) {p2 : Int32} (h2 : vp_in (i + 2) L ∧ xs (i + 2).toNatClampNeg = p2) (N : Nat) {S' : Nat → Nat → HV} (hF : F_X10_trim p1 p2 S = some (.inr (3, S'))) {b9 : Int32} {τ' : HV} (hG : F_X11_trim N p1 p2 τ = some (b9, τ')) (ht : F_X11_thrown τ' = 1) {Q1 : State → Prop} {c n : Nat} (hq1 : qOk X (Q1, c + 1, n + 6)) (kk : gU w X (Q1, c + 1, n + 6) (cA w (S', τ', o)) 3008 [(4, .int i), (0, .ref b), (1, .ref (wAd w (7, 11, 6, 0))), (2, .ref (wAd w (11, 12, 0, 0))), (3, .ref (wAd w (14, 13, 0, 0)))] []) : gU w X (Q1, c, n) (cA w (S, τ, o)) 2497 [(4, .int i), (0, .ref b), (1, .ref (wAd w (7, 11, 6, 0))), (2, .ref (wAd w (11, 12, 0, 0))), (3, .ref (wAd w (14, 13, 0, 0)))] [] := by
  have hq : qOk X (Q1, c + 1, n + 6) := hq1
  refine r_aload_n C (k := 2) rfl rfl dL_law_2497 ?_
  refine r_aload_n C (k := 1) rfl rfl dL_law_2498 ?_
  refine r_iload C (k := 0) rfl dL_law_2499 ?_
  refine r_iconst C (v := 1) rfl dL_law_2501 ?_
  refine r_iadd C dL_law_2502 ?_
  refine r_sld C hX h1.1 h1.2 dL_law_2503 ?_
  refine r_aload_n C (k := 1) rfl rfl dL_law_2504 ?_
  refine r_iload C (k := 0) rfl dL_law_2505 ?_
  refine r_iconst C (v := 2) rfl dL_law_2507 ?_
  refine r_iadd C dL_law_2508 ?_
  refine r_sld C hX h2.1 h2.2 dL_law_2509 ?_
  refine r_aload_n C (k := 4) rfl rfl dL_law_2510 ?_
  refine r_callH C (ny := 4) (d' := 8) (mc := 1) (ms := 6) [.ref (wAd w (7, 11, 6, 0)), .int p1, .int p2, .ref (wAd w (14, 13, 0, 0))] (xL_trim_3 hW hS hZ (Ω := (S, τ, o)) rfl p1 p2 hF) cwL_trim rfl wm1_0 wm6_96 ⟨by decide, by decide, by decide +kernel⟩ wm6_95 rfl (kR rfl) (by decide) (kR rfl) rfl dL_law_2511 hq1 ?_
  refine r_istore C (lo' := [(5, .int 1), (4, .int i), (0, .ref b), (1, .ref (wAd w (7, 11, 6, 0))), (2, .ref (wAd w (11, 12, 0, 0))), (3, .ref (wAd w (14, 13, 0, 0)))]) (by decide) rfl dL_law_2514 ?_
  refine r_aload_n C (k := 4) rfl rfl dL_law_2516 ?_
  refine r_aload_n C (k := 2) rfl rfl dL_law_2517 ?_
  refine r_iload C (k := 1) rfl dL_law_2518 ?_
  refine r_iconst C (v := 1) rfl dL_law_2520 ?_
  refine r_iadd C dL_law_2521 ?_
  refine r_sld C hX h1.1 h1.2 dL_law_2522 ?_
  refine r_aload_n C (k := 2) rfl rfl dL_law_2523 ?_
  refine r_iload C (k := 1) rfl dL_law_2524 ?_
  refine r_iconst C (v := 2) rfl dL_law_2526 ?_
  refine r_iadd C dL_law_2527 ?_
  refine r_sld C hX h2.1 h2.2 dL_law_2528 ?_
  refine r_callV C (d' := 6) [.int p1, .int p2] (c_X11_trim hM (Ω := (S', τ, o)) rfl N p1 p2 hG rfl) myX11_trim wm9_140 ⟨_, _, _, _, (hM.ok k11), rfl, rfl, rfl, rfl⟩ rfl (kR rfl) (by decide) (kR rfl) rfl dL_law_2529 ?_
  refine r_istore C (lo' := [(6, .int b9), (5, .int 1), (4, .int i), (0, .ref b), (1, .ref (wAd w (7, 11, 6, 0))), (2, .ref (wAd w (11, 12, 0, 0))), (3, .ref (wAd w (14, 13, 0, 0)))]) (by decide) rfl dL_law_2532 ?_
  refine r_aload_n C (k := 5) rfl rfl dL_law_2534 ?_
  refine r_callV C (d' := 0) [] (c_X11_thrown hM (Ω := (S', τ', o)) rfl ht) myX11_thrown wm7_137 ⟨_, _, _, _, (hM.ok k11), rfl, rfl, rfl, rfl⟩ rfl (kR rfl) (by decide) (kR rfl) rfl dL_law_2535 ?_
  refine r_iload C (k := 1) rfl dL_law_2538 ?_
  refine r_icmp_eq C (tgt := 2545) rfl dL_law_2540 (fun _ => ?_) (fun h => absurd rfl h)
  refine r_iload C (k := 1) rfl dL_law_2545 ?_
  refine r_if_ne C (tgt := 2562) rfl dL_law_2547 (fun _ => ?_) (fun h => absurd h (by decide))
  refine r_goto C (tgt := 3008) rfl dL_law_2562 ?_
  refine r_lo [2, 3, 4, 5, 6] (lo' := [(4, .int i), (0, .ref b), (1, .ref (wAd w (7, 11, 6, 0))), (2, .ref (wAd w (11, 12, 0, 0))), (3, .ref (wAd w (14, 13, 0, 0)))]) rfl ?_
  exact kk
theorem la52X2 {w : WP} (hW : gW w) (hM : gWM w) (hS : gS w) (hZ : gZ w) (hO : wFr w (14, 13, 0, 0)) {X : CX} (C : gC w X cL_law "HedgeMessagesLaw" (some .boolean) 15 9) {b L : Nat} {xs : Nat → Int32} (hX : gSc X b L xs) {S : Nat → Nat → HV} {τ : HV} {o : Nat → Int64} {i : Int32} {p1 : Int32} (h1 : vp_in (i + 1) L ∧ xs (i + 1).toNatClampNeg = p1) {p2 : Int32} (h2 : vp_in (i + 2) L ∧ xs (i + 2).toNatClampNeg = p2) (N : Nat) {S' : Nat → Nat → HV} (hF : F_X10_trim p1 p2 S = some (.inr (2, S'))) {b9 : Int32} {τ' : HV} (hG : F_X11_trim N p1 p2 τ = some (b9, τ')) (ht : F_X11_thrown τ' = 2) {Q1 : State → Prop} {c n : Nat} (hq1 : qOk X (Q1, c + 1, n + 6)) (kk : gU w X (Q1, c + 1, n + 6) (cA w (S', τ', o)) 3008 [(4, .int i), (0, .ref b), (1, .ref (wAd w (7, 11, 6, 0))), (2, .ref (wAd w (11, 12, 0, 0))), (3, .ref (wAd w (14, 13, 0, 0)))] []) : gU w X (Q1, c, n) (cA w (S, τ, o)) 2497 [(4, .int i), (0, .ref b), (1, .ref (wAd w (7, 11, 6, 0))), (2, .ref (wAd w (11, 12, 0, 0))), (3, .ref (wAd w (14, 13, 0, 0)))] [] := by
  have hq : qOk X (Q1, c + 1, n + 6) := hq1
  refine r_aload_n C (k := 2) rfl rfl dL_law_2497 ?_
  refine r_aload_n C (k := 1) rfl rfl dL_law_2498 ?_
  refine r_iload C (k := 0) rfl dL_law_2499 ?_
  refine r_iconst C (v := 1) rfl dL_law_2501 ?_
  refine r_iadd C dL_law_2502 ?_
  refine r_sld C hX h1.1 h1.2 dL_law_2503 ?_
  refine r_aload_n C (k := 1) rfl rfl dL_law_2504 ?_
  refine r_iload C (k := 0) rfl dL_law_2505 ?_
  refine r_iconst C (v := 2) rfl dL_law_2507 ?_
  refine r_iadd C dL_law_2508 ?_
  refine r_sld C hX h2.1 h2.2 dL_law_2509 ?_
  refine r_aload_n C (k := 4) rfl rfl dL_law_2510 ?_
  refine r_callH C (ny := 4) (d' := 8) (mc := 1) (ms := 6) [.ref (wAd w (7, 11, 6, 0)), .int p1, .int p2, .ref (wAd w (14, 13, 0, 0))] (xL_trim_2 hW hS hZ (Ω := (S, τ, o)) rfl p1 p2 hF) cwL_trim rfl wm1_0 wm6_96 ⟨by decide, by decide, by decide +kernel⟩ wm6_95 rfl (kR rfl) (by decide) (kR rfl) rfl dL_law_2511 hq1 ?_
  refine r_istore C (lo' := [(5, .int 2), (4, .int i), (0, .ref b), (1, .ref (wAd w (7, 11, 6, 0))), (2, .ref (wAd w (11, 12, 0, 0))), (3, .ref (wAd w (14, 13, 0, 0)))]) (by decide) rfl dL_law_2514 ?_
  refine r_aload_n C (k := 4) rfl rfl dL_law_2516 ?_
  refine r_aload_n C (k := 2) rfl rfl dL_law_2517 ?_
  refine r_iload C (k := 1) rfl dL_law_2518 ?_
  refine r_iconst C (v := 1) rfl dL_law_2520 ?_
  refine r_iadd C dL_law_2521 ?_
  refine r_sld C hX h1.1 h1.2 dL_law_2522 ?_
  refine r_aload_n C (k := 2) rfl rfl dL_law_2523 ?_
  refine r_iload C (k := 1) rfl dL_law_2524 ?_
  refine r_iconst C (v := 2) rfl dL_law_2526 ?_
  refine r_iadd C dL_law_2527 ?_
  refine r_sld C hX h2.1 h2.2 dL_law_2528 ?_
  refine r_callV C (d' := 6) [.int p1, .int p2] (c_X11_trim hM (Ω := (S', τ, o)) rfl N p1 p2 hG rfl) myX11_trim wm9_140 ⟨_, _, _, _, (hM.ok k11), rfl, rfl, rfl, rfl⟩ rfl (kR rfl) (by decide) (kR rfl) rfl dL_law_2529 ?_
  refine r_istore C (lo' := [(6, .int b9), (5, .int 2), (4, .int i), (0, .ref b), (1, .ref (wAd w (7, 11, 6, 0))), (2, .ref (wAd w (11, 12, 0, 0))), (3, .ref (wAd w (14, 13, 0, 0)))]) (by decide) rfl dL_law_2532 ?_
  refine r_aload_n C (k := 5) rfl rfl dL_law_2534 ?_
  refine r_callV C (d' := 0) [] (c_X11_thrown hM (Ω := (S', τ', o)) rfl ht) myX11_thrown wm7_137 ⟨_, _, _, _, (hM.ok k11), rfl, rfl, rfl, rfl⟩ rfl (kR rfl) (by decide) (kR rfl) rfl dL_law_2535 ?_
  refine r_iload C (k := 1) rfl dL_law_2538 ?_
  refine r_icmp_eq C (tgt := 2545) rfl dL_law_2540 (fun _ => ?_) (fun h => absurd rfl h)
  refine r_iload C (k := 1) rfl dL_law_2545 ?_
  refine r_if_ne C (tgt := 2562) rfl dL_law_2547 (fun _ => ?_) (fun h => absurd h (by decide))
  refine r_goto C (tgt := 3008) rfl dL_law_2562 ?_
  refine r_lo [2, 3, 4, 5, 6] (lo' := [(4, .int i), (0, .ref b), (1, .ref (wAd w (7, 11, 6, 0))), (2, .ref (wAd w (11, 12, 0, 0))), (3, .ref (wAd w (14, 13, 0, 0)))]) rfl ?_
  exact kk
theorem la52X1 {w : WP} (hW : gW w) (hM : gWM w) (hS : gS w) (hZ : gZ w) (hO : wFr w (14, 13, 0, 0)) {X : CX} (C : gC w X cL_law "HedgeMessagesLaw" (some .boolean) 15 9) {b L : Nat} {xs : Nat → Int32} (hX : gSc X b L xs) {S : Nat → Nat → HV} {τ : HV} {o : Nat → Int64} {i : Int32} {p1 : Int32} (h1 : vp_in (i + 1) L ∧ xs (i + 1).toNatClampNeg = p1) {p2 : Int32} (h2 : vp_in (i + 2) L ∧ xs (i + 2).toNatClampNeg = p2) (N : Nat) {S' : Nat → Nat → HV} (hF : F_X10_trim p1 p2 S = some (.inr (1, S'))) {b9 : Int32} {τ' : HV} (hG : F_X11_trim N p1 p2 τ = some (b9, τ')) (ht : F_X11_thrown τ' = 3) {Q1 : State → Prop} {c n : Nat} (hq1 : qOk X (Q1, c + 1, n + 6)) (kk : gU w X (Q1, c + 1, n + 6) (cA w (S', τ', o)) 3008 [(4, .int i), (0, .ref b), (1, .ref (wAd w (7, 11, 6, 0))), (2, .ref (wAd w (11, 12, 0, 0))), (3, .ref (wAd w (14, 13, 0, 0)))] []) : gU w X (Q1, c, n) (cA w (S, τ, o)) 2497 [(4, .int i), (0, .ref b), (1, .ref (wAd w (7, 11, 6, 0))), (2, .ref (wAd w (11, 12, 0, 0))), (3, .ref (wAd w (14, 13, 0, 0)))] [] := by
  have hq : qOk X (Q1, c + 1, n + 6) := hq1
  refine r_aload_n C (k := 2) rfl rfl dL_law_2497 ?_
  refine r_aload_n C (k := 1) rfl rfl dL_law_2498 ?_
  refine r_iload C (k := 0) rfl dL_law_2499 ?_
  refine r_iconst C (v := 1) rfl dL_law_2501 ?_
  refine r_iadd C dL_law_2502 ?_
  refine r_sld C hX h1.1 h1.2 dL_law_2503 ?_
  refine r_aload_n C (k := 1) rfl rfl dL_law_2504 ?_
  refine r_iload C (k := 0) rfl dL_law_2505 ?_
  refine r_iconst C (v := 2) rfl dL_law_2507 ?_
  refine r_iadd C dL_law_2508 ?_
  refine r_sld C hX h2.1 h2.2 dL_law_2509 ?_
  refine r_aload_n C (k := 4) rfl rfl dL_law_2510 ?_
  refine r_callH C (ny := 4) (d' := 8) (mc := 1) (ms := 6) [.ref (wAd w (7, 11, 6, 0)), .int p1, .int p2, .ref (wAd w (14, 13, 0, 0))] (xL_trim_1 hW hS hZ (Ω := (S, τ, o)) rfl p1 p2 hF) cwL_trim rfl wm1_0 wm6_96 ⟨by decide, by decide, by decide +kernel⟩ wm6_95 rfl (kR rfl) (by decide) (kR rfl) rfl dL_law_2511 hq1 ?_
  refine r_istore C (lo' := [(5, .int 3), (4, .int i), (0, .ref b), (1, .ref (wAd w (7, 11, 6, 0))), (2, .ref (wAd w (11, 12, 0, 0))), (3, .ref (wAd w (14, 13, 0, 0)))]) (by decide) rfl dL_law_2514 ?_
  refine r_aload_n C (k := 4) rfl rfl dL_law_2516 ?_
  refine r_aload_n C (k := 2) rfl rfl dL_law_2517 ?_
  refine r_iload C (k := 1) rfl dL_law_2518 ?_
  refine r_iconst C (v := 1) rfl dL_law_2520 ?_
  refine r_iadd C dL_law_2521 ?_
  refine r_sld C hX h1.1 h1.2 dL_law_2522 ?_
  refine r_aload_n C (k := 2) rfl rfl dL_law_2523 ?_
  refine r_iload C (k := 1) rfl dL_law_2524 ?_
  refine r_iconst C (v := 2) rfl dL_law_2526 ?_
  refine r_iadd C dL_law_2527 ?_
  refine r_sld C hX h2.1 h2.2 dL_law_2528 ?_
  refine r_callV C (d' := 6) [.int p1, .int p2] (c_X11_trim hM (Ω := (S', τ, o)) rfl N p1 p2 hG rfl) myX11_trim wm9_140 ⟨_, _, _, _, (hM.ok k11), rfl, rfl, rfl, rfl⟩ rfl (kR rfl) (by decide) (kR rfl) rfl dL_law_2529 ?_
  refine r_istore C (lo' := [(6, .int b9), (5, .int 3), (4, .int i), (0, .ref b), (1, .ref (wAd w (7, 11, 6, 0))), (2, .ref (wAd w (11, 12, 0, 0))), (3, .ref (wAd w (14, 13, 0, 0)))]) (by decide) rfl dL_law_2532 ?_
  refine r_aload_n C (k := 5) rfl rfl dL_law_2534 ?_
  refine r_callV C (d' := 0) [] (c_X11_thrown hM (Ω := (S', τ', o)) rfl ht) myX11_thrown wm7_137 ⟨_, _, _, _, (hM.ok k11), rfl, rfl, rfl, rfl⟩ rfl (kR rfl) (by decide) (kR rfl) rfl dL_law_2535 ?_
  refine r_iload C (k := 1) rfl dL_law_2538 ?_
  refine r_icmp_eq C (tgt := 2545) rfl dL_law_2540 (fun _ => ?_) (fun h => absurd rfl h)
  refine r_iload C (k := 1) rfl dL_law_2545 ?_
  refine r_if_ne C (tgt := 2562) rfl dL_law_2547 (fun _ => ?_) (fun h => absurd h (by decide))
  refine r_goto C (tgt := 3008) rfl dL_law_2562 ?_
  refine r_lo [2, 3, 4, 5, 6] (lo' := [(4, .int i), (0, .ref b), (1, .ref (wAd w (7, 11, 6, 0))), (2, .ref (wAd w (11, 12, 0, 0))), (3, .ref (wAd w (14, 13, 0, 0)))]) rfl ?_
  exact kk
theorem la53N {w : WP} (hW : gW w) (hM : gWM w) (hS : gS w) (hZ : gZ w) (hO : wFr w (14, 13, 0, 0)) {X : CX} (C : gC w X cL_law "HedgeMessagesLaw" (some .boolean) 15 9) {b L : Nat} {xs : Nat → Int32} (hX : gSc X b L xs) {S : Nat → Nat → HV} {τ : HV} {o : Nat → Int64} {i : Int32} {p1 : Int32} (h1 : vp_in (i + 1) L ∧ xs (i + 1).toNatClampNeg = p1) {p2 : Int32} (h2 : vp_in (i + 2) L ∧ xs (i + 2).toNatClampNeg = p2) (N : Nat) {v : Int32} {S' : Nat → Nat → HV} (hF : F_X10_addNest N p1 p2 S = some (.inl (v, S'))) {τ' : HV} (hG : F_X11_addNest N p1 p2 τ = some (v, τ')) (ht : F_X11_thrown τ' = 0) {Q1 : State → Prop} {c n : Nat} (hq : qOk X (Q1, c, n)) (kk : gU w X (Q1, c, n) (cA w (S', τ', (vp_updL o 0 v.toInt64))) 3008 [(4, .int i), (0, .ref b), (1, .ref (wAd w (7, 11, 6, 0))), (2, .ref (wAd w (11, 12, 0, 0))), (3, .ref (wAd w (14, 13, 0, 0)))] []) : gU w X (Q1, c, n) (cA w (S, τ, o)) 2565 [(4, .int i), (0, .ref b), (1, .ref (wAd w (7, 11, 6, 0))), (2, .ref (wAd w (11, 12, 0, 0))), (3, .ref (wAd w (14, 13, 0, 0)))] [] := by
  refine r_aload_n C (k := 2) rfl rfl dL_law_2565 ?_
  refine r_aload_n C (k := 1) rfl rfl dL_law_2566 ?_
  refine r_iload C (k := 0) rfl dL_law_2567 ?_
  refine r_iconst C (v := 1) rfl dL_law_2569 ?_
  refine r_iadd C dL_law_2570 ?_
  refine r_sld C hX h1.1 h1.2 dL_law_2571 ?_
  refine r_aload_n C (k := 1) rfl rfl dL_law_2572 ?_
  refine r_iload C (k := 0) rfl dL_law_2573 ?_
  refine r_iconst C (v := 2) rfl dL_law_2575 ?_
  refine r_iadd C dL_law_2576 ?_
  refine r_sld C hX h2.1 h2.2 dL_law_2577 ?_
  refine r_aload_n C (k := 4) rfl rfl dL_law_2578 ?_
  refine r_callH C (ny := 4) (d' := 8) (mc := 0) (ms := 0) [.ref (wAd w (7, 11, 6, 0)), .int p1, .int p2, .ref (wAd w (14, 13, 0, 0))] (kL_addNest hW hS hO (Ω := (S, τ, o)) rfl N p1 p2 hF) cwL_addNest rfl wm1_0 wm6_105 ⟨by decide, by decide, by decide +kernel⟩ wm6_104 rfl (kR rfl) (by decide) (kR rfl) rfl dL_law_2579 hq ?_
  refine r_istore C (lo' := [(5, .int 0), (4, .int i), (0, .ref b), (1, .ref (wAd w (7, 11, 6, 0))), (2, .ref (wAd w (11, 12, 0, 0))), (3, .ref (wAd w (14, 13, 0, 0)))]) (by decide) rfl dL_law_2582 ?_
  refine r_aload_n C (k := 4) rfl rfl dL_law_2584 ?_
  refine r_aload_n C (k := 2) rfl rfl dL_law_2585 ?_
  refine r_iload C (k := 1) rfl dL_law_2586 ?_
  refine r_iconst C (v := 1) rfl dL_law_2588 ?_
  refine r_iadd C dL_law_2589 ?_
  refine r_sld C hX h1.1 h1.2 dL_law_2590 ?_
  refine r_aload_n C (k := 2) rfl rfl dL_law_2591 ?_
  refine r_iload C (k := 1) rfl dL_law_2592 ?_
  refine r_iconst C (v := 2) rfl dL_law_2594 ?_
  refine r_iadd C dL_law_2595 ?_
  refine r_sld C hX h2.1 h2.2 dL_law_2596 ?_
  refine r_callV C (d' := 5) [.int p1, .int p2] (c_X11_addNest hM (Ω := (S', τ, (vp_updL o 0 v.toInt64))) rfl N p1 p2 hG rfl) myX11_addNest wm9_145 ⟨_, _, _, _, (hM.ok k11), rfl, rfl, rfl, rfl⟩ rfl (kR rfl) (by decide) (kR rfl) rfl dL_law_2597 ?_
  refine r_istore C (lo' := [(6, .int v), (5, .int 0), (4, .int i), (0, .ref b), (1, .ref (wAd w (7, 11, 6, 0))), (2, .ref (wAd w (11, 12, 0, 0))), (3, .ref (wAd w (14, 13, 0, 0)))]) (by decide) rfl dL_law_2600 ?_
  refine r_aload_n C (k := 5) rfl rfl dL_law_2602 ?_
  refine r_callV C (d' := 0) [] (c_X11_thrown hM (Ω := (S', τ', (vp_updL o 0 v.toInt64))) rfl ht) myX11_thrown wm7_137 ⟨_, _, _, _, (hM.ok k11), rfl, rfl, rfl, rfl⟩ rfl (kR rfl) (by decide) (kR rfl) rfl dL_law_2603 ?_
  refine r_iload C (k := 1) rfl dL_law_2606 ?_
  refine r_icmp_eq C (tgt := 2613) rfl dL_law_2608 (fun _ => ?_) (fun h => absurd rfl h)
  refine r_iload C (k := 1) rfl dL_law_2613 ?_
  refine r_if_ne C (tgt := 2630) rfl dL_law_2615 (fun h => absurd rfl h) (fun _ => ?_)
  refine r_aload_n C (k := 6) rfl rfl dL_law_2618 ?_
  refine r_iconst C (v := 0) rfl dL_law_2619 ?_
  refine r_lald C (o := (vp_updL o 0 v.toInt64)) (hM.1 |> fun _ => hW.2.2.2.1 _ hO) rfl dL_law_2620 ?_
  refine r_iload C (k := 0) rfl dL_law_2621 ?_
  refine r_i2l C (v := v.toInt64) rfl dL_law_2623 ?_
  refine r_lcmp C dL_law_2624 ?_
  refine r_if_eq C (tgt := 2630) rfl dL_law_2625 (fun _ => ?_) (fun h => absurd (lgself _) h)
  refine r_goto C (tgt := 3008) rfl dL_law_2630 ?_
  refine r_lo [2, 3, 4, 5, 6] (lo' := [(4, .int i), (0, .ref b), (1, .ref (wAd w (7, 11, 6, 0))), (2, .ref (wAd w (11, 12, 0, 0))), (3, .ref (wAd w (14, 13, 0, 0)))]) rfl ?_
  exact kk
theorem la53X3 {w : WP} (hW : gW w) (hM : gWM w) (hS : gS w) (hZ : gZ w) (hO : wFr w (14, 13, 0, 0)) {X : CX} (C : gC w X cL_law "HedgeMessagesLaw" (some .boolean) 15 9) {b L : Nat} {xs : Nat → Int32} (hX : gSc X b L xs) {S : Nat → Nat → HV} {τ : HV} {o : Nat → Int64} {i : Int32} {p1 : Int32} (h1 : vp_in (i + 1) L ∧ xs (i + 1).toNatClampNeg = p1) {p2 : Int32} (h2 : vp_in (i + 2) L ∧ xs (i + 2).toNatClampNeg = p2) (N : Nat) {S' : Nat → Nat → HV} (hF : F_X10_addNest N p1 p2 S = some (.inr (3, S'))) {b9 : Int32} {τ' : HV} (hG : F_X11_addNest N p1 p2 τ = some (b9, τ')) (ht : F_X11_thrown τ' = 1) {Q1 : State → Prop} {c n : Nat} (hq1 : qOk X (Q1, c + 1, n + 6)) (kk : gU w X (Q1, c + 1, n + 6) (cA w (S', τ', o)) 3008 [(4, .int i), (0, .ref b), (1, .ref (wAd w (7, 11, 6, 0))), (2, .ref (wAd w (11, 12, 0, 0))), (3, .ref (wAd w (14, 13, 0, 0)))] []) : gU w X (Q1, c, n) (cA w (S, τ, o)) 2565 [(4, .int i), (0, .ref b), (1, .ref (wAd w (7, 11, 6, 0))), (2, .ref (wAd w (11, 12, 0, 0))), (3, .ref (wAd w (14, 13, 0, 0)))] [] := by
  have hq : qOk X (Q1, c + 1, n + 6) := hq1
  refine r_aload_n C (k := 2) rfl rfl dL_law_2565 ?_
  refine r_aload_n C (k := 1) rfl rfl dL_law_2566 ?_
  refine r_iload C (k := 0) rfl dL_law_2567 ?_
  refine r_iconst C (v := 1) rfl dL_law_2569 ?_
  refine r_iadd C dL_law_2570 ?_
  refine r_sld C hX h1.1 h1.2 dL_law_2571 ?_
  refine r_aload_n C (k := 1) rfl rfl dL_law_2572 ?_
  refine r_iload C (k := 0) rfl dL_law_2573 ?_
  refine r_iconst C (v := 2) rfl dL_law_2575 ?_
  refine r_iadd C dL_law_2576 ?_
  refine r_sld C hX h2.1 h2.2 dL_law_2577 ?_
  refine r_aload_n C (k := 4) rfl rfl dL_law_2578 ?_
  refine r_callH C (ny := 4) (d' := 8) (mc := 1) (ms := 6) [.ref (wAd w (7, 11, 6, 0)), .int p1, .int p2, .ref (wAd w (14, 13, 0, 0))] (xL_addNest_3 hW hS hZ (Ω := (S, τ, o)) rfl N p1 p2 hF) cwL_addNest rfl wm1_0 wm6_105 ⟨by decide, by decide, by decide +kernel⟩ wm6_104 rfl (kR rfl) (by decide) (kR rfl) rfl dL_law_2579 hq1 ?_
  refine r_istore C (lo' := [(5, .int 1), (4, .int i), (0, .ref b), (1, .ref (wAd w (7, 11, 6, 0))), (2, .ref (wAd w (11, 12, 0, 0))), (3, .ref (wAd w (14, 13, 0, 0)))]) (by decide) rfl dL_law_2582 ?_
  refine r_aload_n C (k := 4) rfl rfl dL_law_2584 ?_
  refine r_aload_n C (k := 2) rfl rfl dL_law_2585 ?_
  refine r_iload C (k := 1) rfl dL_law_2586 ?_
  refine r_iconst C (v := 1) rfl dL_law_2588 ?_
  refine r_iadd C dL_law_2589 ?_
  refine r_sld C hX h1.1 h1.2 dL_law_2590 ?_
  refine r_aload_n C (k := 2) rfl rfl dL_law_2591 ?_
  refine r_iload C (k := 1) rfl dL_law_2592 ?_
  refine r_iconst C (v := 2) rfl dL_law_2594 ?_
  refine r_iadd C dL_law_2595 ?_
  refine r_sld C hX h2.1 h2.2 dL_law_2596 ?_
  refine r_callV C (d' := 5) [.int p1, .int p2] (c_X11_addNest hM (Ω := (S', τ, o)) rfl N p1 p2 hG rfl) myX11_addNest wm9_145 ⟨_, _, _, _, (hM.ok k11), rfl, rfl, rfl, rfl⟩ rfl (kR rfl) (by decide) (kR rfl) rfl dL_law_2597 ?_
  refine r_istore C (lo' := [(6, .int b9), (5, .int 1), (4, .int i), (0, .ref b), (1, .ref (wAd w (7, 11, 6, 0))), (2, .ref (wAd w (11, 12, 0, 0))), (3, .ref (wAd w (14, 13, 0, 0)))]) (by decide) rfl dL_law_2600 ?_
  refine r_aload_n C (k := 5) rfl rfl dL_law_2602 ?_
  refine r_callV C (d' := 0) [] (c_X11_thrown hM (Ω := (S', τ', o)) rfl ht) myX11_thrown wm7_137 ⟨_, _, _, _, (hM.ok k11), rfl, rfl, rfl, rfl⟩ rfl (kR rfl) (by decide) (kR rfl) rfl dL_law_2603 ?_
  refine r_iload C (k := 1) rfl dL_law_2606 ?_
  refine r_icmp_eq C (tgt := 2613) rfl dL_law_2608 (fun _ => ?_) (fun h => absurd rfl h)
  refine r_iload C (k := 1) rfl dL_law_2613 ?_
  refine r_if_ne C (tgt := 2630) rfl dL_law_2615 (fun _ => ?_) (fun h => absurd h (by decide))
  refine r_goto C (tgt := 3008) rfl dL_law_2630 ?_
  refine r_lo [2, 3, 4, 5, 6] (lo' := [(4, .int i), (0, .ref b), (1, .ref (wAd w (7, 11, 6, 0))), (2, .ref (wAd w (11, 12, 0, 0))), (3, .ref (wAd w (14, 13, 0, 0)))]) rfl ?_
  exact kk
theorem la53X2 {w : WP} (hW : gW w) (hM : gWM w) (hS : gS w) (hZ : gZ w) (hO : wFr w (14, 13, 0, 0)) {X : CX} (C : gC w X cL_law "HedgeMessagesLaw" (some .boolean) 15 9) {b L : Nat} {xs : Nat → Int32} (hX : gSc X b L xs) {S : Nat → Nat → HV} {τ : HV} {o : Nat → Int64} {i : Int32} {p1 : Int32} (h1 : vp_in (i + 1) L ∧ xs (i + 1).toNatClampNeg = p1) {p2 : Int32} (h2 : vp_in (i + 2) L ∧ xs (i + 2).toNatClampNeg = p2) (N : Nat) {S' : Nat → Nat → HV} (hF : F_X10_addNest N p1 p2 S = some (.inr (2, S'))) {b9 : Int32} {τ' : HV} (hG : F_X11_addNest N p1 p2 τ = some (b9, τ')) (ht : F_X11_thrown τ' = 2) {Q1 : State → Prop} {c n : Nat} (hq1 : qOk X (Q1, c + 1, n + 6)) (kk : gU w X (Q1, c + 1, n + 6) (cA w (S', τ', o)) 3008 [(4, .int i), (0, .ref b), (1, .ref (wAd w (7, 11, 6, 0))), (2, .ref (wAd w (11, 12, 0, 0))), (3, .ref (wAd w (14, 13, 0, 0)))] []) : gU w X (Q1, c, n) (cA w (S, τ, o)) 2565 [(4, .int i), (0, .ref b), (1, .ref (wAd w (7, 11, 6, 0))), (2, .ref (wAd w (11, 12, 0, 0))), (3, .ref (wAd w (14, 13, 0, 0)))] [] := by
  have hq : qOk X (Q1, c + 1, n + 6) := hq1
  refine r_aload_n C (k := 2) rfl rfl dL_law_2565 ?_
  refine r_aload_n C (k := 1) rfl rfl dL_law_2566 ?_
  refine r_iload C (k := 0) rfl dL_law_2567 ?_
  refine r_iconst C (v := 1) rfl dL_law_2569 ?_
  refine r_iadd C dL_law_2570 ?_
  refine r_sld C hX h1.1 h1.2 dL_law_2571 ?_
  refine r_aload_n C (k := 1) rfl rfl dL_law_2572 ?_
  refine r_iload C (k := 0) rfl dL_law_2573 ?_
  refine r_iconst C (v := 2) rfl dL_law_2575 ?_
  refine r_iadd C dL_law_2576 ?_
  refine r_sld C hX h2.1 h2.2 dL_law_2577 ?_
  refine r_aload_n C (k := 4) rfl rfl dL_law_2578 ?_
  refine r_callH C (ny := 4) (d' := 8) (mc := 1) (ms := 6) [.ref (wAd w (7, 11, 6, 0)), .int p1, .int p2, .ref (wAd w (14, 13, 0, 0))] (xL_addNest_2 hW hS hZ (Ω := (S, τ, o)) rfl N p1 p2 hF) cwL_addNest rfl wm1_0 wm6_105 ⟨by decide, by decide, by decide +kernel⟩ wm6_104 rfl (kR rfl) (by decide) (kR rfl) rfl dL_law_2579 hq1 ?_
  refine r_istore C (lo' := [(5, .int 2), (4, .int i), (0, .ref b), (1, .ref (wAd w (7, 11, 6, 0))), (2, .ref (wAd w (11, 12, 0, 0))), (3, .ref (wAd w (14, 13, 0, 0)))]) (by decide) rfl dL_law_2582 ?_
  refine r_aload_n C (k := 4) rfl rfl dL_law_2584 ?_
  refine r_aload_n C (k := 2) rfl rfl dL_law_2585 ?_
  refine r_iload C (k := 1) rfl dL_law_2586 ?_
  refine r_iconst C (v := 1) rfl dL_law_2588 ?_
  refine r_iadd C dL_law_2589 ?_
  refine r_sld C hX h1.1 h1.2 dL_law_2590 ?_
  refine r_aload_n C (k := 2) rfl rfl dL_law_2591 ?_
  refine r_iload C (k := 1) rfl dL_law_2592 ?_
  refine r_iconst C (v := 2) rfl dL_law_2594 ?_
  refine r_iadd C dL_law_2595 ?_
  refine r_sld C hX h2.1 h2.2 dL_law_2596 ?_
  refine r_callV C (d' := 5) [.int p1, .int p2] (c_X11_addNest hM (Ω := (S', τ, o)) rfl N p1 p2 hG rfl) myX11_addNest wm9_145 ⟨_, _, _, _, (hM.ok k11), rfl, rfl, rfl, rfl⟩ rfl (kR rfl) (by decide) (kR rfl) rfl dL_law_2597 ?_
  refine r_istore C (lo' := [(6, .int b9), (5, .int 2), (4, .int i), (0, .ref b), (1, .ref (wAd w (7, 11, 6, 0))), (2, .ref (wAd w (11, 12, 0, 0))), (3, .ref (wAd w (14, 13, 0, 0)))]) (by decide) rfl dL_law_2600 ?_
  refine r_aload_n C (k := 5) rfl rfl dL_law_2602 ?_
  refine r_callV C (d' := 0) [] (c_X11_thrown hM (Ω := (S', τ', o)) rfl ht) myX11_thrown wm7_137 ⟨_, _, _, _, (hM.ok k11), rfl, rfl, rfl, rfl⟩ rfl (kR rfl) (by decide) (kR rfl) rfl dL_law_2603 ?_
  refine r_iload C (k := 1) rfl dL_law_2606 ?_
  refine r_icmp_eq C (tgt := 2613) rfl dL_law_2608 (fun _ => ?_) (fun h => absurd rfl h)
  refine r_iload C (k := 1) rfl dL_law_2613 ?_
  refine r_if_ne C (tgt := 2630) rfl dL_law_2615 (fun _ => ?_) (fun h => absurd h (by decide))
  refine r_goto C (tgt := 3008) rfl dL_law_2630 ?_
  refine r_lo [2, 3, 4, 5, 6] (lo' := [(4, .int i), (0, .ref b), (1, .ref (wAd w (7, 11, 6, 0))), (2, .ref (wAd w (11, 12, 0, 0))), (3, .ref (wAd w (14, 13, 0, 0)))]) rfl ?_
  exact kk
theorem la53X1 {w : WP} (hW : gW w) (hM : gWM w) (hS : gS w) (hZ : gZ w) (hO : wFr w (14, 13, 0, 0)) {X : CX} (C : gC w X cL_law "HedgeMessagesLaw" (some .boolean) 15 9) {b L : Nat} {xs : Nat → Int32} (hX : gSc X b L xs) {S : Nat → Nat → HV} {τ : HV} {o : Nat → Int64} {i : Int32} {p1 : Int32} (h1 : vp_in (i + 1) L ∧ xs (i + 1).toNatClampNeg = p1) {p2 : Int32} (h2 : vp_in (i + 2) L ∧ xs (i + 2).toNatClampNeg = p2) (N : Nat) {S' : Nat → Nat → HV} (hF : F_X10_addNest N p1 p2 S = some (.inr (1, S'))) {b9 : Int32} {τ' : HV} (hG : F_X11_addNest N p1 p2 τ = some (b9, τ')) (ht : F_X11_thrown τ' = 3) {Q1 : State → Prop} {c n : Nat} (hq1 : qOk X (Q1, c + 1, n + 6)) (kk : gU w X (Q1, c + 1, n + 6) (cA w (S', τ', o)) 3008 [(4, .int i), (0, .ref b), (1, .ref (wAd w (7, 11, 6, 0))), (2, .ref (wAd w (11, 12, 0, 0))), (3, .ref (wAd w (14, 13, 0, 0)))] []) : gU w X (Q1, c, n) (cA w (S, τ, o)) 2565 [(4, .int i), (0, .ref b), (1, .ref (wAd w (7, 11, 6, 0))), (2, .ref (wAd w (11, 12, 0, 0))), (3, .ref (wAd w (14, 13, 0, 0)))] [] := by
  have hq : qOk X (Q1, c + 1, n + 6) := hq1
  refine r_aload_n C (k := 2) rfl rfl dL_law_2565 ?_
  refine r_aload_n C (k := 1) rfl rfl dL_law_2566 ?_
  refine r_iload C (k := 0) rfl dL_law_2567 ?_
  refine r_iconst C (v := 1) rfl dL_law_2569 ?_
  refine r_iadd C dL_law_2570 ?_
  refine r_sld C hX h1.1 h1.2 dL_law_2571 ?_
  refine r_aload_n C (k := 1) rfl rfl dL_law_2572 ?_
  refine r_iload C (k := 0) rfl dL_law_2573 ?_
  refine r_iconst C (v := 2) rfl dL_law_2575 ?_
  refine r_iadd C dL_law_2576 ?_
  refine r_sld C hX h2.1 h2.2 dL_law_2577 ?_
  refine r_aload_n C (k := 4) rfl rfl dL_law_2578 ?_
  refine r_callH C (ny := 4) (d' := 8) (mc := 1) (ms := 6) [.ref (wAd w (7, 11, 6, 0)), .int p1, .int p2, .ref (wAd w (14, 13, 0, 0))] (xL_addNest_1 hW hS hZ (Ω := (S, τ, o)) rfl N p1 p2 hF) cwL_addNest rfl wm1_0 wm6_105 ⟨by decide, by decide, by decide +kernel⟩ wm6_104 rfl (kR rfl) (by decide) (kR rfl) rfl dL_law_2579 hq1 ?_
  refine r_istore C (lo' := [(5, .int 3), (4, .int i), (0, .ref b), (1, .ref (wAd w (7, 11, 6, 0))), (2, .ref (wAd w (11, 12, 0, 0))), (3, .ref (wAd w (14, 13, 0, 0)))]) (by decide) rfl dL_law_2582 ?_
  refine r_aload_n C (k := 4) rfl rfl dL_law_2584 ?_
  refine r_aload_n C (k := 2) rfl rfl dL_law_2585 ?_
  refine r_iload C (k := 1) rfl dL_law_2586 ?_
  refine r_iconst C (v := 1) rfl dL_law_2588 ?_
  refine r_iadd C dL_law_2589 ?_
  refine r_sld C hX h1.1 h1.2 dL_law_2590 ?_
  refine r_aload_n C (k := 2) rfl rfl dL_law_2591 ?_
  refine r_iload C (k := 1) rfl dL_law_2592 ?_
  refine r_iconst C (v := 2) rfl dL_law_2594 ?_
  refine r_iadd C dL_law_2595 ?_
  refine r_sld C hX h2.1 h2.2 dL_law_2596 ?_
  refine r_callV C (d' := 5) [.int p1, .int p2] (c_X11_addNest hM (Ω := (S', τ, o)) rfl N p1 p2 hG rfl) myX11_addNest wm9_145 ⟨_, _, _, _, (hM.ok k11), rfl, rfl, rfl, rfl⟩ rfl (kR rfl) (by decide) (kR rfl) rfl dL_law_2597 ?_
  refine r_istore C (lo' := [(6, .int b9), (5, .int 3), (4, .int i), (0, .ref b), (1, .ref (wAd w (7, 11, 6, 0))), (2, .ref (wAd w (11, 12, 0, 0))), (3, .ref (wAd w (14, 13, 0, 0)))]) (by decide) rfl dL_law_2600 ?_
  refine r_aload_n C (k := 5) rfl rfl dL_law_2602 ?_
  refine r_callV C (d' := 0) [] (c_X11_thrown hM (Ω := (S', τ', o)) rfl ht) myX11_thrown wm7_137 ⟨_, _, _, _, (hM.ok k11), rfl, rfl, rfl, rfl⟩ rfl (kR rfl) (by decide) (kR rfl) rfl dL_law_2603 ?_
  refine r_iload C (k := 1) rfl dL_law_2606 ?_
  refine r_icmp_eq C (tgt := 2613) rfl dL_law_2608 (fun _ => ?_) (fun h => absurd rfl h)
  refine r_iload C (k := 1) rfl dL_law_2613 ?_
  refine r_if_ne C (tgt := 2630) rfl dL_law_2615 (fun _ => ?_) (fun h => absurd h (by decide))
  refine r_goto C (tgt := 3008) rfl dL_law_2630 ?_
  refine r_lo [2, 3, 4, 5, 6] (lo' := [(4, .int i), (0, .ref b), (1, .ref (wAd w (7, 11, 6, 0))), (2, .ref (wAd w (11, 12, 0, 0))), (3, .ref (wAd w (14, 13, 0, 0)))]) rfl ?_
  exact kk
theorem la54N {w : WP} (hW : gW w) (hM : gWM w) (hS : gS w) (hZ : gZ w) (hO : wFr w (14, 13, 0, 0)) {X : CX} (C : gC w X cL_law "HedgeMessagesLaw" (some .boolean) 15 9) {b L : Nat} {xs : Nat → Int32} (hX : gSc X b L xs) {S : Nat → Nat → HV} {τ : HV} {o : Nat → Int64} {i : Int32} {p1 : Int32} (h1 : vp_in (i + 1) L ∧ xs (i + 1).toNatClampNeg = p1) (N : Nat) {v : Int32} {S' : Nat → Nat → HV} (hF : F_X10_queueMessage N p1 S = some (.inl (v, S'))) {τ' : HV} (hG : F_X11_queueMessage N p1 τ = some (v, τ')) (ht : F_X11_thrown τ' = 0) {Q1 : State → Prop} {c n : Nat} (hq : qOk X (Q1, c, n)) (kk : gU w X (Q1, c, n) (cA w (S', τ', (vp_updL o 0 v.toInt64))) 3008 [(4, .int i), (0, .ref b), (1, .ref (wAd w (7, 11, 6, 0))), (2, .ref (wAd w (11, 12, 0, 0))), (3, .ref (wAd w (14, 13, 0, 0)))] []) : gU w X (Q1, c, n) (cA w (S, τ, o)) 2633 [(4, .int i), (0, .ref b), (1, .ref (wAd w (7, 11, 6, 0))), (2, .ref (wAd w (11, 12, 0, 0))), (3, .ref (wAd w (14, 13, 0, 0)))] [] := by
  refine r_aload_n C (k := 2) rfl rfl dL_law_2633 ?_
  refine r_aload_n C (k := 1) rfl rfl dL_law_2634 ?_
  refine r_iload C (k := 0) rfl dL_law_2635 ?_
  refine r_iconst C (v := 1) rfl dL_law_2637 ?_
  refine r_iadd C dL_law_2638 ?_
  refine r_sld C hX h1.1 h1.2 dL_law_2639 ?_
  refine r_aload_n C (k := 4) rfl rfl dL_law_2640 ?_
  refine r_callH C (ny := 3) (d' := 8) (mc := 0) (ms := 0) [.ref (wAd w (7, 11, 6, 0)), .int p1, .ref (wAd w (14, 13, 0, 0))] (kL_queueMessage hW hS hO (Ω := (S, τ, o)) rfl N p1 hF) cwL_queueMessage rfl wm1_0 wm6_114 ⟨by decide, by decide, by decide +kernel⟩ wm6_113 rfl (kR rfl) (by decide) (kR rfl) rfl dL_law_2641 hq ?_
  refine r_istore C (lo' := [(5, .int 0), (4, .int i), (0, .ref b), (1, .ref (wAd w (7, 11, 6, 0))), (2, .ref (wAd w (11, 12, 0, 0))), (3, .ref (wAd w (14, 13, 0, 0)))]) (by decide) rfl dL_law_2644 ?_
  refine r_aload_n C (k := 4) rfl rfl dL_law_2646 ?_
  refine r_aload_n C (k := 2) rfl rfl dL_law_2647 ?_
  refine r_iload C (k := 1) rfl dL_law_2648 ?_
  refine r_iconst C (v := 1) rfl dL_law_2650 ?_
  refine r_iadd C dL_law_2651 ?_
  refine r_sld C hX h1.1 h1.2 dL_law_2652 ?_
  refine r_callV C (d' := 3) [.int p1] (c_X11_queueMessage hM (Ω := (S', τ, (vp_updL o 0 v.toInt64))) rfl N p1 hG rfl) myX11_queueMessage wm9_150 ⟨_, _, _, _, (hM.ok k11), rfl, rfl, rfl, rfl⟩ rfl (kR rfl) (by decide) (kR rfl) rfl dL_law_2653 ?_
  refine r_istore C (lo' := [(6, .int v), (5, .int 0), (4, .int i), (0, .ref b), (1, .ref (wAd w (7, 11, 6, 0))), (2, .ref (wAd w (11, 12, 0, 0))), (3, .ref (wAd w (14, 13, 0, 0)))]) (by decide) rfl dL_law_2656 ?_
  refine r_aload_n C (k := 5) rfl rfl dL_law_2658 ?_
  refine r_callV C (d' := 0) [] (c_X11_thrown hM (Ω := (S', τ', (vp_updL o 0 v.toInt64))) rfl ht) myX11_thrown wm7_137 ⟨_, _, _, _, (hM.ok k11), rfl, rfl, rfl, rfl⟩ rfl (kR rfl) (by decide) (kR rfl) rfl dL_law_2659 ?_
  refine r_iload C (k := 1) rfl dL_law_2662 ?_
  refine r_icmp_eq C (tgt := 2669) rfl dL_law_2664 (fun _ => ?_) (fun h => absurd rfl h)
  refine r_iload C (k := 1) rfl dL_law_2669 ?_
  refine r_if_ne C (tgt := 2686) rfl dL_law_2671 (fun h => absurd rfl h) (fun _ => ?_)
  refine r_aload_n C (k := 6) rfl rfl dL_law_2674 ?_
  refine r_iconst C (v := 0) rfl dL_law_2675 ?_
  refine r_lald C (o := (vp_updL o 0 v.toInt64)) (hM.1 |> fun _ => hW.2.2.2.1 _ hO) rfl dL_law_2676 ?_
  refine r_iload C (k := 0) rfl dL_law_2677 ?_
  refine r_i2l C (v := v.toInt64) rfl dL_law_2679 ?_
  refine r_lcmp C dL_law_2680 ?_
  refine r_if_eq C (tgt := 2686) rfl dL_law_2681 (fun _ => ?_) (fun h => absurd (lgself _) h)
  refine r_goto C (tgt := 3008) rfl dL_law_2686 ?_
  refine r_lo [2, 3, 4, 5, 6] (lo' := [(4, .int i), (0, .ref b), (1, .ref (wAd w (7, 11, 6, 0))), (2, .ref (wAd w (11, 12, 0, 0))), (3, .ref (wAd w (14, 13, 0, 0)))]) rfl ?_
  exact kk
theorem la54X2 {w : WP} (hW : gW w) (hM : gWM w) (hS : gS w) (hZ : gZ w) (hO : wFr w (14, 13, 0, 0)) {X : CX} (C : gC w X cL_law "HedgeMessagesLaw" (some .boolean) 15 9) {b L : Nat} {xs : Nat → Int32} (hX : gSc X b L xs) {S : Nat → Nat → HV} {τ : HV} {o : Nat → Int64} {i : Int32} {p1 : Int32} (h1 : vp_in (i + 1) L ∧ xs (i + 1).toNatClampNeg = p1) (N : Nat) {S' : Nat → Nat → HV} (hF : F_X10_queueMessage N p1 S = some (.inr (2, S'))) {b9 : Int32} {τ' : HV} (hG : F_X11_queueMessage N p1 τ = some (b9, τ')) (ht : F_X11_thrown τ' = 1) {Q1 : State → Prop} {c n : Nat} (hq1 : qOk X (Q1, c + 1, n + 6)) (kk : gU w X (Q1, c + 1, n + 6) (cA w (S', τ', o)) 3008 [(4, .int i), (0, .ref b), (1, .ref (wAd w (7, 11, 6, 0))), (2, .ref (wAd w (11, 12, 0, 0))), (3, .ref (wAd w (14, 13, 0, 0)))] []) : gU w X (Q1, c, n) (cA w (S, τ, o)) 2633 [(4, .int i), (0, .ref b), (1, .ref (wAd w (7, 11, 6, 0))), (2, .ref (wAd w (11, 12, 0, 0))), (3, .ref (wAd w (14, 13, 0, 0)))] [] := by
  have hq : qOk X (Q1, c + 1, n + 6) := hq1
  refine r_aload_n C (k := 2) rfl rfl dL_law_2633 ?_
  refine r_aload_n C (k := 1) rfl rfl dL_law_2634 ?_
  refine r_iload C (k := 0) rfl dL_law_2635 ?_
  refine r_iconst C (v := 1) rfl dL_law_2637 ?_
  refine r_iadd C dL_law_2638 ?_
  refine r_sld C hX h1.1 h1.2 dL_law_2639 ?_
  refine r_aload_n C (k := 4) rfl rfl dL_law_2640 ?_
  refine r_callH C (ny := 3) (d' := 8) (mc := 1) (ms := 6) [.ref (wAd w (7, 11, 6, 0)), .int p1, .ref (wAd w (14, 13, 0, 0))] (xL_queueMessage_2 hW hS hZ (Ω := (S, τ, o)) rfl N p1 hF) cwL_queueMessage rfl wm1_0 wm6_114 ⟨by decide, by decide, by decide +kernel⟩ wm6_113 rfl (kR rfl) (by decide) (kR rfl) rfl dL_law_2641 hq1 ?_
  refine r_istore C (lo' := [(5, .int 1), (4, .int i), (0, .ref b), (1, .ref (wAd w (7, 11, 6, 0))), (2, .ref (wAd w (11, 12, 0, 0))), (3, .ref (wAd w (14, 13, 0, 0)))]) (by decide) rfl dL_law_2644 ?_
  refine r_aload_n C (k := 4) rfl rfl dL_law_2646 ?_
  refine r_aload_n C (k := 2) rfl rfl dL_law_2647 ?_
  refine r_iload C (k := 1) rfl dL_law_2648 ?_
  refine r_iconst C (v := 1) rfl dL_law_2650 ?_
  refine r_iadd C dL_law_2651 ?_
  refine r_sld C hX h1.1 h1.2 dL_law_2652 ?_
  refine r_callV C (d' := 3) [.int p1] (c_X11_queueMessage hM (Ω := (S', τ, o)) rfl N p1 hG rfl) myX11_queueMessage wm9_150 ⟨_, _, _, _, (hM.ok k11), rfl, rfl, rfl, rfl⟩ rfl (kR rfl) (by decide) (kR rfl) rfl dL_law_2653 ?_
  refine r_istore C (lo' := [(6, .int b9), (5, .int 1), (4, .int i), (0, .ref b), (1, .ref (wAd w (7, 11, 6, 0))), (2, .ref (wAd w (11, 12, 0, 0))), (3, .ref (wAd w (14, 13, 0, 0)))]) (by decide) rfl dL_law_2656 ?_
  refine r_aload_n C (k := 5) rfl rfl dL_law_2658 ?_
  refine r_callV C (d' := 0) [] (c_X11_thrown hM (Ω := (S', τ', o)) rfl ht) myX11_thrown wm7_137 ⟨_, _, _, _, (hM.ok k11), rfl, rfl, rfl, rfl⟩ rfl (kR rfl) (by decide) (kR rfl) rfl dL_law_2659 ?_
  refine r_iload C (k := 1) rfl dL_law_2662 ?_
  refine r_icmp_eq C (tgt := 2669) rfl dL_law_2664 (fun _ => ?_) (fun h => absurd rfl h)
  refine r_iload C (k := 1) rfl dL_law_2669 ?_
  refine r_if_ne C (tgt := 2686) rfl dL_law_2671 (fun _ => ?_) (fun h => absurd h (by decide))
  refine r_goto C (tgt := 3008) rfl dL_law_2686 ?_
  refine r_lo [2, 3, 4, 5, 6] (lo' := [(4, .int i), (0, .ref b), (1, .ref (wAd w (7, 11, 6, 0))), (2, .ref (wAd w (11, 12, 0, 0))), (3, .ref (wAd w (14, 13, 0, 0)))]) rfl ?_
  exact kk
theorem la54X1 {w : WP} (hW : gW w) (hM : gWM w) (hS : gS w) (hZ : gZ w) (hO : wFr w (14, 13, 0, 0)) {X : CX} (C : gC w X cL_law "HedgeMessagesLaw" (some .boolean) 15 9) {b L : Nat} {xs : Nat → Int32} (hX : gSc X b L xs) {S : Nat → Nat → HV} {τ : HV} {o : Nat → Int64} {i : Int32} {p1 : Int32} (h1 : vp_in (i + 1) L ∧ xs (i + 1).toNatClampNeg = p1) (N : Nat) {S' : Nat → Nat → HV} (hF : F_X10_queueMessage N p1 S = some (.inr (1, S'))) {b9 : Int32} {τ' : HV} (hG : F_X11_queueMessage N p1 τ = some (b9, τ')) (ht : F_X11_thrown τ' = 2) {Q1 : State → Prop} {c n : Nat} (hq1 : qOk X (Q1, c + 1, n + 6)) (kk : gU w X (Q1, c + 1, n + 6) (cA w (S', τ', o)) 3008 [(4, .int i), (0, .ref b), (1, .ref (wAd w (7, 11, 6, 0))), (2, .ref (wAd w (11, 12, 0, 0))), (3, .ref (wAd w (14, 13, 0, 0)))] []) : gU w X (Q1, c, n) (cA w (S, τ, o)) 2633 [(4, .int i), (0, .ref b), (1, .ref (wAd w (7, 11, 6, 0))), (2, .ref (wAd w (11, 12, 0, 0))), (3, .ref (wAd w (14, 13, 0, 0)))] [] := by
  have hq : qOk X (Q1, c + 1, n + 6) := hq1
  refine r_aload_n C (k := 2) rfl rfl dL_law_2633 ?_
  refine r_aload_n C (k := 1) rfl rfl dL_law_2634 ?_
  refine r_iload C (k := 0) rfl dL_law_2635 ?_
  refine r_iconst C (v := 1) rfl dL_law_2637 ?_
  refine r_iadd C dL_law_2638 ?_
  refine r_sld C hX h1.1 h1.2 dL_law_2639 ?_
  refine r_aload_n C (k := 4) rfl rfl dL_law_2640 ?_
  refine r_callH C (ny := 3) (d' := 8) (mc := 1) (ms := 6) [.ref (wAd w (7, 11, 6, 0)), .int p1, .ref (wAd w (14, 13, 0, 0))] (xL_queueMessage_1 hW hS hZ (Ω := (S, τ, o)) rfl N p1 hF) cwL_queueMessage rfl wm1_0 wm6_114 ⟨by decide, by decide, by decide +kernel⟩ wm6_113 rfl (kR rfl) (by decide) (kR rfl) rfl dL_law_2641 hq1 ?_
  refine r_istore C (lo' := [(5, .int 2), (4, .int i), (0, .ref b), (1, .ref (wAd w (7, 11, 6, 0))), (2, .ref (wAd w (11, 12, 0, 0))), (3, .ref (wAd w (14, 13, 0, 0)))]) (by decide) rfl dL_law_2644 ?_
  refine r_aload_n C (k := 4) rfl rfl dL_law_2646 ?_
  refine r_aload_n C (k := 2) rfl rfl dL_law_2647 ?_
  refine r_iload C (k := 1) rfl dL_law_2648 ?_
  refine r_iconst C (v := 1) rfl dL_law_2650 ?_
  refine r_iadd C dL_law_2651 ?_
  refine r_sld C hX h1.1 h1.2 dL_law_2652 ?_
  refine r_callV C (d' := 3) [.int p1] (c_X11_queueMessage hM (Ω := (S', τ, o)) rfl N p1 hG rfl) myX11_queueMessage wm9_150 ⟨_, _, _, _, (hM.ok k11), rfl, rfl, rfl, rfl⟩ rfl (kR rfl) (by decide) (kR rfl) rfl dL_law_2653 ?_
  refine r_istore C (lo' := [(6, .int b9), (5, .int 2), (4, .int i), (0, .ref b), (1, .ref (wAd w (7, 11, 6, 0))), (2, .ref (wAd w (11, 12, 0, 0))), (3, .ref (wAd w (14, 13, 0, 0)))]) (by decide) rfl dL_law_2656 ?_
  refine r_aload_n C (k := 5) rfl rfl dL_law_2658 ?_
  refine r_callV C (d' := 0) [] (c_X11_thrown hM (Ω := (S', τ', o)) rfl ht) myX11_thrown wm7_137 ⟨_, _, _, _, (hM.ok k11), rfl, rfl, rfl, rfl⟩ rfl (kR rfl) (by decide) (kR rfl) rfl dL_law_2659 ?_
  refine r_iload C (k := 1) rfl dL_law_2662 ?_
  refine r_icmp_eq C (tgt := 2669) rfl dL_law_2664 (fun _ => ?_) (fun h => absurd rfl h)
  refine r_iload C (k := 1) rfl dL_law_2669 ?_
  refine r_if_ne C (tgt := 2686) rfl dL_law_2671 (fun _ => ?_) (fun h => absurd h (by decide))
  refine r_goto C (tgt := 3008) rfl dL_law_2686 ?_
  refine r_lo [2, 3, 4, 5, 6] (lo' := [(4, .int i), (0, .ref b), (1, .ref (wAd w (7, 11, 6, 0))), (2, .ref (wAd w (11, 12, 0, 0))), (3, .ref (wAd w (14, 13, 0, 0)))]) rfl ?_
  exact kk
theorem la55N {w : WP} (hW : gW w) (hM : gWM w) (hS : gS w) (hZ : gZ w) (hO : wFr w (14, 13, 0, 0)) {X : CX} (C : gC w X cL_law "HedgeMessagesLaw" (some .boolean) 15 9) {b L : Nat} {xs : Nat → Int32} (hX : gSc X b L xs) {S : Nat → Nat → HV} {τ : HV} {o : Nat → Int64} {i : Int32} {p1 : Int32} (h1 : vp_in (i + 1) L ∧ xs (i + 1).toNatClampNeg = p1) {p2 : Int32} (h2 : vp_in (i + 2) L ∧ xs (i + 2).toNatClampNeg = p2) (N : Nat) {v : Int32} {S' : Nat → Nat → HV} (hF : F_X10_cancelMessage p1 p2 S = some (.inl (v, S'))) {τ' : HV} (hG : F_X11_cancelMessage N p1 p2 τ = some (v, τ')) (ht : F_X11_thrown τ' = 0) {Q1 : State → Prop} {c n : Nat} (hq : qOk X (Q1, c, n)) (kk : gU w X (Q1, c, n) (cA w (S', τ', (vp_updL o 0 v.toInt64))) 3008 [(4, .int i), (0, .ref b), (1, .ref (wAd w (7, 11, 6, 0))), (2, .ref (wAd w (11, 12, 0, 0))), (3, .ref (wAd w (14, 13, 0, 0)))] []) : gU w X (Q1, c, n) (cA w (S, τ, o)) 2689 [(4, .int i), (0, .ref b), (1, .ref (wAd w (7, 11, 6, 0))), (2, .ref (wAd w (11, 12, 0, 0))), (3, .ref (wAd w (14, 13, 0, 0)))] [] := by
  refine r_aload_n C (k := 2) rfl rfl dL_law_2689 ?_
  refine r_aload_n C (k := 1) rfl rfl dL_law_2690 ?_
  refine r_iload C (k := 0) rfl dL_law_2691 ?_
  refine r_iconst C (v := 1) rfl dL_law_2693 ?_
  refine r_iadd C dL_law_2694 ?_
  refine r_sld C hX h1.1 h1.2 dL_law_2695 ?_
  refine r_aload_n C (k := 1) rfl rfl dL_law_2696 ?_
  refine r_iload C (k := 0) rfl dL_law_2697 ?_
  refine r_iconst C (v := 2) rfl dL_law_2699 ?_
  refine r_iadd C dL_law_2700 ?_
  refine r_sld C hX h2.1 h2.2 dL_law_2701 ?_
  refine r_aload_n C (k := 4) rfl rfl dL_law_2702 ?_
  refine r_callH C (ny := 4) (d' := 8) (mc := 0) (ms := 0) [.ref (wAd w (7, 11, 6, 0)), .int p1, .int p2, .ref (wAd w (14, 13, 0, 0))] (kL_cancelMessage hW hS hO (Ω := (S, τ, o)) rfl p1 p2 hF) cwL_cancelMessage rfl wm1_0 wm6_127 ⟨by decide, by decide, by decide +kernel⟩ wm6_126 rfl (kR rfl) (by decide) (kR rfl) rfl dL_law_2703 hq ?_
  refine r_istore C (lo' := [(5, .int 0), (4, .int i), (0, .ref b), (1, .ref (wAd w (7, 11, 6, 0))), (2, .ref (wAd w (11, 12, 0, 0))), (3, .ref (wAd w (14, 13, 0, 0)))]) (by decide) rfl dL_law_2706 ?_
  refine r_aload_n C (k := 4) rfl rfl dL_law_2708 ?_
  refine r_aload_n C (k := 2) rfl rfl dL_law_2709 ?_
  refine r_iload C (k := 1) rfl dL_law_2710 ?_
  refine r_iconst C (v := 1) rfl dL_law_2712 ?_
  refine r_iadd C dL_law_2713 ?_
  refine r_sld C hX h1.1 h1.2 dL_law_2714 ?_
  refine r_aload_n C (k := 2) rfl rfl dL_law_2715 ?_
  refine r_iload C (k := 1) rfl dL_law_2716 ?_
  refine r_iconst C (v := 2) rfl dL_law_2718 ?_
  refine r_iadd C dL_law_2719 ?_
  refine r_sld C hX h2.1 h2.2 dL_law_2720 ?_
  refine r_callV C (d' := 3) [.int p1, .int p2] (c_X11_cancelMessage hM (Ω := (S', τ, (vp_updL o 0 v.toInt64))) rfl N p1 p2 hG rfl) myX11_cancelMessage wm9_158 ⟨_, _, _, _, (hM.ok k11), rfl, rfl, rfl, rfl⟩ rfl (kR rfl) (by decide) (kR rfl) rfl dL_law_2721 ?_
  refine r_istore C (lo' := [(6, .int v), (5, .int 0), (4, .int i), (0, .ref b), (1, .ref (wAd w (7, 11, 6, 0))), (2, .ref (wAd w (11, 12, 0, 0))), (3, .ref (wAd w (14, 13, 0, 0)))]) (by decide) rfl dL_law_2724 ?_
  refine r_aload_n C (k := 5) rfl rfl dL_law_2726 ?_
  refine r_callV C (d' := 0) [] (c_X11_thrown hM (Ω := (S', τ', (vp_updL o 0 v.toInt64))) rfl ht) myX11_thrown wm7_137 ⟨_, _, _, _, (hM.ok k11), rfl, rfl, rfl, rfl⟩ rfl (kR rfl) (by decide) (kR rfl) rfl dL_law_2727 ?_
  refine r_iload C (k := 1) rfl dL_law_2730 ?_
  refine r_icmp_eq C (tgt := 2737) rfl dL_law_2732 (fun _ => ?_) (fun h => absurd rfl h)
  refine r_iload C (k := 1) rfl dL_law_2737 ?_
  refine r_if_ne C (tgt := 2754) rfl dL_law_2739 (fun h => absurd rfl h) (fun _ => ?_)
  refine r_aload_n C (k := 6) rfl rfl dL_law_2742 ?_
  refine r_iconst C (v := 0) rfl dL_law_2743 ?_
  refine r_lald C (o := (vp_updL o 0 v.toInt64)) (hM.1 |> fun _ => hW.2.2.2.1 _ hO) rfl dL_law_2744 ?_
  refine r_iload C (k := 0) rfl dL_law_2745 ?_
  refine r_i2l C (v := v.toInt64) rfl dL_law_2747 ?_
  refine r_lcmp C dL_law_2748 ?_
  refine r_if_eq C (tgt := 2754) rfl dL_law_2749 (fun _ => ?_) (fun h => absurd (lgself _) h)
  refine r_goto C (tgt := 3008) rfl dL_law_2754 ?_
  refine r_lo [2, 3, 4, 5, 6] (lo' := [(4, .int i), (0, .ref b), (1, .ref (wAd w (7, 11, 6, 0))), (2, .ref (wAd w (11, 12, 0, 0))), (3, .ref (wAd w (14, 13, 0, 0)))]) rfl ?_
  exact kk
theorem la55X2 {w : WP} (hW : gW w) (hM : gWM w) (hS : gS w) (hZ : gZ w) (hO : wFr w (14, 13, 0, 0)) {X : CX} (C : gC w X cL_law "HedgeMessagesLaw" (some .boolean) 15 9) {b L : Nat} {xs : Nat → Int32} (hX : gSc X b L xs) {S : Nat → Nat → HV} {τ : HV} {o : Nat → Int64} {i : Int32} {p1 : Int32} (h1 : vp_in (i + 1) L ∧ xs (i + 1).toNatClampNeg = p1) {p2 : Int32} (h2 : vp_in (i + 2) L ∧ xs (i + 2).toNatClampNeg = p2) (N : Nat) {S' : Nat → Nat → HV} (hF : F_X10_cancelMessage p1 p2 S = some (.inr (2, S'))) {b9 : Int32} {τ' : HV} (hG : F_X11_cancelMessage N p1 p2 τ = some (b9, τ')) (ht : F_X11_thrown τ' = 1) {Q1 : State → Prop} {c n : Nat} (hq1 : qOk X (Q1, c + 1, n + 6)) (kk : gU w X (Q1, c + 1, n + 6) (cA w (S', τ', o)) 3008 [(4, .int i), (0, .ref b), (1, .ref (wAd w (7, 11, 6, 0))), (2, .ref (wAd w (11, 12, 0, 0))), (3, .ref (wAd w (14, 13, 0, 0)))] []) : gU w X (Q1, c, n) (cA w (S, τ, o)) 2689 [(4, .int i), (0, .ref b), (1, .ref (wAd w (7, 11, 6, 0))), (2, .ref (wAd w (11, 12, 0, 0))), (3, .ref (wAd w (14, 13, 0, 0)))] [] := by
  have hq : qOk X (Q1, c + 1, n + 6) := hq1
  refine r_aload_n C (k := 2) rfl rfl dL_law_2689 ?_
  refine r_aload_n C (k := 1) rfl rfl dL_law_2690 ?_
  refine r_iload C (k := 0) rfl dL_law_2691 ?_
  refine r_iconst C (v := 1) rfl dL_law_2693 ?_
  refine r_iadd C dL_law_2694 ?_
  refine r_sld C hX h1.1 h1.2 dL_law_2695 ?_
  refine r_aload_n C (k := 1) rfl rfl dL_law_2696 ?_
  refine r_iload C (k := 0) rfl dL_law_2697 ?_
  refine r_iconst C (v := 2) rfl dL_law_2699 ?_
  refine r_iadd C dL_law_2700 ?_
  refine r_sld C hX h2.1 h2.2 dL_law_2701 ?_
  refine r_aload_n C (k := 4) rfl rfl dL_law_2702 ?_
  refine r_callH C (ny := 4) (d' := 8) (mc := 1) (ms := 6) [.ref (wAd w (7, 11, 6, 0)), .int p1, .int p2, .ref (wAd w (14, 13, 0, 0))] (xL_cancelMessage_2 hW hS hZ (Ω := (S, τ, o)) rfl p1 p2 hF) cwL_cancelMessage rfl wm1_0 wm6_127 ⟨by decide, by decide, by decide +kernel⟩ wm6_126 rfl (kR rfl) (by decide) (kR rfl) rfl dL_law_2703 hq1 ?_
  refine r_istore C (lo' := [(5, .int 1), (4, .int i), (0, .ref b), (1, .ref (wAd w (7, 11, 6, 0))), (2, .ref (wAd w (11, 12, 0, 0))), (3, .ref (wAd w (14, 13, 0, 0)))]) (by decide) rfl dL_law_2706 ?_
  refine r_aload_n C (k := 4) rfl rfl dL_law_2708 ?_
  refine r_aload_n C (k := 2) rfl rfl dL_law_2709 ?_
  refine r_iload C (k := 1) rfl dL_law_2710 ?_
  refine r_iconst C (v := 1) rfl dL_law_2712 ?_
  refine r_iadd C dL_law_2713 ?_
  refine r_sld C hX h1.1 h1.2 dL_law_2714 ?_
  refine r_aload_n C (k := 2) rfl rfl dL_law_2715 ?_
  refine r_iload C (k := 1) rfl dL_law_2716 ?_
  refine r_iconst C (v := 2) rfl dL_law_2718 ?_
  refine r_iadd C dL_law_2719 ?_
  refine r_sld C hX h2.1 h2.2 dL_law_2720 ?_
  refine r_callV C (d' := 3) [.int p1, .int p2] (c_X11_cancelMessage hM (Ω := (S', τ, o)) rfl N p1 p2 hG rfl) myX11_cancelMessage wm9_158 ⟨_, _, _, _, (hM.ok k11), rfl, rfl, rfl, rfl⟩ rfl (kR rfl) (by decide) (kR rfl) rfl dL_law_2721 ?_
  refine r_istore C (lo' := [(6, .int b9), (5, .int 1), (4, .int i), (0, .ref b), (1, .ref (wAd w (7, 11, 6, 0))), (2, .ref (wAd w (11, 12, 0, 0))), (3, .ref (wAd w (14, 13, 0, 0)))]) (by decide) rfl dL_law_2724 ?_
  refine r_aload_n C (k := 5) rfl rfl dL_law_2726 ?_
  refine r_callV C (d' := 0) [] (c_X11_thrown hM (Ω := (S', τ', o)) rfl ht) myX11_thrown wm7_137 ⟨_, _, _, _, (hM.ok k11), rfl, rfl, rfl, rfl⟩ rfl (kR rfl) (by decide) (kR rfl) rfl dL_law_2727 ?_
  refine r_iload C (k := 1) rfl dL_law_2730 ?_
  refine r_icmp_eq C (tgt := 2737) rfl dL_law_2732 (fun _ => ?_) (fun h => absurd rfl h)
  refine r_iload C (k := 1) rfl dL_law_2737 ?_
  refine r_if_ne C (tgt := 2754) rfl dL_law_2739 (fun _ => ?_) (fun h => absurd h (by decide))
  refine r_goto C (tgt := 3008) rfl dL_law_2754 ?_
  refine r_lo [2, 3, 4, 5, 6] (lo' := [(4, .int i), (0, .ref b), (1, .ref (wAd w (7, 11, 6, 0))), (2, .ref (wAd w (11, 12, 0, 0))), (3, .ref (wAd w (14, 13, 0, 0)))]) rfl ?_
  exact kk
theorem la55X3 {w : WP} (hW : gW w) (hM : gWM w) (hS : gS w) (hZ : gZ w) (hO : wFr w (14, 13, 0, 0)) {X : CX} (C : gC w X cL_law "HedgeMessagesLaw" (some .boolean) 15 9) {b L : Nat} {xs : Nat → Int32} (hX : gSc X b L xs) {S : Nat → Nat → HV} {τ : HV} {o : Nat → Int64} {i : Int32} {p1 : Int32} (h1 : vp_in (i + 1) L ∧ xs (i + 1).toNatClampNeg = p1) {p2 : Int32} (h2 : vp_in (i + 2) L ∧ xs (i + 2).toNatClampNeg = p2) (N : Nat) {S' : Nat → Nat → HV} (hF : F_X10_cancelMessage p1 p2 S = some (.inr (3, S'))) {b9 : Int32} {τ' : HV} (hG : F_X11_cancelMessage N p1 p2 τ = some (b9, τ')) (ht : F_X11_thrown τ' = 2) {Q1 : State → Prop} {c n : Nat} (hq1 : qOk X (Q1, c + 1, n + 6)) (kk : gU w X (Q1, c + 1, n + 6) (cA w (S', τ', o)) 3008 [(4, .int i), (0, .ref b), (1, .ref (wAd w (7, 11, 6, 0))), (2, .ref (wAd w (11, 12, 0, 0))), (3, .ref (wAd w (14, 13, 0, 0)))] []) : gU w X (Q1, c, n) (cA w (S, τ, o)) 2689 [(4, .int i), (0, .ref b), (1, .ref (wAd w (7, 11, 6, 0))), (2, .ref (wAd w (11, 12, 0, 0))), (3, .ref (wAd w (14, 13, 0, 0)))] [] := by
  have hq : qOk X (Q1, c + 1, n + 6) := hq1
  refine r_aload_n C (k := 2) rfl rfl dL_law_2689 ?_
  refine r_aload_n C (k := 1) rfl rfl dL_law_2690 ?_
  refine r_iload C (k := 0) rfl dL_law_2691 ?_
  refine r_iconst C (v := 1) rfl dL_law_2693 ?_
  refine r_iadd C dL_law_2694 ?_
  refine r_sld C hX h1.1 h1.2 dL_law_2695 ?_
  refine r_aload_n C (k := 1) rfl rfl dL_law_2696 ?_
  refine r_iload C (k := 0) rfl dL_law_2697 ?_
  refine r_iconst C (v := 2) rfl dL_law_2699 ?_
  refine r_iadd C dL_law_2700 ?_
  refine r_sld C hX h2.1 h2.2 dL_law_2701 ?_
  refine r_aload_n C (k := 4) rfl rfl dL_law_2702 ?_
  refine r_callH C (ny := 4) (d' := 8) (mc := 1) (ms := 6) [.ref (wAd w (7, 11, 6, 0)), .int p1, .int p2, .ref (wAd w (14, 13, 0, 0))] (xL_cancelMessage_3 hW hS hZ (Ω := (S, τ, o)) rfl p1 p2 hF) cwL_cancelMessage rfl wm1_0 wm6_127 ⟨by decide, by decide, by decide +kernel⟩ wm6_126 rfl (kR rfl) (by decide) (kR rfl) rfl dL_law_2703 hq1 ?_
  refine r_istore C (lo' := [(5, .int 2), (4, .int i), (0, .ref b), (1, .ref (wAd w (7, 11, 6, 0))), (2, .ref (wAd w (11, 12, 0, 0))), (3, .ref (wAd w (14, 13, 0, 0)))]) (by decide) rfl dL_law_2706 ?_
  refine r_aload_n C (k := 4) rfl rfl dL_law_2708 ?_
  refine r_aload_n C (k := 2) rfl rfl dL_law_2709 ?_
  refine r_iload C (k := 1) rfl dL_law_2710 ?_
  refine r_iconst C (v := 1) rfl dL_law_2712 ?_
  refine r_iadd C dL_law_2713 ?_
  refine r_sld C hX h1.1 h1.2 dL_law_2714 ?_
  refine r_aload_n C (k := 2) rfl rfl dL_law_2715 ?_
  refine r_iload C (k := 1) rfl dL_law_2716 ?_
  refine r_iconst C (v := 2) rfl dL_law_2718 ?_
  refine r_iadd C dL_law_2719 ?_
  refine r_sld C hX h2.1 h2.2 dL_law_2720 ?_
  refine r_callV C (d' := 3) [.int p1, .int p2] (c_X11_cancelMessage hM (Ω := (S', τ, o)) rfl N p1 p2 hG rfl) myX11_cancelMessage wm9_158 ⟨_, _, _, _, (hM.ok k11), rfl, rfl, rfl, rfl⟩ rfl (kR rfl) (by decide) (kR rfl) rfl dL_law_2721 ?_
  refine r_istore C (lo' := [(6, .int b9), (5, .int 2), (4, .int i), (0, .ref b), (1, .ref (wAd w (7, 11, 6, 0))), (2, .ref (wAd w (11, 12, 0, 0))), (3, .ref (wAd w (14, 13, 0, 0)))]) (by decide) rfl dL_law_2724 ?_
  refine r_aload_n C (k := 5) rfl rfl dL_law_2726 ?_
  refine r_callV C (d' := 0) [] (c_X11_thrown hM (Ω := (S', τ', o)) rfl ht) myX11_thrown wm7_137 ⟨_, _, _, _, (hM.ok k11), rfl, rfl, rfl, rfl⟩ rfl (kR rfl) (by decide) (kR rfl) rfl dL_law_2727 ?_
  refine r_iload C (k := 1) rfl dL_law_2730 ?_
  refine r_icmp_eq C (tgt := 2737) rfl dL_law_2732 (fun _ => ?_) (fun h => absurd rfl h)
  refine r_iload C (k := 1) rfl dL_law_2737 ?_
  refine r_if_ne C (tgt := 2754) rfl dL_law_2739 (fun _ => ?_) (fun h => absurd h (by decide))
  refine r_goto C (tgt := 3008) rfl dL_law_2754 ?_
  refine r_lo [2, 3, 4, 5, 6] (lo' := [(4, .int i), (0, .ref b), (1, .ref (wAd w (7, 11, 6, 0))), (2, .ref (wAd w (11, 12, 0, 0))), (3, .ref (wAd w (14, 13, 0, 0)))]) rfl ?_
  exact kk
theorem la56N {w : WP} (hW : gW w) (hM : gWM w) (hS : gS w) (hZ : gZ w) (hO : wFr w (14, 13, 0, 0)) {X : CX} (C : gC w X cL_law "HedgeMessagesLaw" (some .boolean) 15 9) {b L : Nat} {xs : Nat → Int32} (hX : gSc X b L xs) {S : Nat → Nat → HV} {τ : HV} {o : Nat → Int64} {i : Int32} {p1 : Int32} (h1 : vp_in (i + 1) L ∧ xs (i + 1).toNatClampNeg = p1) (N : Nat) {v : Int32} {S' : Nat → Nat → HV} (hF : F_X10_setWorkLimit p1 S = some (.inl (v, S'))) {τ' : HV} (hG : F_X11_setWorkLimit N p1 τ = some (v, τ')) (ht : F_X11_thrown τ' = 0) {Q1 : State → Prop} {c n : Nat} (hq : qOk X (Q1, c, n)) (kk : gU w X (Q1, c, n) (cA w (S', τ', (vp_updL o 0 v.toInt64))) 3008 [(4, .int i), (0, .ref b), (1, .ref (wAd w (7, 11, 6, 0))), (2, .ref (wAd w (11, 12, 0, 0))), (3, .ref (wAd w (14, 13, 0, 0)))] []) : gU w X (Q1, c, n) (cA w (S, τ, o)) 2757 [(4, .int i), (0, .ref b), (1, .ref (wAd w (7, 11, 6, 0))), (2, .ref (wAd w (11, 12, 0, 0))), (3, .ref (wAd w (14, 13, 0, 0)))] [] := by
  refine r_aload_n C (k := 2) rfl rfl dL_law_2757 ?_
  refine r_aload_n C (k := 1) rfl rfl dL_law_2758 ?_
  refine r_iload C (k := 0) rfl dL_law_2759 ?_
  refine r_iconst C (v := 1) rfl dL_law_2761 ?_
  refine r_iadd C dL_law_2762 ?_
  refine r_sld C hX h1.1 h1.2 dL_law_2763 ?_
  refine r_aload_n C (k := 4) rfl rfl dL_law_2764 ?_
  refine r_callH C (ny := 3) (d' := 7) (mc := 0) (ms := 0) [.ref (wAd w (7, 11, 6, 0)), .int p1, .ref (wAd w (14, 13, 0, 0))] (kL_setWorkLimit hW hS hO (Ω := (S, τ, o)) rfl p1 hF) cwL_setWorkLimit rfl wm1_0 wm6_135 ⟨by decide, by decide, by decide +kernel⟩ wm6_134 rfl (kR rfl) (by decide) (kR rfl) rfl dL_law_2765 hq ?_
  refine r_istore C (lo' := [(5, .int 0), (4, .int i), (0, .ref b), (1, .ref (wAd w (7, 11, 6, 0))), (2, .ref (wAd w (11, 12, 0, 0))), (3, .ref (wAd w (14, 13, 0, 0)))]) (by decide) rfl dL_law_2768 ?_
  refine r_aload_n C (k := 4) rfl rfl dL_law_2770 ?_
  refine r_aload_n C (k := 2) rfl rfl dL_law_2771 ?_
  refine r_iload C (k := 1) rfl dL_law_2772 ?_
  refine r_iconst C (v := 1) rfl dL_law_2774 ?_
  refine r_iadd C dL_law_2775 ?_
  refine r_sld C hX h1.1 h1.2 dL_law_2776 ?_
  refine r_callV C (d' := 3) [.int p1] (c_X11_setWorkLimit hM (Ω := (S', τ, (vp_updL o 0 v.toInt64))) rfl N p1 hG rfl) myX11_setWorkLimit wm9_162 ⟨_, _, _, _, (hM.ok k11), rfl, rfl, rfl, rfl⟩ rfl (kR rfl) (by decide) (kR rfl) rfl dL_law_2777 ?_
  refine r_istore C (lo' := [(6, .int v), (5, .int 0), (4, .int i), (0, .ref b), (1, .ref (wAd w (7, 11, 6, 0))), (2, .ref (wAd w (11, 12, 0, 0))), (3, .ref (wAd w (14, 13, 0, 0)))]) (by decide) rfl dL_law_2780 ?_
  refine r_aload_n C (k := 5) rfl rfl dL_law_2782 ?_
  refine r_callV C (d' := 0) [] (c_X11_thrown hM (Ω := (S', τ', (vp_updL o 0 v.toInt64))) rfl ht) myX11_thrown wm7_137 ⟨_, _, _, _, (hM.ok k11), rfl, rfl, rfl, rfl⟩ rfl (kR rfl) (by decide) (kR rfl) rfl dL_law_2783 ?_
  refine r_iload C (k := 1) rfl dL_law_2786 ?_
  refine r_icmp_eq C (tgt := 2793) rfl dL_law_2788 (fun _ => ?_) (fun h => absurd rfl h)
  refine r_iload C (k := 1) rfl dL_law_2793 ?_
  refine r_if_ne C (tgt := 2810) rfl dL_law_2795 (fun h => absurd rfl h) (fun _ => ?_)
  refine r_aload_n C (k := 6) rfl rfl dL_law_2798 ?_
  refine r_iconst C (v := 0) rfl dL_law_2799 ?_
  refine r_lald C (o := (vp_updL o 0 v.toInt64)) (hM.1 |> fun _ => hW.2.2.2.1 _ hO) rfl dL_law_2800 ?_
  refine r_iload C (k := 0) rfl dL_law_2801 ?_
  refine r_i2l C (v := v.toInt64) rfl dL_law_2803 ?_
  refine r_lcmp C dL_law_2804 ?_
  refine r_if_eq C (tgt := 2810) rfl dL_law_2805 (fun _ => ?_) (fun h => absurd (lgself _) h)
  refine r_goto C (tgt := 3008) rfl dL_law_2810 ?_
  refine r_lo [2, 3, 4, 5, 6] (lo' := [(4, .int i), (0, .ref b), (1, .ref (wAd w (7, 11, 6, 0))), (2, .ref (wAd w (11, 12, 0, 0))), (3, .ref (wAd w (14, 13, 0, 0)))]) rfl ?_
  exact kk
theorem la56X2 {w : WP} (hW : gW w) (hM : gWM w) (hS : gS w) (hZ : gZ w) (hO : wFr w (14, 13, 0, 0)) {X : CX} (C : gC w X cL_law "HedgeMessagesLaw" (some .boolean) 15 9) {b L : Nat} {xs : Nat → Int32} (hX : gSc X b L xs) {S : Nat → Nat → HV} {τ : HV} {o : Nat → Int64} {i : Int32} {p1 : Int32} (h1 : vp_in (i + 1) L ∧ xs (i + 1).toNatClampNeg = p1) (N : Nat) {S' : Nat → Nat → HV} (hF : F_X10_setWorkLimit p1 S = some (.inr (2, S'))) {b9 : Int32} {τ' : HV} (hG : F_X11_setWorkLimit N p1 τ = some (b9, τ')) (ht : F_X11_thrown τ' = 1) {Q1 : State → Prop} {c n : Nat} (hq1 : qOk X (Q1, c + 1, n + 6)) (kk : gU w X (Q1, c + 1, n + 6) (cA w (S', τ', o)) 3008 [(4, .int i), (0, .ref b), (1, .ref (wAd w (7, 11, 6, 0))), (2, .ref (wAd w (11, 12, 0, 0))), (3, .ref (wAd w (14, 13, 0, 0)))] []) : gU w X (Q1, c, n) (cA w (S, τ, o)) 2757 [(4, .int i), (0, .ref b), (1, .ref (wAd w (7, 11, 6, 0))), (2, .ref (wAd w (11, 12, 0, 0))), (3, .ref (wAd w (14, 13, 0, 0)))] [] := by
  have hq : qOk X (Q1, c + 1, n + 6) := hq1
  refine r_aload_n C (k := 2) rfl rfl dL_law_2757 ?_
  refine r_aload_n C (k := 1) rfl rfl dL_law_2758 ?_
  refine r_iload C (k := 0) rfl dL_law_2759 ?_
  refine r_iconst C (v := 1) rfl dL_law_2761 ?_
  refine r_iadd C dL_law_2762 ?_
  refine r_sld C hX h1.1 h1.2 dL_law_2763 ?_
  refine r_aload_n C (k := 4) rfl rfl dL_law_2764 ?_
  refine r_callH C (ny := 3) (d' := 7) (mc := 1) (ms := 6) [.ref (wAd w (7, 11, 6, 0)), .int p1, .ref (wAd w (14, 13, 0, 0))] (xL_setWorkLimit_2 hW hS hZ (Ω := (S, τ, o)) rfl p1 hF) cwL_setWorkLimit rfl wm1_0 wm6_135 ⟨by decide, by decide, by decide +kernel⟩ wm6_134 rfl (kR rfl) (by decide) (kR rfl) rfl dL_law_2765 hq1 ?_
  refine r_istore C (lo' := [(5, .int 1), (4, .int i), (0, .ref b), (1, .ref (wAd w (7, 11, 6, 0))), (2, .ref (wAd w (11, 12, 0, 0))), (3, .ref (wAd w (14, 13, 0, 0)))]) (by decide) rfl dL_law_2768 ?_
  refine r_aload_n C (k := 4) rfl rfl dL_law_2770 ?_
  refine r_aload_n C (k := 2) rfl rfl dL_law_2771 ?_
  refine r_iload C (k := 1) rfl dL_law_2772 ?_
  refine r_iconst C (v := 1) rfl dL_law_2774 ?_
  refine r_iadd C dL_law_2775 ?_
  refine r_sld C hX h1.1 h1.2 dL_law_2776 ?_
  refine r_callV C (d' := 3) [.int p1] (c_X11_setWorkLimit hM (Ω := (S', τ, o)) rfl N p1 hG rfl) myX11_setWorkLimit wm9_162 ⟨_, _, _, _, (hM.ok k11), rfl, rfl, rfl, rfl⟩ rfl (kR rfl) (by decide) (kR rfl) rfl dL_law_2777 ?_
  refine r_istore C (lo' := [(6, .int b9), (5, .int 1), (4, .int i), (0, .ref b), (1, .ref (wAd w (7, 11, 6, 0))), (2, .ref (wAd w (11, 12, 0, 0))), (3, .ref (wAd w (14, 13, 0, 0)))]) (by decide) rfl dL_law_2780 ?_
  refine r_aload_n C (k := 5) rfl rfl dL_law_2782 ?_
  refine r_callV C (d' := 0) [] (c_X11_thrown hM (Ω := (S', τ', o)) rfl ht) myX11_thrown wm7_137 ⟨_, _, _, _, (hM.ok k11), rfl, rfl, rfl, rfl⟩ rfl (kR rfl) (by decide) (kR rfl) rfl dL_law_2783 ?_
  refine r_iload C (k := 1) rfl dL_law_2786 ?_
  refine r_icmp_eq C (tgt := 2793) rfl dL_law_2788 (fun _ => ?_) (fun h => absurd rfl h)
  refine r_iload C (k := 1) rfl dL_law_2793 ?_
  refine r_if_ne C (tgt := 2810) rfl dL_law_2795 (fun _ => ?_) (fun h => absurd h (by decide))
  refine r_goto C (tgt := 3008) rfl dL_law_2810 ?_
  refine r_lo [2, 3, 4, 5, 6] (lo' := [(4, .int i), (0, .ref b), (1, .ref (wAd w (7, 11, 6, 0))), (2, .ref (wAd w (11, 12, 0, 0))), (3, .ref (wAd w (14, 13, 0, 0)))]) rfl ?_
  exact kk
theorem la57N {w : WP} (hW : gW w) (hM : gWM w) (hS : gS w) (hZ : gZ w) (hO : wFr w (14, 13, 0, 0)) {X : CX} (C : gC w X cL_law "HedgeMessagesLaw" (some .boolean) 15 9) {b L : Nat} {xs : Nat → Int32} (hX : gSc X b L xs) {S : Nat → Nat → HV} {τ : HV} {o : Nat → Int64} {i : Int32} {p1 : Int32} (h1 : vp_in (i + 1) L ∧ xs (i + 1).toNatClampNeg = p1) (N : Nat) {v : Int32} {S' : Nat → Nat → HV} (hF : F_X10_endDays N p1 S = some (.inl (v, S'))) {τ' : HV} (hG : F_X11_endDays N p1 τ = some (v, τ')) (ht : F_X11_thrown τ' = 0) {Q1 : State → Prop} {c n : Nat} (hq : qOk X (Q1, c, n)) (kk : gU w X (Q1, c, n) (cA w (S', τ', (vp_updL o 0 v.toInt64))) 3008 [(4, .int i), (0, .ref b), (1, .ref (wAd w (7, 11, 6, 0))), (2, .ref (wAd w (11, 12, 0, 0))), (3, .ref (wAd w (14, 13, 0, 0)))] []) : gU w X (Q1, c, n) (cA w (S, τ, o)) 2813 [(4, .int i), (0, .ref b), (1, .ref (wAd w (7, 11, 6, 0))), (2, .ref (wAd w (11, 12, 0, 0))), (3, .ref (wAd w (14, 13, 0, 0)))] [] := by
  refine r_aload_n C (k := 2) rfl rfl dL_law_2813 ?_
  refine r_aload_n C (k := 1) rfl rfl dL_law_2814 ?_
  refine r_iload C (k := 0) rfl dL_law_2815 ?_
  refine r_iconst C (v := 1) rfl dL_law_2817 ?_
  refine r_iadd C dL_law_2818 ?_
  refine r_sld C hX h1.1 h1.2 dL_law_2819 ?_
  refine r_aload_n C (k := 4) rfl rfl dL_law_2820 ?_
  refine r_callH C (ny := 3) (d' := 8) (mc := 0) (ms := 0) [.ref (wAd w (7, 11, 6, 0)), .int p1, .ref (wAd w (14, 13, 0, 0))] (kL_endDays hW hS hO (Ω := (S, τ, o)) rfl N p1 hF) cwL_endDays rfl wm1_0 wm6_143 ⟨by decide, by decide, by decide +kernel⟩ wm6_142 rfl (kR rfl) (by decide) (kR rfl) rfl dL_law_2821 hq ?_
  refine r_istore C (lo' := [(5, .int 0), (4, .int i), (0, .ref b), (1, .ref (wAd w (7, 11, 6, 0))), (2, .ref (wAd w (11, 12, 0, 0))), (3, .ref (wAd w (14, 13, 0, 0)))]) (by decide) rfl dL_law_2824 ?_
  refine r_aload_n C (k := 4) rfl rfl dL_law_2826 ?_
  refine r_aload_n C (k := 2) rfl rfl dL_law_2827 ?_
  refine r_iload C (k := 1) rfl dL_law_2828 ?_
  refine r_iconst C (v := 1) rfl dL_law_2830 ?_
  refine r_iadd C dL_law_2831 ?_
  refine r_sld C hX h1.1 h1.2 dL_law_2832 ?_
  refine r_callV C (d' := 12) [.int p1] (c_X11_endDays hM (Ω := (S', τ, (vp_updL o 0 v.toInt64))) rfl N p1 hG rfl) myX11_endDays wm9_166 ⟨_, _, _, _, (hM.ok k11), rfl, rfl, rfl, rfl⟩ rfl (kR rfl) (by decide) (kR rfl) rfl dL_law_2833 ?_
  refine r_istore C (lo' := [(6, .int v), (5, .int 0), (4, .int i), (0, .ref b), (1, .ref (wAd w (7, 11, 6, 0))), (2, .ref (wAd w (11, 12, 0, 0))), (3, .ref (wAd w (14, 13, 0, 0)))]) (by decide) rfl dL_law_2836 ?_
  refine r_aload_n C (k := 5) rfl rfl dL_law_2838 ?_
  refine r_callV C (d' := 0) [] (c_X11_thrown hM (Ω := (S', τ', (vp_updL o 0 v.toInt64))) rfl ht) myX11_thrown wm7_137 ⟨_, _, _, _, (hM.ok k11), rfl, rfl, rfl, rfl⟩ rfl (kR rfl) (by decide) (kR rfl) rfl dL_law_2839 ?_
  refine r_iload C (k := 1) rfl dL_law_2842 ?_
  refine r_icmp_eq C (tgt := 2849) rfl dL_law_2844 (fun _ => ?_) (fun h => absurd rfl h)
  refine r_iload C (k := 1) rfl dL_law_2849 ?_
  refine r_if_ne C (tgt := 2866) rfl dL_law_2851 (fun h => absurd rfl h) (fun _ => ?_)
  refine r_aload_n C (k := 6) rfl rfl dL_law_2854 ?_
  refine r_iconst C (v := 0) rfl dL_law_2855 ?_
  refine r_lald C (o := (vp_updL o 0 v.toInt64)) (hM.1 |> fun _ => hW.2.2.2.1 _ hO) rfl dL_law_2856 ?_
  refine r_iload C (k := 0) rfl dL_law_2857 ?_
  refine r_i2l C (v := v.toInt64) rfl dL_law_2859 ?_
  refine r_lcmp C dL_law_2860 ?_
  refine r_if_eq C (tgt := 2866) rfl dL_law_2861 (fun _ => ?_) (fun h => absurd (lgself _) h)
  refine r_goto C (tgt := 3008) rfl dL_law_2866 ?_
  refine r_lo [2, 3, 4, 5, 6] (lo' := [(4, .int i), (0, .ref b), (1, .ref (wAd w (7, 11, 6, 0))), (2, .ref (wAd w (11, 12, 0, 0))), (3, .ref (wAd w (14, 13, 0, 0)))]) rfl ?_
  exact kk
theorem la57X2 {w : WP} (hW : gW w) (hM : gWM w) (hS : gS w) (hZ : gZ w) (hO : wFr w (14, 13, 0, 0)) {X : CX} (C : gC w X cL_law "HedgeMessagesLaw" (some .boolean) 15 9) {b L : Nat} {xs : Nat → Int32} (hX : gSc X b L xs) {S : Nat → Nat → HV} {τ : HV} {o : Nat → Int64} {i : Int32} {p1 : Int32} (h1 : vp_in (i + 1) L ∧ xs (i + 1).toNatClampNeg = p1) (N : Nat) {S' : Nat → Nat → HV} (hF : F_X10_endDays N p1 S = some (.inr (2, S'))) {b9 : Int32} {τ' : HV} (hG : F_X11_endDays N p1 τ = some (b9, τ')) (ht : F_X11_thrown τ' = 1) {Q1 : State → Prop} {c n : Nat} (hq1 : qOk X (Q1, c + 1, n + 6)) (kk : gU w X (Q1, c + 1, n + 6) (cA w (S', τ', o)) 3008 [(4, .int i), (0, .ref b), (1, .ref (wAd w (7, 11, 6, 0))), (2, .ref (wAd w (11, 12, 0, 0))), (3, .ref (wAd w (14, 13, 0, 0)))] []) : gU w X (Q1, c, n) (cA w (S, τ, o)) 2813 [(4, .int i), (0, .ref b), (1, .ref (wAd w (7, 11, 6, 0))), (2, .ref (wAd w (11, 12, 0, 0))), (3, .ref (wAd w (14, 13, 0, 0)))] [] := by
  have hq : qOk X (Q1, c + 1, n + 6) := hq1
  refine r_aload_n C (k := 2) rfl rfl dL_law_2813 ?_
  refine r_aload_n C (k := 1) rfl rfl dL_law_2814 ?_
  refine r_iload C (k := 0) rfl dL_law_2815 ?_
  refine r_iconst C (v := 1) rfl dL_law_2817 ?_
  refine r_iadd C dL_law_2818 ?_
  refine r_sld C hX h1.1 h1.2 dL_law_2819 ?_
  refine r_aload_n C (k := 4) rfl rfl dL_law_2820 ?_
  refine r_callH C (ny := 3) (d' := 8) (mc := 1) (ms := 6) [.ref (wAd w (7, 11, 6, 0)), .int p1, .ref (wAd w (14, 13, 0, 0))] (xL_endDays_2 hW hS hZ (Ω := (S, τ, o)) rfl N p1 hF) cwL_endDays rfl wm1_0 wm6_143 ⟨by decide, by decide, by decide +kernel⟩ wm6_142 rfl (kR rfl) (by decide) (kR rfl) rfl dL_law_2821 hq1 ?_
  refine r_istore C (lo' := [(5, .int 1), (4, .int i), (0, .ref b), (1, .ref (wAd w (7, 11, 6, 0))), (2, .ref (wAd w (11, 12, 0, 0))), (3, .ref (wAd w (14, 13, 0, 0)))]) (by decide) rfl dL_law_2824 ?_
  refine r_aload_n C (k := 4) rfl rfl dL_law_2826 ?_
  refine r_aload_n C (k := 2) rfl rfl dL_law_2827 ?_
  refine r_iload C (k := 1) rfl dL_law_2828 ?_
  refine r_iconst C (v := 1) rfl dL_law_2830 ?_
  refine r_iadd C dL_law_2831 ?_
  refine r_sld C hX h1.1 h1.2 dL_law_2832 ?_
  refine r_callV C (d' := 12) [.int p1] (c_X11_endDays hM (Ω := (S', τ, o)) rfl N p1 hG rfl) myX11_endDays wm9_166 ⟨_, _, _, _, (hM.ok k11), rfl, rfl, rfl, rfl⟩ rfl (kR rfl) (by decide) (kR rfl) rfl dL_law_2833 ?_
  refine r_istore C (lo' := [(6, .int b9), (5, .int 1), (4, .int i), (0, .ref b), (1, .ref (wAd w (7, 11, 6, 0))), (2, .ref (wAd w (11, 12, 0, 0))), (3, .ref (wAd w (14, 13, 0, 0)))]) (by decide) rfl dL_law_2836 ?_
  refine r_aload_n C (k := 5) rfl rfl dL_law_2838 ?_
  refine r_callV C (d' := 0) [] (c_X11_thrown hM (Ω := (S', τ', o)) rfl ht) myX11_thrown wm7_137 ⟨_, _, _, _, (hM.ok k11), rfl, rfl, rfl, rfl⟩ rfl (kR rfl) (by decide) (kR rfl) rfl dL_law_2839 ?_
  refine r_iload C (k := 1) rfl dL_law_2842 ?_
  refine r_icmp_eq C (tgt := 2849) rfl dL_law_2844 (fun _ => ?_) (fun h => absurd rfl h)
  refine r_iload C (k := 1) rfl dL_law_2849 ?_
  refine r_if_ne C (tgt := 2866) rfl dL_law_2851 (fun _ => ?_) (fun h => absurd h (by decide))
  refine r_goto C (tgt := 3008) rfl dL_law_2866 ?_
  refine r_lo [2, 3, 4, 5, 6] (lo' := [(4, .int i), (0, .ref b), (1, .ref (wAd w (7, 11, 6, 0))), (2, .ref (wAd w (11, 12, 0, 0))), (3, .ref (wAd w (14, 13, 0, 0)))]) rfl ?_
  exact kk
theorem la58N {w : WP} (hW : gW w) (hM : gWM w) (hS : gS w) (hZ : gZ w) (hO : wFr w (14, 13, 0, 0)) {X : CX} (C : gC w X cL_law "HedgeMessagesLaw" (some .boolean) 15 9) {b L : Nat} {xs : Nat → Int32} (hX : gSc X b L xs) {S : Nat → Nat → HV} {τ : HV} {o : Nat → Int64} {i : Int32} (N : Nat) {v : Int32} {S' : Nat → Nat → HV} (hF : F_X10_undo S = some (.inl (v, S'))) {τ' : HV} (hG : F_X11_undo N τ = some (v, τ')) (ht : F_X11_thrown τ' = 0) {Q1 : State → Prop} {c n : Nat} (hq : qOk X (Q1, c, n)) (kk : gU w X (Q1, c, n) (cA w (S', τ', (vp_updL o 0 v.toInt64))) 3008 [(4, .int i), (0, .ref b), (1, .ref (wAd w (7, 11, 6, 0))), (2, .ref (wAd w (11, 12, 0, 0))), (3, .ref (wAd w (14, 13, 0, 0)))] []) : gU w X (Q1, c, n) (cA w (S, τ, o)) 2869 [(4, .int i), (0, .ref b), (1, .ref (wAd w (7, 11, 6, 0))), (2, .ref (wAd w (11, 12, 0, 0))), (3, .ref (wAd w (14, 13, 0, 0)))] [] := by
  refine r_aload_n C (k := 2) rfl rfl dL_law_2869 ?_
  refine r_aload_n C (k := 4) rfl rfl dL_law_2870 ?_
  refine r_callH C (ny := 2) (d' := 7) (mc := 0) (ms := 0) [.ref (wAd w (7, 11, 6, 0)), .ref (wAd w (14, 13, 0, 0))] (kL_undo hW hS hO (Ω := (S, τ, o)) rfl  hF) cwL_undo rfl wm1_0 wm6_150 ⟨by decide, by decide, by decide +kernel⟩ wm6_149 rfl (kR rfl) (by decide) (kR rfl) rfl dL_law_2871 hq ?_
  refine r_istore C (lo' := [(5, .int 0), (4, .int i), (0, .ref b), (1, .ref (wAd w (7, 11, 6, 0))), (2, .ref (wAd w (11, 12, 0, 0))), (3, .ref (wAd w (14, 13, 0, 0)))]) (by decide) rfl dL_law_2874 ?_
  refine r_aload_n C (k := 4) rfl rfl dL_law_2876 ?_
  refine r_callV C (d' := 1) [] (c_X11_undo hM (Ω := (S', τ, (vp_updL o 0 v.toInt64))) rfl N  hG rfl) myX11_undo wm9_170 ⟨_, _, _, _, (hM.ok k11), rfl, rfl, rfl, rfl⟩ rfl (kR rfl) (by decide) (kR rfl) rfl dL_law_2877 ?_
  refine r_istore C (lo' := [(6, .int v), (5, .int 0), (4, .int i), (0, .ref b), (1, .ref (wAd w (7, 11, 6, 0))), (2, .ref (wAd w (11, 12, 0, 0))), (3, .ref (wAd w (14, 13, 0, 0)))]) (by decide) rfl dL_law_2880 ?_
  refine r_aload_n C (k := 5) rfl rfl dL_law_2882 ?_
  refine r_callV C (d' := 0) [] (c_X11_thrown hM (Ω := (S', τ', (vp_updL o 0 v.toInt64))) rfl ht) myX11_thrown wm7_137 ⟨_, _, _, _, (hM.ok k11), rfl, rfl, rfl, rfl⟩ rfl (kR rfl) (by decide) (kR rfl) rfl dL_law_2883 ?_
  refine r_iload C (k := 1) rfl dL_law_2886 ?_
  refine r_icmp_eq C (tgt := 2893) rfl dL_law_2888 (fun _ => ?_) (fun h => absurd rfl h)
  refine r_iload C (k := 1) rfl dL_law_2893 ?_
  refine r_if_ne C (tgt := 2910) rfl dL_law_2895 (fun h => absurd rfl h) (fun _ => ?_)
  refine r_aload_n C (k := 6) rfl rfl dL_law_2898 ?_
  refine r_iconst C (v := 0) rfl dL_law_2899 ?_
  refine r_lald C (o := (vp_updL o 0 v.toInt64)) (hM.1 |> fun _ => hW.2.2.2.1 _ hO) rfl dL_law_2900 ?_
  refine r_iload C (k := 0) rfl dL_law_2901 ?_
  refine r_i2l C (v := v.toInt64) rfl dL_law_2903 ?_
  refine r_lcmp C dL_law_2904 ?_
  refine r_if_eq C (tgt := 2910) rfl dL_law_2905 (fun _ => ?_) (fun h => absurd (lgself _) h)
  refine r_goto C (tgt := 3008) rfl dL_law_2910 ?_
  refine r_lo [2, 3, 4, 5, 6] (lo' := [(4, .int i), (0, .ref b), (1, .ref (wAd w (7, 11, 6, 0))), (2, .ref (wAd w (11, 12, 0, 0))), (3, .ref (wAd w (14, 13, 0, 0)))]) rfl ?_
  exact kk
theorem la58X1 {w : WP} (hW : gW w) (hM : gWM w) (hS : gS w) (hZ : gZ w) (hO : wFr w (14, 13, 0, 0)) {X : CX} (C : gC w X cL_law "HedgeMessagesLaw" (some .boolean) 15 9) {b L : Nat} {xs : Nat → Int32} (hX : gSc X b L xs) {S : Nat → Nat → HV} {τ : HV} {o : Nat → Int64} {i : Int32} (N : Nat) {S' : Nat → Nat → HV} (hF : F_X10_undo S = some (.inr (1, S'))) {b9 : Int32} {τ' : HV} (hG : F_X11_undo N τ = some (b9, τ')) (ht : F_X11_thrown τ' = 1) {Q1 : State → Prop} {c n : Nat} (hq1 : qOk X (Q1, c + 1, n + 6)) (kk : gU w X (Q1, c + 1, n + 6) (cA w (S', τ', o)) 3008 [(4, .int i), (0, .ref b), (1, .ref (wAd w (7, 11, 6, 0))), (2, .ref (wAd w (11, 12, 0, 0))), (3, .ref (wAd w (14, 13, 0, 0)))] []) : gU w X (Q1, c, n) (cA w (S, τ, o)) 2869 [(4, .int i), (0, .ref b), (1, .ref (wAd w (7, 11, 6, 0))), (2, .ref (wAd w (11, 12, 0, 0))), (3, .ref (wAd w (14, 13, 0, 0)))] [] := by
  have hq : qOk X (Q1, c + 1, n + 6) := hq1
  refine r_aload_n C (k := 2) rfl rfl dL_law_2869 ?_
  refine r_aload_n C (k := 4) rfl rfl dL_law_2870 ?_
  refine r_callH C (ny := 2) (d' := 7) (mc := 1) (ms := 6) [.ref (wAd w (7, 11, 6, 0)), .ref (wAd w (14, 13, 0, 0))] (xL_undo_1 hW hS hZ (Ω := (S, τ, o)) rfl  hF) cwL_undo rfl wm1_0 wm6_150 ⟨by decide, by decide, by decide +kernel⟩ wm6_149 rfl (kR rfl) (by decide) (kR rfl) rfl dL_law_2871 hq1 ?_
  refine r_istore C (lo' := [(5, .int 1), (4, .int i), (0, .ref b), (1, .ref (wAd w (7, 11, 6, 0))), (2, .ref (wAd w (11, 12, 0, 0))), (3, .ref (wAd w (14, 13, 0, 0)))]) (by decide) rfl dL_law_2874 ?_
  refine r_aload_n C (k := 4) rfl rfl dL_law_2876 ?_
  refine r_callV C (d' := 1) [] (c_X11_undo hM (Ω := (S', τ, o)) rfl N  hG rfl) myX11_undo wm9_170 ⟨_, _, _, _, (hM.ok k11), rfl, rfl, rfl, rfl⟩ rfl (kR rfl) (by decide) (kR rfl) rfl dL_law_2877 ?_
  refine r_istore C (lo' := [(6, .int b9), (5, .int 1), (4, .int i), (0, .ref b), (1, .ref (wAd w (7, 11, 6, 0))), (2, .ref (wAd w (11, 12, 0, 0))), (3, .ref (wAd w (14, 13, 0, 0)))]) (by decide) rfl dL_law_2880 ?_
  refine r_aload_n C (k := 5) rfl rfl dL_law_2882 ?_
  refine r_callV C (d' := 0) [] (c_X11_thrown hM (Ω := (S', τ', o)) rfl ht) myX11_thrown wm7_137 ⟨_, _, _, _, (hM.ok k11), rfl, rfl, rfl, rfl⟩ rfl (kR rfl) (by decide) (kR rfl) rfl dL_law_2883 ?_
  refine r_iload C (k := 1) rfl dL_law_2886 ?_
  refine r_icmp_eq C (tgt := 2893) rfl dL_law_2888 (fun _ => ?_) (fun h => absurd rfl h)
  refine r_iload C (k := 1) rfl dL_law_2893 ?_
  refine r_if_ne C (tgt := 2910) rfl dL_law_2895 (fun _ => ?_) (fun h => absurd h (by decide))
  refine r_goto C (tgt := 3008) rfl dL_law_2910 ?_
  refine r_lo [2, 3, 4, 5, 6] (lo' := [(4, .int i), (0, .ref b), (1, .ref (wAd w (7, 11, 6, 0))), (2, .ref (wAd w (11, 12, 0, 0))), (3, .ref (wAd w (14, 13, 0, 0)))]) rfl ?_
  exact kk
theorem la59N {w : WP} (hW : gW w) (hM : gWM w) (hS : gS w) (hZ : gZ w) (hO : wFr w (14, 13, 0, 0)) {X : CX} (C : gC w X cL_law "HedgeMessagesLaw" (some .boolean) 15 9) {b L : Nat} {xs : Nat → Int32} (hX : gSc X b L xs) {S : Nat → Nat → HV} {τ : HV} {o : Nat → Int64} {i : Int32} (N : Nat) {v : Int32} {S' : Nat → Nat → HV} (hF : F_X10_save S = (v, S')) {τ' : HV} (hG : F_X11_save N τ = some (v, τ')) {Q1 : State → Prop} {c n : Nat} (hq : qOk X (Q1, c, n)) (kk : gU w X (Q1, c, n) (cA w (S', τ', o)) 3008 [(4, .int i), (0, .ref b), (1, .ref (wAd w (7, 11, 6, 0))), (2, .ref (wAd w (11, 12, 0, 0))), (3, .ref (wAd w (14, 13, 0, 0)))] []) : gU w X (Q1, c, n) (cA w (S, τ, o)) 2913 [(4, .int i), (0, .ref b), (1, .ref (wAd w (7, 11, 6, 0))), (2, .ref (wAd w (11, 12, 0, 0))), (3, .ref (wAd w (14, 13, 0, 0)))] [] := by
  refine r_aload_n C (k := 2) rfl rfl dL_law_2913 ?_
  refine r_callV C (d' := 5) [] (c_X10_save hW (Ω := (S, τ, o)) rfl  hF rfl) myX10_save wm3_114 ⟨_, _, _, _, (hW.ok k7), rfl, rfl, rfl, rfl⟩ rfl (kR rfl) (by decide) (kR rfl) rfl dL_law_2914 ?_
  refine r_aload_n C (k := 3) rfl rfl dL_law_2917 ?_
  refine r_callV C (d' := 1) [] (c_X11_save hM (Ω := (S', τ, o)) rfl N  hG rfl) myX11_save wm9_174 ⟨_, _, _, _, (hM.ok k11), rfl, rfl, rfl, rfl⟩ rfl (kR rfl) (by decide) (kR rfl) rfl dL_law_2918 ?_
  refine r_icmp_eq C (tgt := 3008) rfl dL_law_2921 (fun _ => ?_) (fun h => absurd rfl h)
  exact kk
theorem la60N {w : WP} (hW : gW w) (hM : gWM w) (hS : gS w) (hZ : gZ w) (hO : wFr w (14, 13, 0, 0)) {X : CX} (C : gC w X cL_law "HedgeMessagesLaw" (some .boolean) 15 9) {b L : Nat} {xs : Nat → Int32} (hX : gSc X b L xs) {S : Nat → Nat → HV} {τ : HV} {o : Nat → Int64} {i : Int32} (N : Nat) {v : Int32} {S' : Nat → Nat → HV} (hF : F_X10_restore S = some (.inl (v, S'))) {τ' : HV} (hG : F_X11_restore N τ = some (v, τ')) (ht : F_X11_thrown τ' = 0) {Q1 : State → Prop} {c n : Nat} (hq : qOk X (Q1, c, n)) (kk : gU w X (Q1, c, n) (cA w (S', τ', (vp_updL o 0 v.toInt64))) 3008 [(4, .int i), (0, .ref b), (1, .ref (wAd w (7, 11, 6, 0))), (2, .ref (wAd w (11, 12, 0, 0))), (3, .ref (wAd w (14, 13, 0, 0)))] []) : gU w X (Q1, c, n) (cA w (S, τ, o)) 2926 [(4, .int i), (0, .ref b), (1, .ref (wAd w (7, 11, 6, 0))), (2, .ref (wAd w (11, 12, 0, 0))), (3, .ref (wAd w (14, 13, 0, 0)))] [] := by
  refine r_aload_n C (k := 2) rfl rfl dL_law_2926 ?_
  refine r_aload_n C (k := 4) rfl rfl dL_law_2927 ?_
  refine r_callH C (ny := 2) (d' := 7) (mc := 0) (ms := 0) [.ref (wAd w (7, 11, 6, 0)), .ref (wAd w (14, 13, 0, 0))] (kL_restore hW hS hO (Ω := (S, τ, o)) rfl  hF) cwL_restore rfl wm1_0 wm6_162 ⟨by decide, by decide, by decide +kernel⟩ wm6_161 rfl (kR rfl) (by decide) (kR rfl) rfl dL_law_2928 hq ?_
  refine r_istore C (lo' := [(5, .int 0), (4, .int i), (0, .ref b), (1, .ref (wAd w (7, 11, 6, 0))), (2, .ref (wAd w (11, 12, 0, 0))), (3, .ref (wAd w (14, 13, 0, 0)))]) (by decide) rfl dL_law_2931 ?_
  refine r_aload_n C (k := 4) rfl rfl dL_law_2933 ?_
  refine r_callV C (d' := 1) [] (c_X11_restore hM (Ω := (S', τ, (vp_updL o 0 v.toInt64))) rfl N  hG rfl) myX11_restore wm9_178 ⟨_, _, _, _, (hM.ok k11), rfl, rfl, rfl, rfl⟩ rfl (kR rfl) (by decide) (kR rfl) rfl dL_law_2934 ?_
  refine r_istore C (lo' := [(6, .int v), (5, .int 0), (4, .int i), (0, .ref b), (1, .ref (wAd w (7, 11, 6, 0))), (2, .ref (wAd w (11, 12, 0, 0))), (3, .ref (wAd w (14, 13, 0, 0)))]) (by decide) rfl dL_law_2937 ?_
  refine r_aload_n C (k := 5) rfl rfl dL_law_2939 ?_
  refine r_callV C (d' := 0) [] (c_X11_thrown hM (Ω := (S', τ', (vp_updL o 0 v.toInt64))) rfl ht) myX11_thrown wm7_137 ⟨_, _, _, _, (hM.ok k11), rfl, rfl, rfl, rfl⟩ rfl (kR rfl) (by decide) (kR rfl) rfl dL_law_2940 ?_
  refine r_iload C (k := 1) rfl dL_law_2943 ?_
  refine r_icmp_eq C (tgt := 2950) rfl dL_law_2945 (fun _ => ?_) (fun h => absurd rfl h)
  refine r_iload C (k := 1) rfl dL_law_2950 ?_
  refine r_if_ne C (tgt := 2967) rfl dL_law_2952 (fun h => absurd rfl h) (fun _ => ?_)
  refine r_aload_n C (k := 6) rfl rfl dL_law_2955 ?_
  refine r_iconst C (v := 0) rfl dL_law_2956 ?_
  refine r_lald C (o := (vp_updL o 0 v.toInt64)) (hM.1 |> fun _ => hW.2.2.2.1 _ hO) rfl dL_law_2957 ?_
  refine r_iload C (k := 0) rfl dL_law_2958 ?_
  refine r_i2l C (v := v.toInt64) rfl dL_law_2960 ?_
  refine r_lcmp C dL_law_2961 ?_
  refine r_if_eq C (tgt := 2967) rfl dL_law_2962 (fun _ => ?_) (fun h => absurd (lgself _) h)
  refine r_goto C (tgt := 3008) rfl dL_law_2967 ?_
  refine r_lo [2, 3, 4, 5, 6] (lo' := [(4, .int i), (0, .ref b), (1, .ref (wAd w (7, 11, 6, 0))), (2, .ref (wAd w (11, 12, 0, 0))), (3, .ref (wAd w (14, 13, 0, 0)))]) rfl ?_
  exact kk
theorem la60X1 {w : WP} (hW : gW w) (hM : gWM w) (hS : gS w) (hZ : gZ w) (hO : wFr w (14, 13, 0, 0)) {X : CX} (C : gC w X cL_law "HedgeMessagesLaw" (some .boolean) 15 9) {b L : Nat} {xs : Nat → Int32} (hX : gSc X b L xs) {S : Nat → Nat → HV} {τ : HV} {o : Nat → Int64} {i : Int32} (N : Nat) {S' : Nat → Nat → HV} (hF : F_X10_restore S = some (.inr (1, S'))) {b9 : Int32} {τ' : HV} (hG : F_X11_restore N τ = some (b9, τ')) (ht : F_X11_thrown τ' = 1) {Q1 : State → Prop} {c n : Nat} (hq1 : qOk X (Q1, c + 1, n + 6)) (kk : gU w X (Q1, c + 1, n + 6) (cA w (S', τ', o)) 3008 [(4, .int i), (0, .ref b), (1, .ref (wAd w (7, 11, 6, 0))), (2, .ref (wAd w (11, 12, 0, 0))), (3, .ref (wAd w (14, 13, 0, 0)))] []) : gU w X (Q1, c, n) (cA w (S, τ, o)) 2926 [(4, .int i), (0, .ref b), (1, .ref (wAd w (7, 11, 6, 0))), (2, .ref (wAd w (11, 12, 0, 0))), (3, .ref (wAd w (14, 13, 0, 0)))] [] := by
  have hq : qOk X (Q1, c + 1, n + 6) := hq1
  refine r_aload_n C (k := 2) rfl rfl dL_law_2926 ?_
  refine r_aload_n C (k := 4) rfl rfl dL_law_2927 ?_
  refine r_callH C (ny := 2) (d' := 7) (mc := 1) (ms := 6) [.ref (wAd w (7, 11, 6, 0)), .ref (wAd w (14, 13, 0, 0))] (xL_restore_1 hW hS hZ (Ω := (S, τ, o)) rfl  hF) cwL_restore rfl wm1_0 wm6_162 ⟨by decide, by decide, by decide +kernel⟩ wm6_161 rfl (kR rfl) (by decide) (kR rfl) rfl dL_law_2928 hq1 ?_
  refine r_istore C (lo' := [(5, .int 1), (4, .int i), (0, .ref b), (1, .ref (wAd w (7, 11, 6, 0))), (2, .ref (wAd w (11, 12, 0, 0))), (3, .ref (wAd w (14, 13, 0, 0)))]) (by decide) rfl dL_law_2931 ?_
  refine r_aload_n C (k := 4) rfl rfl dL_law_2933 ?_
  refine r_callV C (d' := 1) [] (c_X11_restore hM (Ω := (S', τ, o)) rfl N  hG rfl) myX11_restore wm9_178 ⟨_, _, _, _, (hM.ok k11), rfl, rfl, rfl, rfl⟩ rfl (kR rfl) (by decide) (kR rfl) rfl dL_law_2934 ?_
  refine r_istore C (lo' := [(6, .int b9), (5, .int 1), (4, .int i), (0, .ref b), (1, .ref (wAd w (7, 11, 6, 0))), (2, .ref (wAd w (11, 12, 0, 0))), (3, .ref (wAd w (14, 13, 0, 0)))]) (by decide) rfl dL_law_2937 ?_
  refine r_aload_n C (k := 5) rfl rfl dL_law_2939 ?_
  refine r_callV C (d' := 0) [] (c_X11_thrown hM (Ω := (S', τ', o)) rfl ht) myX11_thrown wm7_137 ⟨_, _, _, _, (hM.ok k11), rfl, rfl, rfl, rfl⟩ rfl (kR rfl) (by decide) (kR rfl) rfl dL_law_2940 ?_
  refine r_iload C (k := 1) rfl dL_law_2943 ?_
  refine r_icmp_eq C (tgt := 2950) rfl dL_law_2945 (fun _ => ?_) (fun h => absurd rfl h)
  refine r_iload C (k := 1) rfl dL_law_2950 ?_
  refine r_if_ne C (tgt := 2967) rfl dL_law_2952 (fun _ => ?_) (fun h => absurd h (by decide))
  refine r_goto C (tgt := 3008) rfl dL_law_2967 ?_
  refine r_lo [2, 3, 4, 5, 6] (lo' := [(4, .int i), (0, .ref b), (1, .ref (wAd w (7, 11, 6, 0))), (2, .ref (wAd w (11, 12, 0, 0))), (3, .ref (wAd w (14, 13, 0, 0)))]) rfl ?_
  exact kk
theorem la61N {w : WP} (hW : gW w) (hM : gWM w) (hS : gS w) (hZ : gZ w) (hO : wFr w (14, 13, 0, 0)) {X : CX} (C : gC w X cL_law "HedgeMessagesLaw" (some .boolean) 15 9) {b L : Nat} {xs : Nat → Int32} (hX : gSc X b L xs) {S : Nat → Nat → HV} {τ : HV} {o : Nat → Int64} {i : Int32} (N : Nat) {v : Int32} {S' : Nat → Nat → HV} (hF : F_X10_formatHedge N S = some (v, S')) {τ' : HV} (hG : F_X11_formatHedge N τ = some (v, τ')) {Q1 : State → Prop} {c n : Nat} (hq : qOk X (Q1, c, n)) (kk : gU w X (Q1, c, n) (cA w (S', τ', o)) 3008 [(4, .int i), (0, .ref b), (1, .ref (wAd w (7, 11, 6, 0))), (2, .ref (wAd w (11, 12, 0, 0))), (3, .ref (wAd w (14, 13, 0, 0)))] []) : gU w X (Q1, c, n) (cA w (S, τ, o)) 2970 [(4, .int i), (0, .ref b), (1, .ref (wAd w (7, 11, 6, 0))), (2, .ref (wAd w (11, 12, 0, 0))), (3, .ref (wAd w (14, 13, 0, 0)))] [] := by
  refine r_aload_n C (k := 2) rfl rfl dL_law_2970 ?_
  refine r_callV C (d' := 3) [] (c_X10_formatHedge hW (Ω := (S, τ, o)) rfl N  hF rfl) myX10_formatHedge wm3_137 ⟨_, _, _, _, (hW.ok k7), rfl, rfl, rfl, rfl⟩ rfl (kR rfl) (by decide) (kR rfl) rfl dL_law_2971 ?_
  refine r_aload_n C (k := 3) rfl rfl dL_law_2974 ?_
  refine r_callV C (d' := 4) [] (c_X11_formatHedge hM (Ω := (S', τ, o)) rfl N  hG rfl) myX11_formatHedge wm9_182 ⟨_, _, _, _, (hM.ok k11), rfl, rfl, rfl, rfl⟩ rfl (kR rfl) (by decide) (kR rfl) rfl dL_law_2975 ?_
  refine r_icmp_eq C (tgt := 3008) rfl dL_law_2978 (fun _ => ?_) (fun h => absurd rfl h)
  exact kk
theorem la62N {w : WP} (hW : gW w) (hM : gWM w) (hS : gS w) (hZ : gZ w) (hO : wFr w (14, 13, 0, 0)) {X : CX} (C : gC w X cL_law "HedgeMessagesLaw" (some .boolean) 15 9) {b L : Nat} {xs : Nat → Int32} (hX : gSc X b L xs) {S : Nat → Nat → HV} {τ : HV} {o : Nat → Int64} {i : Int32} {p1 : Int32} (h1 : vp_in (i + 1) L ∧ xs (i + 1).toNatClampNeg = p1) {v : Int32} (hF : F_X10_outputByte p1 S = v) {τ' : HV} (hG : F_X11_outputByte p1 τ = some (v, τ')) {Q1 : State → Prop} {c n : Nat} (hq : qOk X (Q1, c, n)) (kk : gU w X (Q1, c, n) (cA w (S, τ', o)) 3008 [(4, .int i), (0, .ref b), (1, .ref (wAd w (7, 11, 6, 0))), (2, .ref (wAd w (11, 12, 0, 0))), (3, .ref (wAd w (14, 13, 0, 0)))] []) : gU w X (Q1, c, n) (cA w (S, τ, o)) 2983 [(4, .int i), (0, .ref b), (1, .ref (wAd w (7, 11, 6, 0))), (2, .ref (wAd w (11, 12, 0, 0))), (3, .ref (wAd w (14, 13, 0, 0)))] [] := by
  refine r_aload_n C (k := 2) rfl rfl dL_law_2983 ?_
  refine r_aload_n C (k := 1) rfl rfl dL_law_2984 ?_
  refine r_iload C (k := 0) rfl dL_law_2985 ?_
  refine r_iconst C (v := 1) rfl dL_law_2987 ?_
  refine r_iadd C dL_law_2988 ?_
  refine r_sld C hX h1.1 h1.2 dL_law_2989 ?_
  refine r_callV C (d' := 1) [.int p1] (c_X10_outputByte hW (Ω := (S, τ, o)) rfl p1 hF) myX10_outputByte wm3_146 ⟨_, _, _, _, (hW.ok k7), rfl, rfl, rfl, rfl⟩ rfl (kR rfl) (by decide) (kR rfl) rfl dL_law_2990 ?_
  refine r_aload_n C (k := 3) rfl rfl dL_law_2993 ?_
  refine r_aload_n C (k := 1) rfl rfl dL_law_2994 ?_
  refine r_iload C (k := 0) rfl dL_law_2995 ?_
  refine r_iconst C (v := 1) rfl dL_law_2997 ?_
  refine r_iadd C dL_law_2998 ?_
  refine r_sld C hX h1.1 h1.2 dL_law_2999 ?_
  refine r_callV C (d' := 1) [.int p1] (c_X11_outputByte hM (Ω := (S, τ, o)) rfl p1 hG rfl) myX11_outputByte wm9_190 ⟨_, _, _, _, (hM.ok k11), rfl, rfl, rfl, rfl⟩ rfl (kR rfl) (by decide) (kR rfl) rfl dL_law_3000 ?_
  refine r_icmp_eq C (tgt := 3008) rfl dL_law_3003 (fun _ => ?_) (fun h => absurd rfl h)
  exact kk
