theorem rd_Law_law_2213 : decode mb_Law_law 2213 = .ok (.aload_n 3, 1) := by decide +kernel
theorem rd_Law_law_2214 : decode mb_Law_law 2214 = .ok (.invokestatic 296, 3) := by decide +kernel
theorem rd_Law_law_2217 : decode mb_Law_law 2217 = .ok (.istore 5, 2) := by decide +kernel
theorem rd_Law_law_2219 : decode mb_Law_law 2219 = .ok (.aload_n 2, 1) := by decide +kernel
theorem rd_Law_law_2220 : decode mb_Law_law 2220 = .ok (.aload_n 0, 1) := by decide +kernel
theorem rd_Law_law_2221 : decode mb_Law_law 2221 = .ok (.iload 4, 2) := by decide +kernel
theorem rd_Law_law_2223 : decode mb_Law_law 2223 = .ok (.iconst 1, 1) := by decide +kernel
theorem rd_Law_law_2224 : decode mb_Law_law 2224 = .ok (.iadd, 1) := by decide +kernel
theorem rd_Law_law_2225 : decode mb_Law_law 2225 = .ok (.iaload, 1) := by decide +kernel
theorem rd_Law_law_2226 : decode mb_Law_law 2226 = .ok (.invokevirtual 298, 3) := by decide +kernel
theorem rd_Law_law_2229 : decode mb_Law_law 2229 = .ok (.istore 6, 2) := by decide +kernel
theorem rd_Law_law_2231 : decode mb_Law_law 2231 = .ok (.aload_n 2, 1) := by decide +kernel
theorem rd_Law_law_2232 : decode mb_Law_law 2232 = .ok (.invokevirtual 189, 3) := by decide +kernel
theorem rd_Law_law_2235 : decode mb_Law_law 2235 = .ok (.iload 5, 2) := by decide +kernel
theorem rd_Law_law_2237 : decode mb_Law_law 2237 = .ok (.if_icmp .eq 5, 3) := by decide +kernel
theorem rd_Law_law_2242 : decode mb_Law_law 2242 = .ok (.iload 5, 2) := by decide +kernel
theorem rd_Law_law_2244 : decode mb_Law_law 2244 = .ok (.ifCond .ne 15, 3) := by decide +kernel
theorem rd_Law_law_2247 : decode mb_Law_law 2247 = .ok (.aload_n 3, 1) := by decide +kernel
theorem rd_Law_law_2248 : decode mb_Law_law 2248 = .ok (.iconst 0, 1) := by decide +kernel
theorem rd_Law_law_2249 : decode mb_Law_law 2249 = .ok (.laload, 1) := by decide +kernel
theorem rd_Law_law_2250 : decode mb_Law_law 2250 = .ok (.iload 6, 2) := by decide +kernel
theorem rd_Law_law_2252 : decode mb_Law_law 2252 = .ok (.i2l, 1) := by decide +kernel
theorem rd_Law_law_2253 : decode mb_Law_law 2253 = .ok (.lcmp, 1) := by decide +kernel
theorem rd_Law_law_2254 : decode mb_Law_law 2254 = .ok (.ifCond .eq 5, 3) := by decide +kernel
theorem rd_Law_law_2259 : decode mb_Law_law 2259 = .ok (.goto 525, 3) := by decide +kernel
theorem rd_Law_law_2262 : decode mb_Law_law 2262 = .ok (.aload_n 1, 1) := by decide +kernel
theorem rd_Law_law_2263 : decode mb_Law_law 2263 = .ok (.aload_n 0, 1) := by decide +kernel
theorem rd_Law_law_2264 : decode mb_Law_law 2264 = .ok (.iload 4, 2) := by decide +kernel
theorem rd_Law_law_2266 : decode mb_Law_law 2266 = .ok (.iconst 1, 1) := by decide +kernel
theorem rd_Law_law_2267 : decode mb_Law_law 2267 = .ok (.iadd, 1) := by decide +kernel
theorem rd_Law_law_2268 : decode mb_Law_law 2268 = .ok (.iaload, 1) := by decide +kernel
theorem rd_Law_law_2269 : decode mb_Law_law 2269 = .ok (.aload_n 0, 1) := by decide +kernel
theorem rd_Law_law_2270 : decode mb_Law_law 2270 = .ok (.iload 4, 2) := by decide +kernel
theorem rd_Law_law_2272 : decode mb_Law_law 2272 = .ok (.iconst 2, 1) := by decide +kernel
theorem rd_Law_law_2273 : decode mb_Law_law 2273 = .ok (.iadd, 1) := by decide +kernel
theorem rd_Law_law_2274 : decode mb_Law_law 2274 = .ok (.iaload, 1) := by decide +kernel
theorem rd_Law_law_2275 : decode mb_Law_law 2275 = .ok (.aload_n 3, 1) := by decide +kernel
theorem rd_Law_law_2276 : decode mb_Law_law 2276 = .ok (.invokestatic 299, 3) := by decide +kernel
theorem rd_Law_law_2279 : decode mb_Law_law 2279 = .ok (.istore 5, 2) := by decide +kernel
theorem rd_Law_law_2281 : decode mb_Law_law 2281 = .ok (.aload_n 2, 1) := by decide +kernel
theorem rd_Law_law_2282 : decode mb_Law_law 2282 = .ok (.aload_n 0, 1) := by decide +kernel
theorem rd_Law_law_2283 : decode mb_Law_law 2283 = .ok (.iload 4, 2) := by decide +kernel
theorem rd_Law_law_2285 : decode mb_Law_law 2285 = .ok (.iconst 1, 1) := by decide +kernel
theorem rd_Law_law_2286 : decode mb_Law_law 2286 = .ok (.iadd, 1) := by decide +kernel
theorem rd_Law_law_2287 : decode mb_Law_law 2287 = .ok (.iaload, 1) := by decide +kernel
theorem rd_Law_law_2288 : decode mb_Law_law 2288 = .ok (.aload_n 0, 1) := by decide +kernel
theorem rd_Law_law_2289 : decode mb_Law_law 2289 = .ok (.iload 4, 2) := by decide +kernel
theorem rd_Law_law_2291 : decode mb_Law_law 2291 = .ok (.iconst 2, 1) := by decide +kernel
theorem rd_Law_law_2292 : decode mb_Law_law 2292 = .ok (.iadd, 1) := by decide +kernel
theorem rd_Law_law_2293 : decode mb_Law_law 2293 = .ok (.iaload, 1) := by decide +kernel
theorem rd_Law_law_2294 : decode mb_Law_law 2294 = .ok (.invokevirtual 301, 3) := by decide +kernel
theorem rd_Law_law_2297 : decode mb_Law_law 2297 = .ok (.istore 6, 2) := by decide +kernel
theorem rd_Law_law_2299 : decode mb_Law_law 2299 = .ok (.aload_n 2, 1) := by decide +kernel
theorem rd_Law_law_2300 : decode mb_Law_law 2300 = .ok (.invokevirtual 189, 3) := by decide +kernel
theorem rd_Law_law_2303 : decode mb_Law_law 2303 = .ok (.iload 5, 2) := by decide +kernel
theorem rd_Law_law_2305 : decode mb_Law_law 2305 = .ok (.if_icmp .eq 5, 3) := by decide +kernel
theorem rd_Law_law_2310 : decode mb_Law_law 2310 = .ok (.iload 5, 2) := by decide +kernel
theorem rd_Law_law_2312 : decode mb_Law_law 2312 = .ok (.ifCond .ne 15, 3) := by decide +kernel
theorem rd_Law_law_2315 : decode mb_Law_law 2315 = .ok (.aload_n 3, 1) := by decide +kernel
theorem rd_Law_law_2316 : decode mb_Law_law 2316 = .ok (.iconst 0, 1) := by decide +kernel
theorem rd_Law_law_2317 : decode mb_Law_law 2317 = .ok (.laload, 1) := by decide +kernel
theorem rd_Law_law_2318 : decode mb_Law_law 2318 = .ok (.iload 6, 2) := by decide +kernel
theorem rd_Law_law_2320 : decode mb_Law_law 2320 = .ok (.i2l, 1) := by decide +kernel
theorem rd_Law_law_2321 : decode mb_Law_law 2321 = .ok (.lcmp, 1) := by decide +kernel
theorem rd_Law_law_2322 : decode mb_Law_law 2322 = .ok (.ifCond .eq 5, 3) := by decide +kernel
theorem rd_Law_law_2327 : decode mb_Law_law 2327 = .ok (.goto 457, 3) := by decide +kernel
theorem rd_Law_law_2330 : decode mb_Law_law 2330 = .ok (.aload_n 1, 1) := by decide +kernel
theorem rd_Law_law_2331 : decode mb_Law_law 2331 = .ok (.aload_n 0, 1) := by decide +kernel
theorem rd_Law_law_2332 : decode mb_Law_law 2332 = .ok (.iload 4, 2) := by decide +kernel
theorem rd_Law_law_2334 : decode mb_Law_law 2334 = .ok (.iconst 1, 1) := by decide +kernel
theorem rd_Law_law_2335 : decode mb_Law_law 2335 = .ok (.iadd, 1) := by decide +kernel
theorem rd_Law_law_2336 : decode mb_Law_law 2336 = .ok (.iaload, 1) := by decide +kernel
theorem rd_Law_law_2337 : decode mb_Law_law 2337 = .ok (.aload_n 0, 1) := by decide +kernel
theorem rd_Law_law_2338 : decode mb_Law_law 2338 = .ok (.iload 4, 2) := by decide +kernel
theorem rd_Law_law_2340 : decode mb_Law_law 2340 = .ok (.iconst 2, 1) := by decide +kernel
theorem rd_Law_law_2341 : decode mb_Law_law 2341 = .ok (.iadd, 1) := by decide +kernel
theorem rd_Law_law_2342 : decode mb_Law_law 2342 = .ok (.iaload, 1) := by decide +kernel
theorem rd_Law_law_2343 : decode mb_Law_law 2343 = .ok (.aload_n 0, 1) := by decide +kernel
theorem rd_Law_law_2344 : decode mb_Law_law 2344 = .ok (.iload 4, 2) := by decide +kernel
theorem rd_Law_law_2346 : decode mb_Law_law 2346 = .ok (.iconst 3, 1) := by decide +kernel
theorem rd_Law_law_2347 : decode mb_Law_law 2347 = .ok (.iadd, 1) := by decide +kernel
theorem rd_Law_law_2348 : decode mb_Law_law 2348 = .ok (.iaload, 1) := by decide +kernel
theorem rd_Law_law_2349 : decode mb_Law_law 2349 = .ok (.aload_n 3, 1) := by decide +kernel
theorem rd_Law_law_2350 : decode mb_Law_law 2350 = .ok (.invokestatic 302, 3) := by decide +kernel
theorem rd_Law_law_2353 : decode mb_Law_law 2353 = .ok (.istore 5, 2) := by decide +kernel
theorem rd_Law_law_2355 : decode mb_Law_law 2355 = .ok (.aload_n 2, 1) := by decide +kernel
theorem rd_Law_law_2356 : decode mb_Law_law 2356 = .ok (.aload_n 0, 1) := by decide +kernel
theorem rd_Law_law_2357 : decode mb_Law_law 2357 = .ok (.iload 4, 2) := by decide +kernel
theorem rd_Law_law_2359 : decode mb_Law_law 2359 = .ok (.iconst 1, 1) := by decide +kernel
theorem rd_Law_law_2360 : decode mb_Law_law 2360 = .ok (.iadd, 1) := by decide +kernel
theorem rd_Law_law_2361 : decode mb_Law_law 2361 = .ok (.iaload, 1) := by decide +kernel
theorem rd_Law_law_2362 : decode mb_Law_law 2362 = .ok (.aload_n 0, 1) := by decide +kernel
theorem rd_Law_law_2363 : decode mb_Law_law 2363 = .ok (.iload 4, 2) := by decide +kernel
theorem rd_Law_law_2365 : decode mb_Law_law 2365 = .ok (.iconst 2, 1) := by decide +kernel
theorem rd_Law_law_2366 : decode mb_Law_law 2366 = .ok (.iadd, 1) := by decide +kernel
theorem rd_Law_law_2367 : decode mb_Law_law 2367 = .ok (.iaload, 1) := by decide +kernel
theorem rd_Law_law_2368 : decode mb_Law_law 2368 = .ok (.aload_n 0, 1) := by decide +kernel
theorem rd_Law_law_2369 : decode mb_Law_law 2369 = .ok (.iload 4, 2) := by decide +kernel
theorem rd_Law_law_2371 : decode mb_Law_law 2371 = .ok (.iconst 3, 1) := by decide +kernel
theorem rd_Law_law_2372 : decode mb_Law_law 2372 = .ok (.iadd, 1) := by decide +kernel
theorem rd_Law_law_2373 : decode mb_Law_law 2373 = .ok (.iaload, 1) := by decide +kernel
theorem rd_Law_law_2374 : decode mb_Law_law 2374 = .ok (.invokevirtual 304, 3) := by decide +kernel
theorem rd_Law_law_2377 : decode mb_Law_law 2377 = .ok (.istore 6, 2) := by decide +kernel
theorem rd_Law_law_2379 : decode mb_Law_law 2379 = .ok (.aload_n 2, 1) := by decide +kernel
theorem rd_Law_law_2380 : decode mb_Law_law 2380 = .ok (.invokevirtual 189, 3) := by decide +kernel
theorem rd_Law_law_2383 : decode mb_Law_law 2383 = .ok (.iload 5, 2) := by decide +kernel
theorem rd_Law_law_2385 : decode mb_Law_law 2385 = .ok (.if_icmp .eq 5, 3) := by decide +kernel
theorem rd_Law_law_2390 : decode mb_Law_law 2390 = .ok (.iload 5, 2) := by decide +kernel
theorem rd_Law_law_2392 : decode mb_Law_law 2392 = .ok (.ifCond .ne 15, 3) := by decide +kernel
theorem rd_Law_law_2395 : decode mb_Law_law 2395 = .ok (.aload_n 3, 1) := by decide +kernel
theorem rd_Law_law_2396 : decode mb_Law_law 2396 = .ok (.iconst 0, 1) := by decide +kernel
theorem rd_Law_law_2397 : decode mb_Law_law 2397 = .ok (.laload, 1) := by decide +kernel
theorem rd_Law_law_2398 : decode mb_Law_law 2398 = .ok (.iload 6, 2) := by decide +kernel
theorem rd_Law_law_2400 : decode mb_Law_law 2400 = .ok (.i2l, 1) := by decide +kernel
theorem rd_Law_law_2401 : decode mb_Law_law 2401 = .ok (.lcmp, 1) := by decide +kernel
theorem rd_Law_law_2402 : decode mb_Law_law 2402 = .ok (.ifCond .eq 5, 3) := by decide +kernel
theorem rd_Law_law_2407 : decode mb_Law_law 2407 = .ok (.goto 377, 3) := by decide +kernel
theorem rd_Law_law_2410 : decode mb_Law_law 2410 = .ok (.aload_n 1, 1) := by decide +kernel
theorem rd_Law_law_2411 : decode mb_Law_law 2411 = .ok (.aload_n 0, 1) := by decide +kernel
theorem rd_Law_law_2412 : decode mb_Law_law 2412 = .ok (.iload 4, 2) := by decide +kernel
theorem rd_Law_law_2414 : decode mb_Law_law 2414 = .ok (.iconst 1, 1) := by decide +kernel
theorem rd_Law_law_2415 : decode mb_Law_law 2415 = .ok (.iadd, 1) := by decide +kernel
theorem rd_Law_law_2416 : decode mb_Law_law 2416 = .ok (.iaload, 1) := by decide +kernel
theorem rd_Law_law_2417 : decode mb_Law_law 2417 = .ok (.aload_n 0, 1) := by decide +kernel
theorem rd_Law_law_2418 : decode mb_Law_law 2418 = .ok (.iload 4, 2) := by decide +kernel
theorem rd_Law_law_2420 : decode mb_Law_law 2420 = .ok (.iconst 2, 1) := by decide +kernel
theorem rd_Law_law_2421 : decode mb_Law_law 2421 = .ok (.iadd, 1) := by decide +kernel
theorem rd_Law_law_2422 : decode mb_Law_law 2422 = .ok (.iaload, 1) := by decide +kernel
theorem rd_Law_law_2423 : decode mb_Law_law 2423 = .ok (.aload_n 3, 1) := by decide +kernel
theorem rd_Law_law_2424 : decode mb_Law_law 2424 = .ok (.invokestatic 305, 3) := by decide +kernel
theorem rd_Law_law_2427 : decode mb_Law_law 2427 = .ok (.istore 5, 2) := by decide +kernel
theorem rd_Law_law_2429 : decode mb_Law_law 2429 = .ok (.aload_n 2, 1) := by decide +kernel
theorem rd_Law_law_2430 : decode mb_Law_law 2430 = .ok (.aload_n 0, 1) := by decide +kernel
theorem rd_Law_law_2431 : decode mb_Law_law 2431 = .ok (.iload 4, 2) := by decide +kernel
theorem rd_Law_law_2433 : decode mb_Law_law 2433 = .ok (.iconst 1, 1) := by decide +kernel
theorem rd_Law_law_2434 : decode mb_Law_law 2434 = .ok (.iadd, 1) := by decide +kernel
theorem rd_Law_law_2435 : decode mb_Law_law 2435 = .ok (.iaload, 1) := by decide +kernel
theorem rd_Law_law_2436 : decode mb_Law_law 2436 = .ok (.aload_n 0, 1) := by decide +kernel
theorem rd_Law_law_2437 : decode mb_Law_law 2437 = .ok (.iload 4, 2) := by decide +kernel
theorem rd_Law_law_2439 : decode mb_Law_law 2439 = .ok (.iconst 2, 1) := by decide +kernel
theorem rd_Law_law_2440 : decode mb_Law_law 2440 = .ok (.iadd, 1) := by decide +kernel
theorem rd_Law_law_2441 : decode mb_Law_law 2441 = .ok (.iaload, 1) := by decide +kernel
theorem rd_Law_law_2442 : decode mb_Law_law 2442 = .ok (.invokevirtual 307, 3) := by decide +kernel
theorem rd_Law_law_2445 : decode mb_Law_law 2445 = .ok (.istore 6, 2) := by decide +kernel
theorem rd_Law_law_2447 : decode mb_Law_law 2447 = .ok (.aload_n 2, 1) := by decide +kernel
theorem rd_Law_law_2448 : decode mb_Law_law 2448 = .ok (.invokevirtual 189, 3) := by decide +kernel
theorem rd_Law_law_2451 : decode mb_Law_law 2451 = .ok (.iload 5, 2) := by decide +kernel
theorem rd_Law_law_2453 : decode mb_Law_law 2453 = .ok (.if_icmp .eq 5, 3) := by decide +kernel
theorem rd_Law_law_2458 : decode mb_Law_law 2458 = .ok (.iload 5, 2) := by decide +kernel
theorem rd_Law_law_2460 : decode mb_Law_law 2460 = .ok (.ifCond .ne 15, 3) := by decide +kernel
theorem rd_Law_law_2463 : decode mb_Law_law 2463 = .ok (.aload_n 3, 1) := by decide +kernel
theorem rd_Law_law_2464 : decode mb_Law_law 2464 = .ok (.iconst 0, 1) := by decide +kernel
theorem rd_Law_law_2465 : decode mb_Law_law 2465 = .ok (.laload, 1) := by decide +kernel
theorem rd_Law_law_2466 : decode mb_Law_law 2466 = .ok (.iload 6, 2) := by decide +kernel
theorem rd_Law_law_2468 : decode mb_Law_law 2468 = .ok (.i2l, 1) := by decide +kernel
theorem rd_Law_law_2469 : decode mb_Law_law 2469 = .ok (.lcmp, 1) := by decide +kernel
theorem rd_Law_law_2470 : decode mb_Law_law 2470 = .ok (.ifCond .eq 5, 3) := by decide +kernel
theorem rd_Law_law_2475 : decode mb_Law_law 2475 = .ok (.goto 309, 3) := by decide +kernel
theorem rd_Law_law_2478 : decode mb_Law_law 2478 = .ok (.aload_n 1, 1) := by decide +kernel
theorem rd_Law_law_2479 : decode mb_Law_law 2479 = .ok (.aload_n 0, 1) := by decide +kernel
theorem rd_Law_law_2480 : decode mb_Law_law 2480 = .ok (.iload 4, 2) := by decide +kernel
theorem rd_Law_law_2482 : decode mb_Law_law 2482 = .ok (.iconst 1, 1) := by decide +kernel
theorem rd_Law_law_2483 : decode mb_Law_law 2483 = .ok (.iadd, 1) := by decide +kernel
theorem rd_Law_law_2484 : decode mb_Law_law 2484 = .ok (.iaload, 1) := by decide +kernel
theorem rd_Law_law_2485 : decode mb_Law_law 2485 = .ok (.aload_n 0, 1) := by decide +kernel
theorem rd_Law_law_2486 : decode mb_Law_law 2486 = .ok (.iload 4, 2) := by decide +kernel
theorem rd_Law_law_2488 : decode mb_Law_law 2488 = .ok (.iconst 2, 1) := by decide +kernel
theorem rd_Law_law_2489 : decode mb_Law_law 2489 = .ok (.iadd, 1) := by decide +kernel
theorem rd_Law_law_2490 : decode mb_Law_law 2490 = .ok (.iaload, 1) := by decide +kernel
theorem rd_Law_law_2491 : decode mb_Law_law 2491 = .ok (.aload_n 3, 1) := by decide +kernel
theorem rd_Law_law_2492 : decode mb_Law_law 2492 = .ok (.invokestatic 308, 3) := by decide +kernel
theorem rd_Law_law_2495 : decode mb_Law_law 2495 = .ok (.istore 5, 2) := by decide +kernel
theorem rd_Law_law_2497 : decode mb_Law_law 2497 = .ok (.aload_n 2, 1) := by decide +kernel
theorem rd_Law_law_2498 : decode mb_Law_law 2498 = .ok (.aload_n 0, 1) := by decide +kernel
theorem rd_Law_law_2499 : decode mb_Law_law 2499 = .ok (.iload 4, 2) := by decide +kernel
theorem rd_Law_law_2501 : decode mb_Law_law 2501 = .ok (.iconst 1, 1) := by decide +kernel
theorem rd_Law_law_2502 : decode mb_Law_law 2502 = .ok (.iadd, 1) := by decide +kernel
theorem rd_Law_law_2503 : decode mb_Law_law 2503 = .ok (.iaload, 1) := by decide +kernel
theorem rd_Law_law_2504 : decode mb_Law_law 2504 = .ok (.aload_n 0, 1) := by decide +kernel
theorem rd_Law_law_2505 : decode mb_Law_law 2505 = .ok (.iload 4, 2) := by decide +kernel
theorem rd_Law_law_2507 : decode mb_Law_law 2507 = .ok (.iconst 2, 1) := by decide +kernel
theorem rd_Law_law_2508 : decode mb_Law_law 2508 = .ok (.iadd, 1) := by decide +kernel
theorem rd_Law_law_2509 : decode mb_Law_law 2509 = .ok (.iaload, 1) := by decide +kernel
theorem rd_Law_law_2510 : decode mb_Law_law 2510 = .ok (.invokevirtual 310, 3) := by decide +kernel
theorem rd_Law_law_2513 : decode mb_Law_law 2513 = .ok (.istore 6, 2) := by decide +kernel
theorem rd_Law_law_2515 : decode mb_Law_law 2515 = .ok (.aload_n 2, 1) := by decide +kernel
theorem rd_Law_law_2516 : decode mb_Law_law 2516 = .ok (.invokevirtual 189, 3) := by decide +kernel
theorem rd_Law_law_2519 : decode mb_Law_law 2519 = .ok (.iload 5, 2) := by decide +kernel
theorem rd_Law_law_2521 : decode mb_Law_law 2521 = .ok (.if_icmp .eq 5, 3) := by decide +kernel
theorem rd_Law_law_2526 : decode mb_Law_law 2526 = .ok (.iload 5, 2) := by decide +kernel
theorem rd_Law_law_2528 : decode mb_Law_law 2528 = .ok (.ifCond .ne 15, 3) := by decide +kernel
theorem rd_Law_law_2531 : decode mb_Law_law 2531 = .ok (.aload_n 3, 1) := by decide +kernel
theorem rd_Law_law_2532 : decode mb_Law_law 2532 = .ok (.iconst 0, 1) := by decide +kernel
theorem rd_Law_law_2533 : decode mb_Law_law 2533 = .ok (.laload, 1) := by decide +kernel
theorem rd_Law_law_2534 : decode mb_Law_law 2534 = .ok (.iload 6, 2) := by decide +kernel
theorem rd_Law_law_2536 : decode mb_Law_law 2536 = .ok (.i2l, 1) := by decide +kernel
theorem rd_Law_law_2537 : decode mb_Law_law 2537 = .ok (.lcmp, 1) := by decide +kernel
theorem rd_Law_law_2538 : decode mb_Law_law 2538 = .ok (.ifCond .eq 5, 3) := by decide +kernel
theorem rd_Law_law_2543 : decode mb_Law_law 2543 = .ok (.goto 241, 3) := by decide +kernel
theorem rd_Law_law_2546 : decode mb_Law_law 2546 = .ok (.aload_n 1, 1) := by decide +kernel
theorem rd_Law_law_2547 : decode mb_Law_law 2547 = .ok (.aload_n 0, 1) := by decide +kernel
theorem rd_Law_law_2548 : decode mb_Law_law 2548 = .ok (.iload 4, 2) := by decide +kernel
theorem rd_Law_law_2550 : decode mb_Law_law 2550 = .ok (.iconst 1, 1) := by decide +kernel
theorem rd_Law_law_2551 : decode mb_Law_law 2551 = .ok (.iadd, 1) := by decide +kernel
theorem rd_Law_law_2552 : decode mb_Law_law 2552 = .ok (.iaload, 1) := by decide +kernel
theorem rd_Law_law_2553 : decode mb_Law_law 2553 = .ok (.aload_n 3, 1) := by decide +kernel
theorem rd_Law_law_2554 : decode mb_Law_law 2554 = .ok (.invokestatic 311, 3) := by decide +kernel
theorem rd_Law_law_2557 : decode mb_Law_law 2557 = .ok (.istore 5, 2) := by decide +kernel
theorem rd_Law_law_2559 : decode mb_Law_law 2559 = .ok (.aload_n 2, 1) := by decide +kernel
theorem rd_Law_law_2560 : decode mb_Law_law 2560 = .ok (.aload_n 0, 1) := by decide +kernel
theorem rd_Law_law_2561 : decode mb_Law_law 2561 = .ok (.iload 4, 2) := by decide +kernel
theorem rd_Law_law_2563 : decode mb_Law_law 2563 = .ok (.iconst 1, 1) := by decide +kernel
theorem rd_Law_law_2564 : decode mb_Law_law 2564 = .ok (.iadd, 1) := by decide +kernel
theorem rd_Law_law_2565 : decode mb_Law_law 2565 = .ok (.iaload, 1) := by decide +kernel
theorem rd_Law_law_2566 : decode mb_Law_law 2566 = .ok (.invokevirtual 313, 3) := by decide +kernel
theorem rd_Law_law_2569 : decode mb_Law_law 2569 = .ok (.istore 6, 2) := by decide +kernel
theorem rd_Law_law_2571 : decode mb_Law_law 2571 = .ok (.aload_n 2, 1) := by decide +kernel
theorem rd_Law_law_2572 : decode mb_Law_law 2572 = .ok (.invokevirtual 189, 3) := by decide +kernel
theorem rd_Law_law_2575 : decode mb_Law_law 2575 = .ok (.iload 5, 2) := by decide +kernel
theorem rd_Law_law_2577 : decode mb_Law_law 2577 = .ok (.if_icmp .eq 5, 3) := by decide +kernel
