theorem dL_law__2239 : decode cL_law_ 2239 = .ok (.iadd, 1) := by decide +kernel
theorem dL_law__2240 : decode cL_law_ 2240 = .ok (.iaload, 1) := by decide +kernel
theorem dL_law__2241 : decode cL_law_ 2241 = .ok (.ifCond .eq 7, 3) := by decide +kernel
theorem dL_law__2244 : decode cL_law_ 2244 = .ok (.iconst 1, 1) := by decide +kernel
theorem dL_law__2245 : decode cL_law_ 2245 = .ok (.goto 4, 3) := by decide +kernel
theorem dL_law__2248 : decode cL_law_ 2248 = .ok (.iconst 0, 1) := by decide +kernel
theorem dL_law__2249 : decode cL_law_ 2249 = .ok (.invokevirtual 241, 3) := by decide +kernel
theorem dL_law__2252 : decode cL_law_ 2252 = .ok (.if_icmp .eq 682, 3) := by decide +kernel
theorem dL_law__2255 : decode cL_law_ 2255 = .ok (.iconst 0, 1) := by decide +kernel
theorem dL_law__2256 : decode cL_law_ 2256 = .ok (.ireturn, 1) := by decide +kernel
theorem dL_law__2257 : decode cL_law_ 2257 = .ok (.aload_n 1, 1) := by decide +kernel
theorem dL_law__2258 : decode cL_law_ 2258 = .ok (.aload_n 0, 1) := by decide +kernel
theorem dL_law__2259 : decode cL_law_ 2259 = .ok (.iload 4, 2) := by decide +kernel
theorem dL_law__2261 : decode cL_law_ 2261 = .ok (.iconst 1, 1) := by decide +kernel
theorem dL_law__2262 : decode cL_law_ 2262 = .ok (.iadd, 1) := by decide +kernel
theorem dL_law__2263 : decode cL_law_ 2263 = .ok (.iaload, 1) := by decide +kernel
theorem dL_law__2264 : decode cL_law_ 2264 = .ok (.aload_n 0, 1) := by decide +kernel
theorem dL_law__2265 : decode cL_law_ 2265 = .ok (.iload 4, 2) := by decide +kernel
theorem dL_law__2267 : decode cL_law_ 2267 = .ok (.iconst 2, 1) := by decide +kernel
theorem dL_law__2268 : decode cL_law_ 2268 = .ok (.iadd, 1) := by decide +kernel
theorem dL_law__2269 : decode cL_law_ 2269 = .ok (.iaload, 1) := by decide +kernel
theorem dL_law__2270 : decode cL_law_ 2270 = .ok (.aload_n 0, 1) := by decide +kernel
theorem dL_law__2271 : decode cL_law_ 2271 = .ok (.iload 4, 2) := by decide +kernel
theorem dL_law__2273 : decode cL_law_ 2273 = .ok (.iconst 3, 1) := by decide +kernel
theorem dL_law__2274 : decode cL_law_ 2274 = .ok (.iadd, 1) := by decide +kernel
theorem dL_law__2275 : decode cL_law_ 2275 = .ok (.iaload, 1) := by decide +kernel
theorem dL_law__2276 : decode cL_law_ 2276 = .ok (.aload_n 0, 1) := by decide +kernel
theorem dL_law__2277 : decode cL_law_ 2277 = .ok (.iload 4, 2) := by decide +kernel
theorem dL_law__2279 : decode cL_law_ 2279 = .ok (.iconst 4, 1) := by decide +kernel
theorem dL_law__2280 : decode cL_law_ 2280 = .ok (.iadd, 1) := by decide +kernel
theorem dL_law__2281 : decode cL_law_ 2281 = .ok (.iaload, 1) := by decide +kernel
theorem dL_law__2282 : decode cL_law_ 2282 = .ok (.aload_n 0, 1) := by decide +kernel
theorem dL_law__2283 : decode cL_law_ 2283 = .ok (.iload 4, 2) := by decide +kernel
theorem dL_law__2285 : decode cL_law_ 2285 = .ok (.iconst 5, 1) := by decide +kernel
theorem dL_law__2286 : decode cL_law_ 2286 = .ok (.iadd, 1) := by decide +kernel
theorem dL_law__2287 : decode cL_law_ 2287 = .ok (.iaload, 1) := by decide +kernel
theorem dL_law__2288 : decode cL_law_ 2288 = .ok (.ifCond .eq 7, 3) := by decide +kernel
theorem dL_law__2291 : decode cL_law_ 2291 = .ok (.iconst 1, 1) := by decide +kernel
theorem dL_law__2292 : decode cL_law_ 2292 = .ok (.goto 4, 3) := by decide +kernel
theorem dL_law__2295 : decode cL_law_ 2295 = .ok (.iconst 0, 1) := by decide +kernel
theorem dL_law__2296 : decode cL_law_ 2296 = .ok (.aload_n 3, 1) := by decide +kernel
theorem dL_law__2297 : decode cL_law_ 2297 = .ok (.invokestatic 242, 3) := by decide +kernel
theorem dL_law__2300 : decode cL_law_ 2300 = .ok (.istore 5, 2) := by decide +kernel
theorem dL_law__2302 : decode cL_law_ 2302 = .ok (.aload_n 2, 1) := by decide +kernel
theorem dL_law__2303 : decode cL_law_ 2303 = .ok (.aload_n 0, 1) := by decide +kernel
theorem dL_law__2304 : decode cL_law_ 2304 = .ok (.iload 4, 2) := by decide +kernel
theorem dL_law__2306 : decode cL_law_ 2306 = .ok (.iconst 1, 1) := by decide +kernel
theorem dL_law__2307 : decode cL_law_ 2307 = .ok (.iadd, 1) := by decide +kernel
theorem dL_law__2308 : decode cL_law_ 2308 = .ok (.iaload, 1) := by decide +kernel
theorem dL_law__2309 : decode cL_law_ 2309 = .ok (.aload_n 0, 1) := by decide +kernel
theorem dL_law__2310 : decode cL_law_ 2310 = .ok (.iload 4, 2) := by decide +kernel
theorem dL_law__2312 : decode cL_law_ 2312 = .ok (.iconst 2, 1) := by decide +kernel
theorem dL_law__2313 : decode cL_law_ 2313 = .ok (.iadd, 1) := by decide +kernel
theorem dL_law__2314 : decode cL_law_ 2314 = .ok (.iaload, 1) := by decide +kernel
theorem dL_law__2315 : decode cL_law_ 2315 = .ok (.aload_n 0, 1) := by decide +kernel
theorem dL_law__2316 : decode cL_law_ 2316 = .ok (.iload 4, 2) := by decide +kernel
theorem dL_law__2318 : decode cL_law_ 2318 = .ok (.iconst 3, 1) := by decide +kernel
theorem dL_law__2319 : decode cL_law_ 2319 = .ok (.iadd, 1) := by decide +kernel
theorem dL_law__2320 : decode cL_law_ 2320 = .ok (.iaload, 1) := by decide +kernel
theorem dL_law__2321 : decode cL_law_ 2321 = .ok (.aload_n 0, 1) := by decide +kernel
theorem dL_law__2322 : decode cL_law_ 2322 = .ok (.iload 4, 2) := by decide +kernel
theorem dL_law__2324 : decode cL_law_ 2324 = .ok (.iconst 4, 1) := by decide +kernel
theorem dL_law__2325 : decode cL_law_ 2325 = .ok (.iadd, 1) := by decide +kernel
theorem dL_law__2326 : decode cL_law_ 2326 = .ok (.iaload, 1) := by decide +kernel
theorem dL_law__2327 : decode cL_law_ 2327 = .ok (.aload_n 0, 1) := by decide +kernel
theorem dL_law__2328 : decode cL_law_ 2328 = .ok (.iload 4, 2) := by decide +kernel
theorem dL_law__2330 : decode cL_law_ 2330 = .ok (.iconst 5, 1) := by decide +kernel
theorem dL_law__2331 : decode cL_law_ 2331 = .ok (.iadd, 1) := by decide +kernel
theorem dL_law__2332 : decode cL_law_ 2332 = .ok (.iaload, 1) := by decide +kernel
theorem dL_law__2333 : decode cL_law_ 2333 = .ok (.ifCond .eq 7, 3) := by decide +kernel
theorem dL_law__2336 : decode cL_law_ 2336 = .ok (.iconst 1, 1) := by decide +kernel
theorem dL_law__2337 : decode cL_law_ 2337 = .ok (.goto 4, 3) := by decide +kernel
theorem dL_law__2340 : decode cL_law_ 2340 = .ok (.iconst 0, 1) := by decide +kernel
theorem dL_law__2341 : decode cL_law_ 2341 = .ok (.invokevirtual 244, 3) := by decide +kernel
theorem dL_law__2344 : decode cL_law_ 2344 = .ok (.istore 6, 2) := by decide +kernel
theorem dL_law__2346 : decode cL_law_ 2346 = .ok (.aload_n 2, 1) := by decide +kernel
theorem dL_law__2347 : decode cL_law_ 2347 = .ok (.invokevirtual 147, 3) := by decide +kernel
theorem dL_law__2350 : decode cL_law_ 2350 = .ok (.iload 5, 2) := by decide +kernel
theorem dL_law__2352 : decode cL_law_ 2352 = .ok (.if_icmp .eq 5, 3) := by decide +kernel
theorem dL_law__2355 : decode cL_law_ 2355 = .ok (.iconst 0, 1) := by decide +kernel
theorem dL_law__2356 : decode cL_law_ 2356 = .ok (.ireturn, 1) := by decide +kernel
theorem dL_law__2357 : decode cL_law_ 2357 = .ok (.iload 5, 2) := by decide +kernel
theorem dL_law__2359 : decode cL_law_ 2359 = .ok (.ifCond .ne 15, 3) := by decide +kernel
theorem dL_law__2362 : decode cL_law_ 2362 = .ok (.aload_n 3, 1) := by decide +kernel
theorem dL_law__2363 : decode cL_law_ 2363 = .ok (.iconst 0, 1) := by decide +kernel
theorem dL_law__2364 : decode cL_law_ 2364 = .ok (.laload, 1) := by decide +kernel
theorem dL_law__2365 : decode cL_law_ 2365 = .ok (.iload 6, 2) := by decide +kernel
theorem dL_law__2367 : decode cL_law_ 2367 = .ok (.i2l, 1) := by decide +kernel
theorem dL_law__2368 : decode cL_law_ 2368 = .ok (.lcmp, 1) := by decide +kernel
theorem dL_law__2369 : decode cL_law_ 2369 = .ok (.ifCond .eq 5, 3) := by decide +kernel
theorem dL_law__2372 : decode cL_law_ 2372 = .ok (.iconst 0, 1) := by decide +kernel
theorem dL_law__2373 : decode cL_law_ 2373 = .ok (.ireturn, 1) := by decide +kernel
theorem dL_law__2374 : decode cL_law_ 2374 = .ok (.goto 560, 3) := by decide +kernel
theorem dL_law__2377 : decode cL_law_ 2377 = .ok (.aload_n 1, 1) := by decide +kernel
theorem dL_law__2378 : decode cL_law_ 2378 = .ok (.aload_n 0, 1) := by decide +kernel
theorem dL_law__2379 : decode cL_law_ 2379 = .ok (.iload 4, 2) := by decide +kernel
theorem dL_law__2381 : decode cL_law_ 2381 = .ok (.iconst 1, 1) := by decide +kernel
theorem dL_law__2382 : decode cL_law_ 2382 = .ok (.iadd, 1) := by decide +kernel
theorem dL_law__2383 : decode cL_law_ 2383 = .ok (.iaload, 1) := by decide +kernel
theorem dL_law__2384 : decode cL_law_ 2384 = .ok (.aload_n 0, 1) := by decide +kernel
theorem dL_law__2385 : decode cL_law_ 2385 = .ok (.iload 4, 2) := by decide +kernel
theorem dL_law__2387 : decode cL_law_ 2387 = .ok (.iconst 2, 1) := by decide +kernel
theorem dL_law__2388 : decode cL_law_ 2388 = .ok (.iadd, 1) := by decide +kernel
theorem dL_law__2389 : decode cL_law_ 2389 = .ok (.iaload, 1) := by decide +kernel
theorem dL_law__2390 : decode cL_law_ 2390 = .ok (.aload_n 0, 1) := by decide +kernel
theorem dL_law__2391 : decode cL_law_ 2391 = .ok (.iload 4, 2) := by decide +kernel
theorem dL_law__2393 : decode cL_law_ 2393 = .ok (.iconst 3, 1) := by decide +kernel
theorem dL_law__2394 : decode cL_law_ 2394 = .ok (.iadd, 1) := by decide +kernel
theorem dL_law__2395 : decode cL_law_ 2395 = .ok (.iaload, 1) := by decide +kernel
theorem dL_law__2396 : decode cL_law_ 2396 = .ok (.aload_n 0, 1) := by decide +kernel
theorem dL_law__2397 : decode cL_law_ 2397 = .ok (.iload 4, 2) := by decide +kernel
theorem dL_law__2399 : decode cL_law_ 2399 = .ok (.iconst 4, 1) := by decide +kernel
theorem dL_law__2400 : decode cL_law_ 2400 = .ok (.iadd, 1) := by decide +kernel
theorem dL_law__2401 : decode cL_law_ 2401 = .ok (.iaload, 1) := by decide +kernel
theorem dL_law__2402 : decode cL_law_ 2402 = .ok (.aload_n 0, 1) := by decide +kernel
theorem dL_law__2403 : decode cL_law_ 2403 = .ok (.iload 4, 2) := by decide +kernel
theorem dL_law__2405 : decode cL_law_ 2405 = .ok (.iconst 5, 1) := by decide +kernel
theorem dL_law__2406 : decode cL_law_ 2406 = .ok (.iadd, 1) := by decide +kernel
theorem dL_law__2407 : decode cL_law_ 2407 = .ok (.iaload, 1) := by decide +kernel
theorem dL_law__2408 : decode cL_law_ 2408 = .ok (.aload_n 3, 1) := by decide +kernel
theorem dL_law__2409 : decode cL_law_ 2409 = .ok (.invokestatic 245, 3) := by decide +kernel
theorem dL_law__2412 : decode cL_law_ 2412 = .ok (.istore 5, 2) := by decide +kernel
theorem dL_law__2414 : decode cL_law_ 2414 = .ok (.aload_n 2, 1) := by decide +kernel
theorem dL_law__2415 : decode cL_law_ 2415 = .ok (.aload_n 0, 1) := by decide +kernel
theorem dL_law__2416 : decode cL_law_ 2416 = .ok (.iload 4, 2) := by decide +kernel
theorem dL_law__2418 : decode cL_law_ 2418 = .ok (.iconst 1, 1) := by decide +kernel
theorem dL_law__2419 : decode cL_law_ 2419 = .ok (.iadd, 1) := by decide +kernel
theorem dL_law__2420 : decode cL_law_ 2420 = .ok (.iaload, 1) := by decide +kernel
theorem dL_law__2421 : decode cL_law_ 2421 = .ok (.aload_n 0, 1) := by decide +kernel
theorem dL_law__2422 : decode cL_law_ 2422 = .ok (.iload 4, 2) := by decide +kernel
theorem dL_law__2424 : decode cL_law_ 2424 = .ok (.iconst 2, 1) := by decide +kernel
theorem dL_law__2425 : decode cL_law_ 2425 = .ok (.iadd, 1) := by decide +kernel
theorem dL_law__2426 : decode cL_law_ 2426 = .ok (.iaload, 1) := by decide +kernel
theorem dL_law__2427 : decode cL_law_ 2427 = .ok (.aload_n 0, 1) := by decide +kernel
theorem dL_law__2428 : decode cL_law_ 2428 = .ok (.iload 4, 2) := by decide +kernel
theorem dL_law__2430 : decode cL_law_ 2430 = .ok (.iconst 3, 1) := by decide +kernel
theorem dL_law__2431 : decode cL_law_ 2431 = .ok (.iadd, 1) := by decide +kernel
theorem dL_law__2432 : decode cL_law_ 2432 = .ok (.iaload, 1) := by decide +kernel
theorem dL_law__2433 : decode cL_law_ 2433 = .ok (.aload_n 0, 1) := by decide +kernel
theorem dL_law__2434 : decode cL_law_ 2434 = .ok (.iload 4, 2) := by decide +kernel
theorem dL_law__2436 : decode cL_law_ 2436 = .ok (.iconst 4, 1) := by decide +kernel
theorem dL_law__2437 : decode cL_law_ 2437 = .ok (.iadd, 1) := by decide +kernel
theorem dL_law__2438 : decode cL_law_ 2438 = .ok (.iaload, 1) := by decide +kernel
theorem dL_law__2439 : decode cL_law_ 2439 = .ok (.aload_n 0, 1) := by decide +kernel
theorem dL_law__2440 : decode cL_law_ 2440 = .ok (.iload 4, 2) := by decide +kernel
theorem dL_law__2442 : decode cL_law_ 2442 = .ok (.iconst 5, 1) := by decide +kernel
theorem dL_law__2443 : decode cL_law_ 2443 = .ok (.iadd, 1) := by decide +kernel
theorem dL_law__2444 : decode cL_law_ 2444 = .ok (.iaload, 1) := by decide +kernel
theorem dL_law__2445 : decode cL_law_ 2445 = .ok (.invokevirtual 247, 3) := by decide +kernel
theorem dL_law__2448 : decode cL_law_ 2448 = .ok (.istore 6, 2) := by decide +kernel
theorem dL_law__2450 : decode cL_law_ 2450 = .ok (.aload_n 2, 1) := by decide +kernel
theorem dL_law__2451 : decode cL_law_ 2451 = .ok (.invokevirtual 147, 3) := by decide +kernel
theorem dL_law__2454 : decode cL_law_ 2454 = .ok (.iload 5, 2) := by decide +kernel
theorem dL_law__2456 : decode cL_law_ 2456 = .ok (.if_icmp .eq 5, 3) := by decide +kernel
theorem dL_law__2459 : decode cL_law_ 2459 = .ok (.iconst 0, 1) := by decide +kernel
theorem dL_law__2460 : decode cL_law_ 2460 = .ok (.ireturn, 1) := by decide +kernel
theorem dL_law__2461 : decode cL_law_ 2461 = .ok (.iload 5, 2) := by decide +kernel
theorem dL_law__2463 : decode cL_law_ 2463 = .ok (.ifCond .ne 15, 3) := by decide +kernel
theorem dL_law__2466 : decode cL_law_ 2466 = .ok (.aload_n 3, 1) := by decide +kernel
theorem dL_law__2467 : decode cL_law_ 2467 = .ok (.iconst 0, 1) := by decide +kernel
theorem dL_law__2468 : decode cL_law_ 2468 = .ok (.laload, 1) := by decide +kernel
theorem dL_law__2469 : decode cL_law_ 2469 = .ok (.iload 6, 2) := by decide +kernel
theorem dL_law__2471 : decode cL_law_ 2471 = .ok (.i2l, 1) := by decide +kernel
theorem dL_law__2472 : decode cL_law_ 2472 = .ok (.lcmp, 1) := by decide +kernel
theorem dL_law__2473 : decode cL_law_ 2473 = .ok (.ifCond .eq 5, 3) := by decide +kernel
theorem dL_law__2476 : decode cL_law_ 2476 = .ok (.iconst 0, 1) := by decide +kernel
theorem dL_law__2477 : decode cL_law_ 2477 = .ok (.ireturn, 1) := by decide +kernel
theorem dL_law__2478 : decode cL_law_ 2478 = .ok (.goto 456, 3) := by decide +kernel
theorem dL_law__2481 : decode cL_law_ 2481 = .ok (.aload_n 1, 1) := by decide +kernel
theorem dL_law__2482 : decode cL_law_ 2482 = .ok (.aload_n 0, 1) := by decide +kernel
theorem dL_law__2483 : decode cL_law_ 2483 = .ok (.iload 4, 2) := by decide +kernel
theorem dL_law__2485 : decode cL_law_ 2485 = .ok (.iconst 1, 1) := by decide +kernel
theorem dL_law__2486 : decode cL_law_ 2486 = .ok (.iadd, 1) := by decide +kernel
theorem dL_law__2487 : decode cL_law_ 2487 = .ok (.iaload, 1) := by decide +kernel
theorem dL_law__2488 : decode cL_law_ 2488 = .ok (.aload_n 0, 1) := by decide +kernel
theorem dL_law__2489 : decode cL_law_ 2489 = .ok (.iload 4, 2) := by decide +kernel
theorem dL_law__2491 : decode cL_law_ 2491 = .ok (.iconst 2, 1) := by decide +kernel
theorem dL_law__2492 : decode cL_law_ 2492 = .ok (.iadd, 1) := by decide +kernel
theorem dL_law__2493 : decode cL_law_ 2493 = .ok (.iaload, 1) := by decide +kernel
theorem dL_law__2494 : decode cL_law_ 2494 = .ok (.aload_n 0, 1) := by decide +kernel
theorem dL_law__2495 : decode cL_law_ 2495 = .ok (.iload 4, 2) := by decide +kernel
theorem dL_law__2497 : decode cL_law_ 2497 = .ok (.iconst 3, 1) := by decide +kernel
theorem dL_law__2498 : decode cL_law_ 2498 = .ok (.iadd, 1) := by decide +kernel
theorem dL_law__2499 : decode cL_law_ 2499 = .ok (.iaload, 1) := by decide +kernel
theorem dL_law__2500 : decode cL_law_ 2500 = .ok (.aload_n 3, 1) := by decide +kernel
theorem dL_law__2501 : decode cL_law_ 2501 = .ok (.invokestatic 248, 3) := by decide +kernel
theorem dL_law__2504 : decode cL_law_ 2504 = .ok (.istore 5, 2) := by decide +kernel
theorem dL_law__2506 : decode cL_law_ 2506 = .ok (.aload_n 2, 1) := by decide +kernel
theorem dL_law__2507 : decode cL_law_ 2507 = .ok (.aload_n 0, 1) := by decide +kernel
theorem dL_law__2508 : decode cL_law_ 2508 = .ok (.iload 4, 2) := by decide +kernel
theorem dL_law__2510 : decode cL_law_ 2510 = .ok (.iconst 1, 1) := by decide +kernel
theorem dL_law__2511 : decode cL_law_ 2511 = .ok (.iadd, 1) := by decide +kernel
theorem dL_law__2512 : decode cL_law_ 2512 = .ok (.iaload, 1) := by decide +kernel
theorem dL_law__2513 : decode cL_law_ 2513 = .ok (.aload_n 0, 1) := by decide +kernel
theorem dL_law__2514 : decode cL_law_ 2514 = .ok (.iload 4, 2) := by decide +kernel
theorem dL_law__2516 : decode cL_law_ 2516 = .ok (.iconst 2, 1) := by decide +kernel
theorem dL_law__2517 : decode cL_law_ 2517 = .ok (.iadd, 1) := by decide +kernel
theorem dL_law__2518 : decode cL_law_ 2518 = .ok (.iaload, 1) := by decide +kernel
theorem dL_law__2519 : decode cL_law_ 2519 = .ok (.aload_n 0, 1) := by decide +kernel
theorem dL_law__2520 : decode cL_law_ 2520 = .ok (.iload 4, 2) := by decide +kernel
theorem dL_law__2522 : decode cL_law_ 2522 = .ok (.iconst 3, 1) := by decide +kernel
theorem dL_law__2523 : decode cL_law_ 2523 = .ok (.iadd, 1) := by decide +kernel
theorem dL_law__2524 : decode cL_law_ 2524 = .ok (.iaload, 1) := by decide +kernel
theorem dL_law__2525 : decode cL_law_ 2525 = .ok (.invokevirtual 250, 3) := by decide +kernel
theorem dL_law__2528 : decode cL_law_ 2528 = .ok (.istore 6, 2) := by decide +kernel
theorem dL_law__2530 : decode cL_law_ 2530 = .ok (.aload_n 2, 1) := by decide +kernel
theorem dL_law__2531 : decode cL_law_ 2531 = .ok (.invokevirtual 147, 3) := by decide +kernel
theorem dL_law__2534 : decode cL_law_ 2534 = .ok (.iload 5, 2) := by decide +kernel
theorem dL_law__2536 : decode cL_law_ 2536 = .ok (.if_icmp .eq 5, 3) := by decide +kernel
theorem dL_law__2539 : decode cL_law_ 2539 = .ok (.iconst 0, 1) := by decide +kernel
theorem dL_law__2540 : decode cL_law_ 2540 = .ok (.ireturn, 1) := by decide +kernel
theorem dL_law__2541 : decode cL_law_ 2541 = .ok (.iload 5, 2) := by decide +kernel
theorem dL_law__2543 : decode cL_law_ 2543 = .ok (.ifCond .ne 15, 3) := by decide +kernel
theorem dL_law__2546 : decode cL_law_ 2546 = .ok (.aload_n 3, 1) := by decide +kernel
theorem dL_law__2547 : decode cL_law_ 2547 = .ok (.iconst 0, 1) := by decide +kernel
theorem dL_law__2548 : decode cL_law_ 2548 = .ok (.laload, 1) := by decide +kernel
theorem dL_law__2549 : decode cL_law_ 2549 = .ok (.iload 6, 2) := by decide +kernel
theorem dL_law__2551 : decode cL_law_ 2551 = .ok (.i2l, 1) := by decide +kernel
theorem dL_law__2552 : decode cL_law_ 2552 = .ok (.lcmp, 1) := by decide +kernel
theorem dL_law__2553 : decode cL_law_ 2553 = .ok (.ifCond .eq 5, 3) := by decide +kernel
theorem dL_law__2556 : decode cL_law_ 2556 = .ok (.iconst 0, 1) := by decide +kernel
theorem dL_law__2557 : decode cL_law_ 2557 = .ok (.ireturn, 1) := by decide +kernel
theorem dL_law__2558 : decode cL_law_ 2558 = .ok (.goto 376, 3) := by decide +kernel
theorem dL_law__2561 : decode cL_law_ 2561 = .ok (.aload_n 1, 1) := by decide +kernel
theorem dL_law__2562 : decode cL_law_ 2562 = .ok (.aload_n 0, 1) := by decide +kernel
theorem dL_law__2563 : decode cL_law_ 2563 = .ok (.iload 4, 2) := by decide +kernel
theorem dL_law__2565 : decode cL_law_ 2565 = .ok (.iconst 1, 1) := by decide +kernel
theorem dL_law__2566 : decode cL_law_ 2566 = .ok (.iadd, 1) := by decide +kernel
theorem dL_law__2567 : decode cL_law_ 2567 = .ok (.iaload, 1) := by decide +kernel
theorem dL_law__2568 : decode cL_law_ 2568 = .ok (.aload_n 0, 1) := by decide +kernel
theorem dL_law__2569 : decode cL_law_ 2569 = .ok (.iload 4, 2) := by decide +kernel
theorem dL_law__2571 : decode cL_law_ 2571 = .ok (.iconst 2, 1) := by decide +kernel
theorem dL_law__2572 : decode cL_law_ 2572 = .ok (.iadd, 1) := by decide +kernel
theorem dL_law__2573 : decode cL_law_ 2573 = .ok (.iaload, 1) := by decide +kernel
theorem dL_law__2574 : decode cL_law_ 2574 = .ok (.invokestatic 251, 3) := by decide +kernel
theorem dL_law__2577 : decode cL_law_ 2577 = .ok (.istore 5, 2) := by decide +kernel
theorem dL_law__2579 : decode cL_law_ 2579 = .ok (.aload_n 2, 1) := by decide +kernel
theorem dL_law__2580 : decode cL_law_ 2580 = .ok (.aload_n 0, 1) := by decide +kernel
theorem dL_law__2581 : decode cL_law_ 2581 = .ok (.iload 4, 2) := by decide +kernel
theorem dL_law__2583 : decode cL_law_ 2583 = .ok (.iconst 1, 1) := by decide +kernel
theorem dL_law__2584 : decode cL_law_ 2584 = .ok (.iadd, 1) := by decide +kernel
theorem dL_law__2585 : decode cL_law_ 2585 = .ok (.iaload, 1) := by decide +kernel
theorem dL_law__2586 : decode cL_law_ 2586 = .ok (.aload_n 0, 1) := by decide +kernel
theorem dL_law__2587 : decode cL_law_ 2587 = .ok (.iload 4, 2) := by decide +kernel
theorem dL_law__2589 : decode cL_law_ 2589 = .ok (.iconst 2, 1) := by decide +kernel
theorem dL_law__2590 : decode cL_law_ 2590 = .ok (.iadd, 1) := by decide +kernel
theorem dL_law__2591 : decode cL_law_ 2591 = .ok (.iaload, 1) := by decide +kernel
theorem dL_law__2592 : decode cL_law_ 2592 = .ok (.invokevirtual 254, 3) := by decide +kernel
theorem dL_law__2595 : decode cL_law_ 2595 = .ok (.aload_n 2, 1) := by decide +kernel
theorem dL_law__2596 : decode cL_law_ 2596 = .ok (.invokevirtual 147, 3) := by decide +kernel
theorem dL_law__2599 : decode cL_law_ 2599 = .ok (.iload 5, 2) := by decide +kernel
theorem dL_law__2601 : decode cL_law_ 2601 = .ok (.if_icmp .eq 5, 3) := by decide +kernel
theorem dL_law__2604 : decode cL_law_ 2604 = .ok (.iconst 0, 1) := by decide +kernel
theorem dL_law__2605 : decode cL_law_ 2605 = .ok (.ireturn, 1) := by decide +kernel
theorem dL_law__2606 : decode cL_law_ 2606 = .ok (.goto 328, 3) := by decide +kernel
theorem dL_law__2609 : decode cL_law_ 2609 = .ok (.aload_n 1, 1) := by decide +kernel
theorem dL_law__2610 : decode cL_law_ 2610 = .ok (.aload_n 0, 1) := by decide +kernel
theorem dL_law__2611 : decode cL_law_ 2611 = .ok (.iload 4, 2) := by decide +kernel
theorem dL_law__2613 : decode cL_law_ 2613 = .ok (.iconst 1, 1) := by decide +kernel
theorem dL_law__2614 : decode cL_law_ 2614 = .ok (.iadd, 1) := by decide +kernel
theorem dL_law__2615 : decode cL_law_ 2615 = .ok (.iaload, 1) := by decide +kernel
theorem dL_law__2616 : decode cL_law_ 2616 = .ok (.aload_n 0, 1) := by decide +kernel
theorem dL_law__2617 : decode cL_law_ 2617 = .ok (.iload 4, 2) := by decide +kernel
theorem dL_law__2619 : decode cL_law_ 2619 = .ok (.iconst 2, 1) := by decide +kernel
theorem dL_law__2620 : decode cL_law_ 2620 = .ok (.iadd, 1) := by decide +kernel
theorem dL_law__2621 : decode cL_law_ 2621 = .ok (.iaload, 1) := by decide +kernel
theorem dL_law__2622 : decode cL_law_ 2622 = .ok (.ifCond .eq 7, 3) := by decide +kernel
theorem dL_law__2625 : decode cL_law_ 2625 = .ok (.iconst 1, 1) := by decide +kernel
theorem dL_law__2626 : decode cL_law_ 2626 = .ok (.goto 4, 3) := by decide +kernel
theorem dL_law__2629 : decode cL_law_ 2629 = .ok (.iconst 0, 1) := by decide +kernel
theorem dL_law__2630 : decode cL_law_ 2630 = .ok (.aload_n 3, 1) := by decide +kernel
theorem dL_law__2631 : decode cL_law_ 2631 = .ok (.invokestatic 255, 3) := by decide +kernel
theorem dL_law__2634 : decode cL_law_ 2634 = .ok (.istore 5, 2) := by decide +kernel
theorem dL_law__2636 : decode cL_law_ 2636 = .ok (.aload_n 2, 1) := by decide +kernel
theorem dL_law__2637 : decode cL_law_ 2637 = .ok (.aload_n 0, 1) := by decide +kernel
theorem dL_law__2638 : decode cL_law_ 2638 = .ok (.iload 4, 2) := by decide +kernel
theorem dL_law__2640 : decode cL_law_ 2640 = .ok (.iconst 1, 1) := by decide +kernel
theorem dL_law__2641 : decode cL_law_ 2641 = .ok (.iadd, 1) := by decide +kernel
theorem dL_law__2642 : decode cL_law_ 2642 = .ok (.iaload, 1) := by decide +kernel
theorem dL_law__2643 : decode cL_law_ 2643 = .ok (.aload_n 0, 1) := by decide +kernel
theorem dL_law__2644 : decode cL_law_ 2644 = .ok (.iload 4, 2) := by decide +kernel
theorem dL_law__2646 : decode cL_law_ 2646 = .ok (.iconst 2, 1) := by decide +kernel
theorem dL_law__2647 : decode cL_law_ 2647 = .ok (.iadd, 1) := by decide +kernel
theorem dL_law__2648 : decode cL_law_ 2648 = .ok (.iaload, 1) := by decide +kernel
theorem dL_law__2649 : decode cL_law_ 2649 = .ok (.ifCond .eq 7, 3) := by decide +kernel
theorem dL_law__2652 : decode cL_law_ 2652 = .ok (.iconst 1, 1) := by decide +kernel
theorem dL_law__2653 : decode cL_law_ 2653 = .ok (.goto 4, 3) := by decide +kernel
theorem dL_law__2656 : decode cL_law_ 2656 = .ok (.iconst 0, 1) := by decide +kernel
theorem dL_law__2657 : decode cL_law_ 2657 = .ok (.invokevirtual 258, 3) := by decide +kernel
theorem dL_law__2660 : decode cL_law_ 2660 = .ok (.lstore 6, 2) := by decide +kernel
theorem dL_law__2662 : decode cL_law_ 2662 = .ok (.aload_n 2, 1) := by decide +kernel
theorem dL_law__2663 : decode cL_law_ 2663 = .ok (.invokevirtual 147, 3) := by decide +kernel
theorem dL_law__2666 : decode cL_law_ 2666 = .ok (.iload 5, 2) := by decide +kernel
theorem dL_law__2668 : decode cL_law_ 2668 = .ok (.if_icmp .eq 5, 3) := by decide +kernel
theorem dL_law__2671 : decode cL_law_ 2671 = .ok (.iconst 0, 1) := by decide +kernel
theorem dL_law__2672 : decode cL_law_ 2672 = .ok (.ireturn, 1) := by decide +kernel
theorem dL_law__2673 : decode cL_law_ 2673 = .ok (.iload 5, 2) := by decide +kernel
theorem dL_law__2675 : decode cL_law_ 2675 = .ok (.ifCond .ne 14, 3) := by decide +kernel
theorem dL_law__2678 : decode cL_law_ 2678 = .ok (.aload_n 3, 1) := by decide +kernel
theorem dL_law__2679 : decode cL_law_ 2679 = .ok (.iconst 0, 1) := by decide +kernel
theorem dL_law__2680 : decode cL_law_ 2680 = .ok (.laload, 1) := by decide +kernel
theorem dL_law__2681 : decode cL_law_ 2681 = .ok (.lload 6, 2) := by decide +kernel
theorem dL_law__2683 : decode cL_law_ 2683 = .ok (.lcmp, 1) := by decide +kernel
theorem dL_law__2684 : decode cL_law_ 2684 = .ok (.ifCond .eq 5, 3) := by decide +kernel
theorem dL_law__2687 : decode cL_law_ 2687 = .ok (.iconst 0, 1) := by decide +kernel
theorem dL_law__2688 : decode cL_law_ 2688 = .ok (.ireturn, 1) := by decide +kernel
theorem dL_law__2689 : decode cL_law_ 2689 = .ok (.goto 245, 3) := by decide +kernel
theorem dL_law__2692 : decode cL_law_ 2692 = .ok (.aload_n 1, 1) := by decide +kernel
theorem dL_law__2693 : decode cL_law_ 2693 = .ok (.aload_n 0, 1) := by decide +kernel
theorem dL_law__2694 : decode cL_law_ 2694 = .ok (.iload 4, 2) := by decide +kernel
theorem dL_law__2696 : decode cL_law_ 2696 = .ok (.iconst 1, 1) := by decide +kernel
theorem dL_law__2697 : decode cL_law_ 2697 = .ok (.iadd, 1) := by decide +kernel
theorem dL_law__2698 : decode cL_law_ 2698 = .ok (.iaload, 1) := by decide +kernel
theorem dL_law__2699 : decode cL_law_ 2699 = .ok (.aload_n 3, 1) := by decide +kernel
theorem dL_law__2700 : decode cL_law_ 2700 = .ok (.invokestatic 259, 3) := by decide +kernel
theorem dL_law__2703 : decode cL_law_ 2703 = .ok (.istore 5, 2) := by decide +kernel
theorem dL_law__2705 : decode cL_law_ 2705 = .ok (.aload_n 2, 1) := by decide +kernel
theorem dL_law__2706 : decode cL_law_ 2706 = .ok (.aload_n 0, 1) := by decide +kernel
theorem dL_law__2707 : decode cL_law_ 2707 = .ok (.iload 4, 2) := by decide +kernel
theorem dL_law__2709 : decode cL_law_ 2709 = .ok (.iconst 1, 1) := by decide +kernel
theorem dL_law__2710 : decode cL_law_ 2710 = .ok (.iadd, 1) := by decide +kernel
theorem dL_law__2711 : decode cL_law_ 2711 = .ok (.iaload, 1) := by decide +kernel
theorem dL_law__2712 : decode cL_law_ 2712 = .ok (.invokevirtual 261, 3) := by decide +kernel
theorem dL_law__2715 : decode cL_law_ 2715 = .ok (.istore 6, 2) := by decide +kernel
theorem dL_law__2717 : decode cL_law_ 2717 = .ok (.aload_n 2, 1) := by decide +kernel
theorem dL_law__2718 : decode cL_law_ 2718 = .ok (.invokevirtual 147, 3) := by decide +kernel
theorem dL_law__2721 : decode cL_law_ 2721 = .ok (.iload 5, 2) := by decide +kernel
theorem dL_law__2723 : decode cL_law_ 2723 = .ok (.if_icmp .eq 5, 3) := by decide +kernel
theorem dL_law__2726 : decode cL_law_ 2726 = .ok (.iconst 0, 1) := by decide +kernel
theorem dL_law__2727 : decode cL_law_ 2727 = .ok (.ireturn, 1) := by decide +kernel
theorem dL_law__2728 : decode cL_law_ 2728 = .ok (.iload 5, 2) := by decide +kernel
theorem dL_law__2730 : decode cL_law_ 2730 = .ok (.ifCond .ne 15, 3) := by decide +kernel
theorem dL_law__2733 : decode cL_law_ 2733 = .ok (.aload_n 3, 1) := by decide +kernel
theorem dL_law__2734 : decode cL_law_ 2734 = .ok (.iconst 0, 1) := by decide +kernel
theorem dL_law__2735 : decode cL_law_ 2735 = .ok (.laload, 1) := by decide +kernel
theorem dL_law__2736 : decode cL_law_ 2736 = .ok (.iload 6, 2) := by decide +kernel
theorem dL_law__2738 : decode cL_law_ 2738 = .ok (.i2l, 1) := by decide +kernel
theorem dL_law__2739 : decode cL_law_ 2739 = .ok (.lcmp, 1) := by decide +kernel
theorem dL_law__2740 : decode cL_law_ 2740 = .ok (.ifCond .eq 5, 3) := by decide +kernel
theorem dL_law__2743 : decode cL_law_ 2743 = .ok (.iconst 0, 1) := by decide +kernel
theorem dL_law__2744 : decode cL_law_ 2744 = .ok (.ireturn, 1) := by decide +kernel
theorem dL_law__2745 : decode cL_law_ 2745 = .ok (.goto 189, 3) := by decide +kernel
theorem dL_law__2748 : decode cL_law_ 2748 = .ok (.aload_n 1, 1) := by decide +kernel
theorem dL_law__2749 : decode cL_law_ 2749 = .ok (.aload_n 0, 1) := by decide +kernel
theorem dL_law__2750 : decode cL_law_ 2750 = .ok (.iload 4, 2) := by decide +kernel
theorem dL_law__2752 : decode cL_law_ 2752 = .ok (.iconst 1, 1) := by decide +kernel
theorem dL_law__2753 : decode cL_law_ 2753 = .ok (.iadd, 1) := by decide +kernel
theorem dL_law__2754 : decode cL_law_ 2754 = .ok (.iaload, 1) := by decide +kernel
theorem dL_law__2755 : decode cL_law_ 2755 = .ok (.aload_n 0, 1) := by decide +kernel
theorem dL_law__2756 : decode cL_law_ 2756 = .ok (.iload 4, 2) := by decide +kernel
theorem dL_law__2758 : decode cL_law_ 2758 = .ok (.iconst 2, 1) := by decide +kernel
theorem dL_law__2759 : decode cL_law_ 2759 = .ok (.iadd, 1) := by decide +kernel
theorem dL_law__2760 : decode cL_law_ 2760 = .ok (.iaload, 1) := by decide +kernel
theorem dL_law__2761 : decode cL_law_ 2761 = .ok (.aload_n 3, 1) := by decide +kernel
theorem dL_law__2762 : decode cL_law_ 2762 = .ok (.invokestatic 262, 3) := by decide +kernel
theorem dL_law__2765 : decode cL_law_ 2765 = .ok (.istore 5, 2) := by decide +kernel
theorem dL_law__2767 : decode cL_law_ 2767 = .ok (.aload_n 2, 1) := by decide +kernel
theorem dL_law__2768 : decode cL_law_ 2768 = .ok (.aload_n 0, 1) := by decide +kernel
theorem dL_law__2769 : decode cL_law_ 2769 = .ok (.iload 4, 2) := by decide +kernel
theorem dL_law__2771 : decode cL_law_ 2771 = .ok (.iconst 1, 1) := by decide +kernel
theorem dL_law__2772 : decode cL_law_ 2772 = .ok (.iadd, 1) := by decide +kernel
theorem dL_law__2773 : decode cL_law_ 2773 = .ok (.iaload, 1) := by decide +kernel
theorem dL_law__2774 : decode cL_law_ 2774 = .ok (.aload_n 0, 1) := by decide +kernel
theorem dL_law__2775 : decode cL_law_ 2775 = .ok (.iload 4, 2) := by decide +kernel
theorem dL_law__2777 : decode cL_law_ 2777 = .ok (.iconst 2, 1) := by decide +kernel
theorem dL_law__2778 : decode cL_law_ 2778 = .ok (.iadd, 1) := by decide +kernel
theorem dL_law__2779 : decode cL_law_ 2779 = .ok (.iaload, 1) := by decide +kernel
theorem dL_law__2780 : decode cL_law_ 2780 = .ok (.invokevirtual 264, 3) := by decide +kernel
theorem dL_law__2783 : decode cL_law_ 2783 = .ok (.istore 6, 2) := by decide +kernel
theorem dL_law__2785 : decode cL_law_ 2785 = .ok (.aload_n 2, 1) := by decide +kernel
theorem dL_law__2786 : decode cL_law_ 2786 = .ok (.invokevirtual 147, 3) := by decide +kernel
theorem dL_law__2789 : decode cL_law_ 2789 = .ok (.iload 5, 2) := by decide +kernel
theorem dL_law__2791 : decode cL_law_ 2791 = .ok (.if_icmp .eq 5, 3) := by decide +kernel
theorem dL_law__2794 : decode cL_law_ 2794 = .ok (.iconst 0, 1) := by decide +kernel
theorem dL_law__2795 : decode cL_law_ 2795 = .ok (.ireturn, 1) := by decide +kernel
theorem dL_law__2796 : decode cL_law_ 2796 = .ok (.iload 5, 2) := by decide +kernel
theorem dL_law__2798 : decode cL_law_ 2798 = .ok (.ifCond .ne 15, 3) := by decide +kernel
theorem dL_law__2801 : decode cL_law_ 2801 = .ok (.aload_n 3, 1) := by decide +kernel
theorem dL_law__2802 : decode cL_law_ 2802 = .ok (.iconst 0, 1) := by decide +kernel
theorem dL_law__2803 : decode cL_law_ 2803 = .ok (.laload, 1) := by decide +kernel
theorem dL_law__2804 : decode cL_law_ 2804 = .ok (.iload 6, 2) := by decide +kernel
theorem dL_law__2806 : decode cL_law_ 2806 = .ok (.i2l, 1) := by decide +kernel
theorem dL_law__2807 : decode cL_law_ 2807 = .ok (.lcmp, 1) := by decide +kernel
theorem dL_law__2808 : decode cL_law_ 2808 = .ok (.ifCond .eq 5, 3) := by decide +kernel
theorem dL_law__2811 : decode cL_law_ 2811 = .ok (.iconst 0, 1) := by decide +kernel
theorem dL_law__2812 : decode cL_law_ 2812 = .ok (.ireturn, 1) := by decide +kernel
theorem dL_law__2813 : decode cL_law_ 2813 = .ok (.goto 121, 3) := by decide +kernel
theorem dL_law__2816 : decode cL_law_ 2816 = .ok (.aload_n 1, 1) := by decide +kernel
theorem dL_law__2817 : decode cL_law_ 2817 = .ok (.invokevirtual 265, 3) := by decide +kernel
theorem dL_law__2820 : decode cL_law_ 2820 = .ok (.aload_n 2, 1) := by decide +kernel
theorem dL_law__2821 : decode cL_law_ 2821 = .ok (.invokevirtual 268, 3) := by decide +kernel
theorem dL_law__2824 : decode cL_law_ 2824 = .ok (.if_icmp .eq 110, 3) := by decide +kernel
theorem dL_law__2827 : decode cL_law_ 2827 = .ok (.iconst 0, 1) := by decide +kernel
theorem dL_law__2828 : decode cL_law_ 2828 = .ok (.ireturn, 1) := by decide +kernel
theorem dL_law__2829 : decode cL_law_ 2829 = .ok (.aload_n 1, 1) := by decide +kernel
theorem dL_law__2830 : decode cL_law_ 2830 = .ok (.aload_n 0, 1) := by decide +kernel
theorem dL_law__2831 : decode cL_law_ 2831 = .ok (.iload 4, 2) := by decide +kernel
theorem dL_law__2833 : decode cL_law_ 2833 = .ok (.iconst 1, 1) := by decide +kernel
theorem dL_law__2834 : decode cL_law_ 2834 = .ok (.iadd, 1) := by decide +kernel
theorem dL_law__2835 : decode cL_law_ 2835 = .ok (.iaload, 1) := by decide +kernel
theorem dL_law__2836 : decode cL_law_ 2836 = .ok (.aload_n 3, 1) := by decide +kernel
theorem dL_law__2837 : decode cL_law_ 2837 = .ok (.invokestatic 269, 3) := by decide +kernel
theorem dL_law__2840 : decode cL_law_ 2840 = .ok (.istore 5, 2) := by decide +kernel
theorem dL_law__2842 : decode cL_law_ 2842 = .ok (.aload_n 2, 1) := by decide +kernel
theorem dL_law__2843 : decode cL_law_ 2843 = .ok (.aload_n 0, 1) := by decide +kernel
theorem dL_law__2844 : decode cL_law_ 2844 = .ok (.iload 4, 2) := by decide +kernel
theorem dL_law__2846 : decode cL_law_ 2846 = .ok (.iconst 1, 1) := by decide +kernel
theorem dL_law__2847 : decode cL_law_ 2847 = .ok (.iadd, 1) := by decide +kernel
theorem dL_law__2848 : decode cL_law_ 2848 = .ok (.iaload, 1) := by decide +kernel
theorem dL_law__2849 : decode cL_law_ 2849 = .ok (.invokevirtual 271, 3) := by decide +kernel
theorem dL_law__2852 : decode cL_law_ 2852 = .ok (.istore 6, 2) := by decide +kernel
theorem dL_law__2854 : decode cL_law_ 2854 = .ok (.aload_n 2, 1) := by decide +kernel
theorem dL_law__2855 : decode cL_law_ 2855 = .ok (.invokevirtual 147, 3) := by decide +kernel
theorem dL_law__2858 : decode cL_law_ 2858 = .ok (.iload 5, 2) := by decide +kernel
theorem dL_law__2860 : decode cL_law_ 2860 = .ok (.if_icmp .eq 5, 3) := by decide +kernel
theorem dL_law__2863 : decode cL_law_ 2863 = .ok (.iconst 0, 1) := by decide +kernel
theorem dL_law__2864 : decode cL_law_ 2864 = .ok (.ireturn, 1) := by decide +kernel
theorem dL_law__2865 : decode cL_law_ 2865 = .ok (.iload 5, 2) := by decide +kernel
theorem dL_law__2867 : decode cL_law_ 2867 = .ok (.ifCond .ne 15, 3) := by decide +kernel
theorem dL_law__2870 : decode cL_law_ 2870 = .ok (.aload_n 3, 1) := by decide +kernel
theorem dL_law__2871 : decode cL_law_ 2871 = .ok (.iconst 0, 1) := by decide +kernel
theorem dL_law__2872 : decode cL_law_ 2872 = .ok (.laload, 1) := by decide +kernel
theorem dL_law__2873 : decode cL_law_ 2873 = .ok (.iload 6, 2) := by decide +kernel
theorem dL_law__2875 : decode cL_law_ 2875 = .ok (.i2l, 1) := by decide +kernel
theorem dL_law__2876 : decode cL_law_ 2876 = .ok (.lcmp, 1) := by decide +kernel
theorem dL_law__2877 : decode cL_law_ 2877 = .ok (.ifCond .eq 5, 3) := by decide +kernel
theorem dL_law__2880 : decode cL_law_ 2880 = .ok (.iconst 0, 1) := by decide +kernel
theorem dL_law__2881 : decode cL_law_ 2881 = .ok (.ireturn, 1) := by decide +kernel
theorem dL_law__2882 : decode cL_law_ 2882 = .ok (.goto 52, 3) := by decide +kernel
theorem dL_law__2885 : decode cL_law_ 2885 = .ok (.aload_n 1, 1) := by decide +kernel
theorem dL_law__2886 : decode cL_law_ 2886 = .ok (.invokevirtual 272, 3) := by decide +kernel
theorem dL_law__2889 : decode cL_law_ 2889 = .ok (.aload_n 2, 1) := by decide +kernel
theorem dL_law__2890 : decode cL_law_ 2890 = .ok (.invokevirtual 275, 3) := by decide +kernel
theorem dL_law__2893 : decode cL_law_ 2893 = .ok (.goto 41, 3) := by decide +kernel
theorem dL_law__2896 : decode cL_law_ 2896 = .ok (.aload_n 1, 1) := by decide +kernel
theorem dL_law__2897 : decode cL_law_ 2897 = .ok (.invokevirtual 276, 3) := by decide +kernel
theorem dL_law__2900 : decode cL_law_ 2900 = .ok (.aload_n 2, 1) := by decide +kernel
theorem dL_law__2901 : decode cL_law_ 2901 = .ok (.invokevirtual 280, 3) := by decide +kernel
theorem dL_law__2904 : decode cL_law_ 2904 = .ok (.if_icmp .eq 30, 3) := by decide +kernel
theorem dL_law__2907 : decode cL_law_ 2907 = .ok (.iconst 0, 1) := by decide +kernel
theorem dL_law__2908 : decode cL_law_ 2908 = .ok (.ireturn, 1) := by decide +kernel
theorem dL_law__2909 : decode cL_law_ 2909 = .ok (.aload_n 1, 1) := by decide +kernel
theorem dL_law__2910 : decode cL_law_ 2910 = .ok (.aload_n 0, 1) := by decide +kernel
theorem dL_law__2911 : decode cL_law_ 2911 = .ok (.iload 4, 2) := by decide +kernel
theorem dL_law__2913 : decode cL_law_ 2913 = .ok (.iconst 1, 1) := by decide +kernel
theorem dL_law__2914 : decode cL_law_ 2914 = .ok (.iadd, 1) := by decide +kernel
theorem dL_law__2915 : decode cL_law_ 2915 = .ok (.iaload, 1) := by decide +kernel
theorem dL_law__2916 : decode cL_law_ 2916 = .ok (.invokevirtual 281, 3) := by decide +kernel
theorem dL_law__2919 : decode cL_law_ 2919 = .ok (.aload_n 2, 1) := by decide +kernel
theorem dL_law__2920 : decode cL_law_ 2920 = .ok (.aload_n 0, 1) := by decide +kernel
theorem dL_law__2921 : decode cL_law_ 2921 = .ok (.iload 4, 2) := by decide +kernel
theorem dL_law__2923 : decode cL_law_ 2923 = .ok (.iconst 1, 1) := by decide +kernel
theorem dL_law__2924 : decode cL_law_ 2924 = .ok (.iadd, 1) := by decide +kernel
theorem dL_law__2925 : decode cL_law_ 2925 = .ok (.iaload, 1) := by decide +kernel
theorem dL_law__2926 : decode cL_law_ 2926 = .ok (.invokevirtual 284, 3) := by decide +kernel
theorem dL_law__2929 : decode cL_law_ 2929 = .ok (.if_icmp .eq 5, 3) := by decide +kernel
theorem dL_law__2932 : decode cL_law_ 2932 = .ok (.iconst 0, 1) := by decide +kernel
theorem dL_law__2933 : decode cL_law_ 2933 = .ok (.ireturn, 1) := by decide +kernel
theorem dL_law__2934 : decode cL_law_ 2934 = .ok (.iinc 4 6, 3) := by decide +kernel
theorem dL_law__2937 : decode cL_law_ 2937 = .ok (.goto (-2914), 3) := by decide +kernel
theorem dL_law__2940 : decode cL_law_ 2940 = .ok (.iconst 1, 1) := by decide +kernel
theorem dL_law__2941 : decode cL_law_ 2941 = .ok (.ireturn, 1) := by decide +kernel
