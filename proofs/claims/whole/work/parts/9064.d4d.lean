/-! decode rows: the law -/
theorem d290_2263 : decode code 2263 = .ok (.iconst 0, 1) := by decide +kernel
theorem d290_2264 : decode code 2264 = .ok (.ireturn, 1) := by decide +kernel
theorem d290_2265 : decode code 2265 = .ok (.goto 736, 3) := by decide +kernel
theorem d290_2268 : decode code 2268 = .ok (.aload_n 1, 1) := by decide +kernel
theorem d290_2269 : decode code 2269 = .ok (.aload_n 0, 1) := by decide +kernel
theorem d290_2270 : decode code 2270 = .ok (.iload 5, 2) := by decide +kernel
theorem d290_2272 : decode code 2272 = .ok (.iconst 1, 1) := by decide +kernel
theorem d290_2273 : decode code 2273 = .ok (.iadd, 1) := by decide +kernel
theorem d290_2274 : decode code 2274 = .ok (.iaload, 1) := by decide +kernel
theorem d290_2275 : decode code 2275 = .ok (.aload_n 3, 1) := by decide +kernel
theorem d290_2276 : decode code 2276 = .ok (.invokestatic 279, 3) := by decide +kernel
theorem d290_2279 : decode code 2279 = .ok (.istore 6, 2) := by decide +kernel
theorem d290_2281 : decode code 2281 = .ok (.aload_n 2, 1) := by decide +kernel
theorem d290_2282 : decode code 2282 = .ok (.aload_n 0, 1) := by decide +kernel
theorem d290_2283 : decode code 2283 = .ok (.iload 5, 2) := by decide +kernel
theorem d290_2285 : decode code 2285 = .ok (.iconst 1, 1) := by decide +kernel
theorem d290_2286 : decode code 2286 = .ok (.iadd, 1) := by decide +kernel
theorem d290_2287 : decode code 2287 = .ok (.iaload, 1) := by decide +kernel
theorem d290_2288 : decode code 2288 = .ok (.invokevirtual 281, 3) := by decide +kernel
theorem d290_2291 : decode code 2291 = .ok (.istore 7, 2) := by decide +kernel
theorem d290_2293 : decode code 2293 = .ok (.aload_n 2, 1) := by decide +kernel
theorem d290_2294 : decode code 2294 = .ok (.invokevirtual 172, 3) := by decide +kernel
theorem d290_2297 : decode code 2297 = .ok (.iload 6, 2) := by decide +kernel
theorem d290_2299 : decode code 2299 = .ok (.if_icmp .eq 5, 3) := by decide +kernel
theorem d290_2302 : decode code 2302 = .ok (.iconst 0, 1) := by decide +kernel
theorem d290_2303 : decode code 2303 = .ok (.ireturn, 1) := by decide +kernel
theorem d290_2304 : decode code 2304 = .ok (.iload 6, 2) := by decide +kernel
theorem d290_2306 : decode code 2306 = .ok (.ifCond .ne 15, 3) := by decide +kernel
theorem d290_2309 : decode code 2309 = .ok (.aload_n 3, 1) := by decide +kernel
theorem d290_2310 : decode code 2310 = .ok (.iconst 0, 1) := by decide +kernel
theorem d290_2311 : decode code 2311 = .ok (.laload, 1) := by decide +kernel
theorem d290_2312 : decode code 2312 = .ok (.iload 7, 2) := by decide +kernel
theorem d290_2314 : decode code 2314 = .ok (.i2l, 1) := by decide +kernel
theorem d290_2315 : decode code 2315 = .ok (.lcmp, 1) := by decide +kernel
theorem d290_2316 : decode code 2316 = .ok (.ifCond .eq 5, 3) := by decide +kernel
theorem d290_2319 : decode code 2319 = .ok (.iconst 0, 1) := by decide +kernel
theorem d290_2320 : decode code 2320 = .ok (.ireturn, 1) := by decide +kernel
theorem d290_2321 : decode code 2321 = .ok (.goto 680, 3) := by decide +kernel
theorem d290_2324 : decode code 2324 = .ok (.aload_n 1, 1) := by decide +kernel
theorem d290_2325 : decode code 2325 = .ok (.invokevirtual 282, 3) := by decide +kernel
theorem d290_2328 : decode code 2328 = .ok (.aload_n 2, 1) := by decide +kernel
theorem d290_2329 : decode code 2329 = .ok (.invokevirtual 286, 3) := by decide +kernel
theorem d290_2332 : decode code 2332 = .ok (.lcmp, 1) := by decide +kernel
theorem d290_2333 : decode code 2333 = .ok (.ifCond .eq 668, 3) := by decide +kernel
theorem d290_2336 : decode code 2336 = .ok (.iconst 0, 1) := by decide +kernel
theorem d290_2337 : decode code 2337 = .ok (.ireturn, 1) := by decide +kernel
theorem d290_2338 : decode code 2338 = .ok (.aload_n 1, 1) := by decide +kernel
theorem d290_2339 : decode code 2339 = .ok (.invokevirtual 287, 3) := by decide +kernel
theorem d290_2342 : decode code 2342 = .ok (.aload_n 2, 1) := by decide +kernel
theorem d290_2343 : decode code 2343 = .ok (.invokevirtual 290, 3) := by decide +kernel
theorem d290_2346 : decode code 2346 = .ok (.lcmp, 1) := by decide +kernel
theorem d290_2347 : decode code 2347 = .ok (.ifCond .eq 654, 3) := by decide +kernel
theorem d290_2350 : decode code 2350 = .ok (.iconst 0, 1) := by decide +kernel
theorem d290_2351 : decode code 2351 = .ok (.ireturn, 1) := by decide +kernel
theorem d290_2352 : decode code 2352 = .ok (.aload_n 1, 1) := by decide +kernel
theorem d290_2353 : decode code 2353 = .ok (.invokevirtual 291, 3) := by decide +kernel
theorem d290_2356 : decode code 2356 = .ok (.aload_n 2, 1) := by decide +kernel
theorem d290_2357 : decode code 2357 = .ok (.invokevirtual 294, 3) := by decide +kernel
theorem d290_2360 : decode code 2360 = .ok (.if_icmp .eq 641, 3) := by decide +kernel
theorem d290_2363 : decode code 2363 = .ok (.iconst 0, 1) := by decide +kernel
theorem d290_2364 : decode code 2364 = .ok (.ireturn, 1) := by decide +kernel
theorem d290_2365 : decode code 2365 = .ok (.aload_n 1, 1) := by decide +kernel
theorem d290_2366 : decode code 2366 = .ok (.aload 4, 2) := by decide +kernel
theorem d290_2368 : decode code 2368 = .ok (.invokestatic 295, 3) := by decide +kernel
theorem d290_2371 : decode code 2371 = .ok (.istore 6, 2) := by decide +kernel
theorem d290_2373 : decode code 2373 = .ok (.aload_n 2, 1) := by decide +kernel
theorem d290_2374 : decode code 2374 = .ok (.invokevirtual 298, 3) := by decide +kernel
theorem d290_2377 : decode code 2377 = .ok (.dstore 7, 2) := by decide +kernel
theorem d290_2379 : decode code 2379 = .ok (.aload_n 2, 1) := by decide +kernel
theorem d290_2380 : decode code 2380 = .ok (.invokevirtual 172, 3) := by decide +kernel
theorem d290_2383 : decode code 2383 = .ok (.iload 6, 2) := by decide +kernel
theorem d290_2385 : decode code 2385 = .ok (.if_icmp .eq 5, 3) := by decide +kernel
theorem d290_2388 : decode code 2388 = .ok (.iconst 0, 1) := by decide +kernel
theorem d290_2389 : decode code 2389 = .ok (.ireturn, 1) := by decide +kernel
theorem d290_2390 : decode code 2390 = .ok (.iload 6, 2) := by decide +kernel
theorem d290_2392 : decode code 2392 = .ok (.ifCond .ne 35, 3) := by decide +kernel
theorem d290_2395 : decode code 2395 = .ok (.aload 4, 2) := by decide +kernel
theorem d290_2397 : decode code 2397 = .ok (.iconst 0, 1) := by decide +kernel
theorem d290_2398 : decode code 2398 = .ok (.daload, 1) := by decide +kernel
theorem d290_2399 : decode code 2399 = .ok (.dload 7, 2) := by decide +kernel
theorem d290_2401 : decode code 2401 = .ok (.dcmp .l, 1) := by decide +kernel
theorem d290_2402 : decode code 2402 = .ok (.ifCond .eq 25, 3) := by decide +kernel
theorem d290_2405 : decode code 2405 = .ok (.aload 4, 2) := by decide +kernel
theorem d290_2407 : decode code 2407 = .ok (.iconst 0, 1) := by decide +kernel
theorem d290_2408 : decode code 2408 = .ok (.daload, 1) := by decide +kernel
theorem d290_2409 : decode code 2409 = .ok (.aload 4, 2) := by decide +kernel
theorem d290_2411 : decode code 2411 = .ok (.iconst 0, 1) := by decide +kernel
theorem d290_2412 : decode code 2412 = .ok (.daload, 1) := by decide +kernel
theorem d290_2413 : decode code 2413 = .ok (.dcmp .l, 1) := by decide +kernel
theorem d290_2414 : decode code 2414 = .ok (.ifCond .eq 11, 3) := by decide +kernel
theorem d290_2417 : decode code 2417 = .ok (.dload 7, 2) := by decide +kernel
theorem d290_2419 : decode code 2419 = .ok (.dload 7, 2) := by decide +kernel
theorem d290_2421 : decode code 2421 = .ok (.dcmp .l, 1) := by decide +kernel
theorem d290_2422 : decode code 2422 = .ok (.ifCond .ne 5, 3) := by decide +kernel
theorem d290_2425 : decode code 2425 = .ok (.iconst 0, 1) := by decide +kernel
theorem d290_2426 : decode code 2426 = .ok (.ireturn, 1) := by decide +kernel
theorem d290_2427 : decode code 2427 = .ok (.goto 574, 3) := by decide +kernel
theorem d290_2430 : decode code 2430 = .ok (.aload_n 1, 1) := by decide +kernel
theorem d290_2431 : decode code 2431 = .ok (.invokevirtual 299, 3) := by decide +kernel
theorem d290_2434 : decode code 2434 = .ok (.f2d, 1) := by decide +kernel
theorem d290_2435 : decode code 2435 = .ok (.dstore 6, 2) := by decide +kernel
theorem d290_2437 : decode code 2437 = .ok (.aload_n 2, 1) := by decide +kernel
theorem d290_2438 : decode code 2438 = .ok (.invokevirtual 303, 3) := by decide +kernel
theorem d290_2441 : decode code 2441 = .ok (.f2d, 1) := by decide +kernel
theorem d290_2442 : decode code 2442 = .ok (.dstore 8, 2) := by decide +kernel
theorem d290_2444 : decode code 2444 = .ok (.dload 6, 2) := by decide +kernel
theorem d290_2446 : decode code 2446 = .ok (.dload 8, 2) := by decide +kernel
theorem d290_2448 : decode code 2448 = .ok (.dcmp .l, 1) := by decide +kernel
theorem d290_2449 : decode code 2449 = .ok (.ifCond .eq 21, 3) := by decide +kernel
theorem d290_2452 : decode code 2452 = .ok (.dload 6, 2) := by decide +kernel
theorem d290_2454 : decode code 2454 = .ok (.dload 6, 2) := by decide +kernel
theorem d290_2456 : decode code 2456 = .ok (.dcmp .l, 1) := by decide +kernel
theorem d290_2457 : decode code 2457 = .ok (.ifCond .eq 11, 3) := by decide +kernel
theorem d290_2460 : decode code 2460 = .ok (.dload 8, 2) := by decide +kernel
theorem d290_2462 : decode code 2462 = .ok (.dload 8, 2) := by decide +kernel
theorem d290_2464 : decode code 2464 = .ok (.dcmp .l, 1) := by decide +kernel
theorem d290_2465 : decode code 2465 = .ok (.ifCond .ne 5, 3) := by decide +kernel
theorem d290_2468 : decode code 2468 = .ok (.iconst 0, 1) := by decide +kernel
theorem d290_2469 : decode code 2469 = .ok (.ireturn, 1) := by decide +kernel
theorem d290_2470 : decode code 2470 = .ok (.goto 531, 3) := by decide +kernel
theorem d290_2473 : decode code 2473 = .ok (.aload_n 1, 1) := by decide +kernel
theorem d290_2474 : decode code 2474 = .ok (.aload_n 0, 1) := by decide +kernel
theorem d290_2475 : decode code 2475 = .ok (.iload 5, 2) := by decide +kernel
theorem d290_2477 : decode code 2477 = .ok (.iconst 1, 1) := by decide +kernel
theorem d290_2478 : decode code 2478 = .ok (.iadd, 1) := by decide +kernel
theorem d290_2479 : decode code 2479 = .ok (.iaload, 1) := by decide +kernel
theorem d290_2480 : decode code 2480 = .ok (.aload_n 3, 1) := by decide +kernel
theorem d290_2481 : decode code 2481 = .ok (.invokestatic 304, 3) := by decide +kernel
theorem d290_2484 : decode code 2484 = .ok (.istore 6, 2) := by decide +kernel
theorem d290_2486 : decode code 2486 = .ok (.aload_n 2, 1) := by decide +kernel
theorem d290_2487 : decode code 2487 = .ok (.aload_n 0, 1) := by decide +kernel
theorem d290_2488 : decode code 2488 = .ok (.iload 5, 2) := by decide +kernel
theorem d290_2490 : decode code 2490 = .ok (.iconst 1, 1) := by decide +kernel
theorem d290_2491 : decode code 2491 = .ok (.iadd, 1) := by decide +kernel
theorem d290_2492 : decode code 2492 = .ok (.iaload, 1) := by decide +kernel
theorem d290_2493 : decode code 2493 = .ok (.invokevirtual 306, 3) := by decide +kernel
theorem d290_2496 : decode code 2496 = .ok (.istore 7, 2) := by decide +kernel
theorem d290_2498 : decode code 2498 = .ok (.aload_n 2, 1) := by decide +kernel
theorem d290_2499 : decode code 2499 = .ok (.invokevirtual 172, 3) := by decide +kernel
theorem d290_2502 : decode code 2502 = .ok (.iload 6, 2) := by decide +kernel
theorem d290_2504 : decode code 2504 = .ok (.if_icmp .eq 5, 3) := by decide +kernel
theorem d290_2507 : decode code 2507 = .ok (.iconst 0, 1) := by decide +kernel
theorem d290_2508 : decode code 2508 = .ok (.ireturn, 1) := by decide +kernel
theorem d290_2509 : decode code 2509 = .ok (.iload 6, 2) := by decide +kernel
theorem d290_2511 : decode code 2511 = .ok (.ifCond .ne 15, 3) := by decide +kernel
theorem d290_2514 : decode code 2514 = .ok (.aload_n 3, 1) := by decide +kernel
theorem d290_2515 : decode code 2515 = .ok (.iconst 0, 1) := by decide +kernel
theorem d290_2516 : decode code 2516 = .ok (.laload, 1) := by decide +kernel
theorem d290_2517 : decode code 2517 = .ok (.iload 7, 2) := by decide +kernel
theorem d290_2519 : decode code 2519 = .ok (.i2l, 1) := by decide +kernel
theorem d290_2520 : decode code 2520 = .ok (.lcmp, 1) := by decide +kernel
theorem d290_2521 : decode code 2521 = .ok (.ifCond .eq 5, 3) := by decide +kernel
theorem d290_2524 : decode code 2524 = .ok (.iconst 0, 1) := by decide +kernel
theorem d290_2525 : decode code 2525 = .ok (.ireturn, 1) := by decide +kernel
theorem d290_2526 : decode code 2526 = .ok (.goto 475, 3) := by decide +kernel
theorem d290_2529 : decode code 2529 = .ok (.aload_n 1, 1) := by decide +kernel
theorem d290_2530 : decode code 2530 = .ok (.invokevirtual 307, 3) := by decide +kernel
theorem d290_2533 : decode code 2533 = .ok (.aload_n 2, 1) := by decide +kernel
theorem d290_2534 : decode code 2534 = .ok (.invokevirtual 311, 3) := by decide +kernel
theorem d290_2537 : decode code 2537 = .ok (.if_icmp .eq 464, 3) := by decide +kernel
theorem d290_2540 : decode code 2540 = .ok (.iconst 0, 1) := by decide +kernel
theorem d290_2541 : decode code 2541 = .ok (.ireturn, 1) := by decide +kernel
theorem d290_2542 : decode code 2542 = .ok (.aload_n 1, 1) := by decide +kernel
theorem d290_2543 : decode code 2543 = .ok (.aload_n 0, 1) := by decide +kernel
theorem d290_2544 : decode code 2544 = .ok (.iload 5, 2) := by decide +kernel
theorem d290_2546 : decode code 2546 = .ok (.iconst 1, 1) := by decide +kernel
theorem d290_2547 : decode code 2547 = .ok (.iadd, 1) := by decide +kernel
theorem d290_2548 : decode code 2548 = .ok (.iaload, 1) := by decide +kernel
theorem d290_2549 : decode code 2549 = .ok (.aload_n 3, 1) := by decide +kernel
theorem d290_2550 : decode code 2550 = .ok (.invokestatic 312, 3) := by decide +kernel
theorem d290_2553 : decode code 2553 = .ok (.istore 6, 2) := by decide +kernel
theorem d290_2555 : decode code 2555 = .ok (.aload_n 2, 1) := by decide +kernel
theorem d290_2556 : decode code 2556 = .ok (.aload_n 0, 1) := by decide +kernel
theorem d290_2557 : decode code 2557 = .ok (.iload 5, 2) := by decide +kernel
theorem d290_2559 : decode code 2559 = .ok (.iconst 1, 1) := by decide +kernel
theorem d290_2560 : decode code 2560 = .ok (.iadd, 1) := by decide +kernel
theorem d290_2561 : decode code 2561 = .ok (.iaload, 1) := by decide +kernel
theorem d290_2562 : decode code 2562 = .ok (.invokevirtual 314, 3) := by decide +kernel
theorem d290_2565 : decode code 2565 = .ok (.istore 7, 2) := by decide +kernel
theorem d290_2567 : decode code 2567 = .ok (.aload_n 2, 1) := by decide +kernel
theorem d290_2568 : decode code 2568 = .ok (.invokevirtual 172, 3) := by decide +kernel
theorem d290_2571 : decode code 2571 = .ok (.iload 6, 2) := by decide +kernel
theorem d290_2573 : decode code 2573 = .ok (.if_icmp .eq 5, 3) := by decide +kernel
theorem d290_2576 : decode code 2576 = .ok (.iconst 0, 1) := by decide +kernel
theorem d290_2577 : decode code 2577 = .ok (.ireturn, 1) := by decide +kernel
theorem d290_2578 : decode code 2578 = .ok (.iload 6, 2) := by decide +kernel
theorem d290_2580 : decode code 2580 = .ok (.ifCond .ne 15, 3) := by decide +kernel
theorem d290_2583 : decode code 2583 = .ok (.aload_n 3, 1) := by decide +kernel
theorem d290_2584 : decode code 2584 = .ok (.iconst 0, 1) := by decide +kernel
theorem d290_2585 : decode code 2585 = .ok (.laload, 1) := by decide +kernel
theorem d290_2586 : decode code 2586 = .ok (.iload 7, 2) := by decide +kernel
theorem d290_2588 : decode code 2588 = .ok (.i2l, 1) := by decide +kernel
theorem d290_2589 : decode code 2589 = .ok (.lcmp, 1) := by decide +kernel
theorem d290_2590 : decode code 2590 = .ok (.ifCond .eq 5, 3) := by decide +kernel
theorem d290_2593 : decode code 2593 = .ok (.iconst 0, 1) := by decide +kernel
theorem d290_2594 : decode code 2594 = .ok (.ireturn, 1) := by decide +kernel
theorem d290_2595 : decode code 2595 = .ok (.goto 406, 3) := by decide +kernel
theorem d290_2598 : decode code 2598 = .ok (.aload_n 1, 1) := by decide +kernel
theorem d290_2599 : decode code 2599 = .ok (.aload_n 0, 1) := by decide +kernel
theorem d290_2600 : decode code 2600 = .ok (.iload 5, 2) := by decide +kernel
theorem d290_2602 : decode code 2602 = .ok (.iconst 1, 1) := by decide +kernel
theorem d290_2603 : decode code 2603 = .ok (.iadd, 1) := by decide +kernel
theorem d290_2604 : decode code 2604 = .ok (.iaload, 1) := by decide +kernel
theorem d290_2605 : decode code 2605 = .ok (.aload_n 3, 1) := by decide +kernel
theorem d290_2606 : decode code 2606 = .ok (.invokestatic 315, 3) := by decide +kernel
theorem d290_2609 : decode code 2609 = .ok (.istore 6, 2) := by decide +kernel
theorem d290_2611 : decode code 2611 = .ok (.aload_n 2, 1) := by decide +kernel
theorem d290_2612 : decode code 2612 = .ok (.aload_n 0, 1) := by decide +kernel
theorem d290_2613 : decode code 2613 = .ok (.iload 5, 2) := by decide +kernel
theorem d290_2615 : decode code 2615 = .ok (.iconst 1, 1) := by decide +kernel
theorem d290_2616 : decode code 2616 = .ok (.iadd, 1) := by decide +kernel
theorem d290_2617 : decode code 2617 = .ok (.iaload, 1) := by decide +kernel
theorem d290_2618 : decode code 2618 = .ok (.invokevirtual 317, 3) := by decide +kernel
theorem d290_2621 : decode code 2621 = .ok (.istore 7, 2) := by decide +kernel
theorem d290_2623 : decode code 2623 = .ok (.aload_n 2, 1) := by decide +kernel
theorem d290_2624 : decode code 2624 = .ok (.invokevirtual 172, 3) := by decide +kernel
theorem d290_2627 : decode code 2627 = .ok (.iload 6, 2) := by decide +kernel
theorem d290_2629 : decode code 2629 = .ok (.if_icmp .eq 5, 3) := by decide +kernel
theorem d290_2632 : decode code 2632 = .ok (.iconst 0, 1) := by decide +kernel
theorem d290_2633 : decode code 2633 = .ok (.ireturn, 1) := by decide +kernel
theorem d290_2634 : decode code 2634 = .ok (.iload 6, 2) := by decide +kernel
theorem d290_2636 : decode code 2636 = .ok (.ifCond .ne 15, 3) := by decide +kernel
theorem d290_2639 : decode code 2639 = .ok (.aload_n 3, 1) := by decide +kernel
theorem d290_2640 : decode code 2640 = .ok (.iconst 0, 1) := by decide +kernel
theorem d290_2641 : decode code 2641 = .ok (.laload, 1) := by decide +kernel
theorem d290_2642 : decode code 2642 = .ok (.iload 7, 2) := by decide +kernel
theorem d290_2644 : decode code 2644 = .ok (.i2l, 1) := by decide +kernel
theorem d290_2645 : decode code 2645 = .ok (.lcmp, 1) := by decide +kernel
theorem d290_2646 : decode code 2646 = .ok (.ifCond .eq 5, 3) := by decide +kernel
theorem d290_2649 : decode code 2649 = .ok (.iconst 0, 1) := by decide +kernel
theorem d290_2650 : decode code 2650 = .ok (.ireturn, 1) := by decide +kernel
theorem d290_2651 : decode code 2651 = .ok (.goto 350, 3) := by decide +kernel
theorem d290_2654 : decode code 2654 = .ok (.aload_n 1, 1) := by decide +kernel
theorem d290_2655 : decode code 2655 = .ok (.aload_n 0, 1) := by decide +kernel
theorem d290_2656 : decode code 2656 = .ok (.iload 5, 2) := by decide +kernel
theorem d290_2658 : decode code 2658 = .ok (.iconst 1, 1) := by decide +kernel
theorem d290_2659 : decode code 2659 = .ok (.iadd, 1) := by decide +kernel
theorem d290_2660 : decode code 2660 = .ok (.iaload, 1) := by decide +kernel
theorem d290_2661 : decode code 2661 = .ok (.aload_n 3, 1) := by decide +kernel
theorem d290_2662 : decode code 2662 = .ok (.invokestatic 318, 3) := by decide +kernel
theorem d290_2665 : decode code 2665 = .ok (.istore 6, 2) := by decide +kernel
theorem d290_2667 : decode code 2667 = .ok (.aload_n 2, 1) := by decide +kernel
theorem d290_2668 : decode code 2668 = .ok (.aload_n 0, 1) := by decide +kernel
theorem d290_2669 : decode code 2669 = .ok (.iload 5, 2) := by decide +kernel
theorem d290_2671 : decode code 2671 = .ok (.iconst 1, 1) := by decide +kernel
theorem d290_2672 : decode code 2672 = .ok (.iadd, 1) := by decide +kernel
theorem d290_2673 : decode code 2673 = .ok (.iaload, 1) := by decide +kernel
theorem d290_2674 : decode code 2674 = .ok (.invokevirtual 320, 3) := by decide +kernel
theorem d290_2677 : decode code 2677 = .ok (.istore 7, 2) := by decide +kernel
theorem d290_2679 : decode code 2679 = .ok (.aload_n 2, 1) := by decide +kernel
theorem d290_2680 : decode code 2680 = .ok (.invokevirtual 172, 3) := by decide +kernel
theorem d290_2683 : decode code 2683 = .ok (.iload 6, 2) := by decide +kernel
theorem d290_2685 : decode code 2685 = .ok (.if_icmp .eq 5, 3) := by decide +kernel
theorem d290_2688 : decode code 2688 = .ok (.iconst 0, 1) := by decide +kernel
theorem d290_2689 : decode code 2689 = .ok (.ireturn, 1) := by decide +kernel
theorem d290_2690 : decode code 2690 = .ok (.iload 6, 2) := by decide +kernel
theorem d290_2692 : decode code 2692 = .ok (.ifCond .ne 15, 3) := by decide +kernel
theorem d290_2695 : decode code 2695 = .ok (.aload_n 3, 1) := by decide +kernel
theorem d290_2696 : decode code 2696 = .ok (.iconst 0, 1) := by decide +kernel
theorem d290_2697 : decode code 2697 = .ok (.laload, 1) := by decide +kernel
theorem d290_2698 : decode code 2698 = .ok (.iload 7, 2) := by decide +kernel
theorem d290_2700 : decode code 2700 = .ok (.i2l, 1) := by decide +kernel
theorem d290_2701 : decode code 2701 = .ok (.lcmp, 1) := by decide +kernel
theorem d290_2702 : decode code 2702 = .ok (.ifCond .eq 5, 3) := by decide +kernel
theorem d290_2705 : decode code 2705 = .ok (.iconst 0, 1) := by decide +kernel
theorem d290_2706 : decode code 2706 = .ok (.ireturn, 1) := by decide +kernel
theorem d290_2707 : decode code 2707 = .ok (.goto 294, 3) := by decide +kernel
theorem d290_2710 : decode code 2710 = .ok (.aload_n 1, 1) := by decide +kernel
theorem d290_2711 : decode code 2711 = .ok (.aload_n 0, 1) := by decide +kernel
theorem d290_2712 : decode code 2712 = .ok (.iload 5, 2) := by decide +kernel
theorem d290_2714 : decode code 2714 = .ok (.iconst 1, 1) := by decide +kernel
theorem d290_2715 : decode code 2715 = .ok (.iadd, 1) := by decide +kernel
theorem d290_2716 : decode code 2716 = .ok (.iaload, 1) := by decide +kernel
theorem d290_2717 : decode code 2717 = .ok (.i2c, 1) := by decide +kernel
theorem d290_2718 : decode code 2718 = .ok (.aload_n 3, 1) := by decide +kernel
theorem d290_2719 : decode code 2719 = .ok (.invokestatic 321, 3) := by decide +kernel
theorem d290_2722 : decode code 2722 = .ok (.istore 6, 2) := by decide +kernel
theorem d290_2724 : decode code 2724 = .ok (.aload_n 2, 1) := by decide +kernel
theorem d290_2725 : decode code 2725 = .ok (.aload_n 0, 1) := by decide +kernel
theorem d290_2726 : decode code 2726 = .ok (.iload 5, 2) := by decide +kernel
theorem d290_2728 : decode code 2728 = .ok (.iconst 1, 1) := by decide +kernel
theorem d290_2729 : decode code 2729 = .ok (.iadd, 1) := by decide +kernel
theorem d290_2730 : decode code 2730 = .ok (.iaload, 1) := by decide +kernel
theorem d290_2731 : decode code 2731 = .ok (.i2c, 1) := by decide +kernel
theorem d290_2732 : decode code 2732 = .ok (.invokevirtual 323, 3) := by decide +kernel
theorem d290_2735 : decode code 2735 = .ok (.istore 7, 2) := by decide +kernel
theorem d290_2737 : decode code 2737 = .ok (.aload_n 2, 1) := by decide +kernel
theorem d290_2738 : decode code 2738 = .ok (.invokevirtual 172, 3) := by decide +kernel
theorem d290_2741 : decode code 2741 = .ok (.iload 6, 2) := by decide +kernel
theorem d290_2743 : decode code 2743 = .ok (.if_icmp .eq 5, 3) := by decide +kernel
theorem d290_2746 : decode code 2746 = .ok (.iconst 0, 1) := by decide +kernel
theorem d290_2747 : decode code 2747 = .ok (.ireturn, 1) := by decide +kernel
theorem d290_2748 : decode code 2748 = .ok (.iload 6, 2) := by decide +kernel
theorem d290_2750 : decode code 2750 = .ok (.ifCond .ne 15, 3) := by decide +kernel
theorem d290_2753 : decode code 2753 = .ok (.aload_n 3, 1) := by decide +kernel
theorem d290_2754 : decode code 2754 = .ok (.iconst 0, 1) := by decide +kernel
theorem d290_2755 : decode code 2755 = .ok (.laload, 1) := by decide +kernel
theorem d290_2756 : decode code 2756 = .ok (.iload 7, 2) := by decide +kernel
theorem d290_2758 : decode code 2758 = .ok (.i2l, 1) := by decide +kernel
theorem d290_2759 : decode code 2759 = .ok (.lcmp, 1) := by decide +kernel
theorem d290_2760 : decode code 2760 = .ok (.ifCond .eq 5, 3) := by decide +kernel
theorem d290_2763 : decode code 2763 = .ok (.iconst 0, 1) := by decide +kernel
theorem d290_2764 : decode code 2764 = .ok (.ireturn, 1) := by decide +kernel
theorem d290_2765 : decode code 2765 = .ok (.goto 236, 3) := by decide +kernel
theorem d290_2768 : decode code 2768 = .ok (.aload_n 1, 1) := by decide +kernel
theorem d290_2769 : decode code 2769 = .ok (.aload_n 3, 1) := by decide +kernel
theorem d290_2770 : decode code 2770 = .ok (.invokestatic 324, 3) := by decide +kernel
theorem d290_2773 : decode code 2773 = .ok (.istore 6, 2) := by decide +kernel
theorem d290_2775 : decode code 2775 = .ok (.aload_n 2, 1) := by decide +kernel
theorem d290_2776 : decode code 2776 = .ok (.invokevirtual 327, 3) := by decide +kernel
theorem d290_2779 : decode code 2779 = .ok (.istore 7, 2) := by decide +kernel
theorem d290_2781 : decode code 2781 = .ok (.aload_n 2, 1) := by decide +kernel
theorem d290_2782 : decode code 2782 = .ok (.invokevirtual 172, 3) := by decide +kernel
theorem d290_2785 : decode code 2785 = .ok (.iload 6, 2) := by decide +kernel
theorem d290_2787 : decode code 2787 = .ok (.if_icmp .eq 5, 3) := by decide +kernel
theorem d290_2790 : decode code 2790 = .ok (.iconst 0, 1) := by decide +kernel
theorem d290_2791 : decode code 2791 = .ok (.ireturn, 1) := by decide +kernel
theorem d290_2792 : decode code 2792 = .ok (.iload 6, 2) := by decide +kernel
theorem d290_2794 : decode code 2794 = .ok (.ifCond .ne 15, 3) := by decide +kernel
theorem d290_2797 : decode code 2797 = .ok (.aload_n 3, 1) := by decide +kernel
theorem d290_2798 : decode code 2798 = .ok (.iconst 0, 1) := by decide +kernel
theorem d290_2799 : decode code 2799 = .ok (.laload, 1) := by decide +kernel
theorem d290_2800 : decode code 2800 = .ok (.iload 7, 2) := by decide +kernel
theorem d290_2802 : decode code 2802 = .ok (.i2l, 1) := by decide +kernel
theorem d290_2803 : decode code 2803 = .ok (.lcmp, 1) := by decide +kernel
theorem d290_2804 : decode code 2804 = .ok (.ifCond .eq 5, 3) := by decide +kernel
theorem d290_2807 : decode code 2807 = .ok (.iconst 0, 1) := by decide +kernel
theorem d290_2808 : decode code 2808 = .ok (.ireturn, 1) := by decide +kernel
theorem d290_2809 : decode code 2809 = .ok (.goto 192, 3) := by decide +kernel
theorem d290_2812 : decode code 2812 = .ok (.aload_n 1, 1) := by decide +kernel
theorem d290_2813 : decode code 2813 = .ok (.aload_n 3, 1) := by decide +kernel
theorem d290_2814 : decode code 2814 = .ok (.invokestatic 328, 3) := by decide +kernel
theorem d290_2817 : decode code 2817 = .ok (.istore 6, 2) := by decide +kernel
theorem d290_2819 : decode code 2819 = .ok (.aload_n 2, 1) := by decide +kernel
theorem d290_2820 : decode code 2820 = .ok (.invokevirtual 330, 3) := by decide +kernel
theorem d290_2823 : decode code 2823 = .ok (.istore 7, 2) := by decide +kernel
theorem d290_2825 : decode code 2825 = .ok (.aload_n 2, 1) := by decide +kernel
theorem d290_2826 : decode code 2826 = .ok (.invokevirtual 172, 3) := by decide +kernel
theorem d290_2829 : decode code 2829 = .ok (.iload 6, 2) := by decide +kernel
theorem d290_2831 : decode code 2831 = .ok (.if_icmp .eq 5, 3) := by decide +kernel
theorem d290_2834 : decode code 2834 = .ok (.iconst 0, 1) := by decide +kernel
theorem d290_2835 : decode code 2835 = .ok (.ireturn, 1) := by decide +kernel
theorem d290_2836 : decode code 2836 = .ok (.iload 6, 2) := by decide +kernel
theorem d290_2838 : decode code 2838 = .ok (.ifCond .ne 15, 3) := by decide +kernel
theorem d290_2841 : decode code 2841 = .ok (.aload_n 3, 1) := by decide +kernel
theorem d290_2842 : decode code 2842 = .ok (.iconst 0, 1) := by decide +kernel
theorem d290_2843 : decode code 2843 = .ok (.laload, 1) := by decide +kernel
theorem d290_2844 : decode code 2844 = .ok (.iload 7, 2) := by decide +kernel
theorem d290_2846 : decode code 2846 = .ok (.i2l, 1) := by decide +kernel
theorem d290_2847 : decode code 2847 = .ok (.lcmp, 1) := by decide +kernel
theorem d290_2848 : decode code 2848 = .ok (.ifCond .eq 5, 3) := by decide +kernel
theorem d290_2851 : decode code 2851 = .ok (.iconst 0, 1) := by decide +kernel
theorem d290_2852 : decode code 2852 = .ok (.ireturn, 1) := by decide +kernel
theorem d290_2853 : decode code 2853 = .ok (.goto 148, 3) := by decide +kernel
theorem d290_2856 : decode code 2856 = .ok (.aload_n 1, 1) := by decide +kernel
theorem d290_2857 : decode code 2857 = .ok (.aload_n 3, 1) := by decide +kernel
theorem d290_2858 : decode code 2858 = .ok (.invokestatic 331, 3) := by decide +kernel
theorem d290_2861 : decode code 2861 = .ok (.istore 6, 2) := by decide +kernel
theorem d290_2863 : decode code 2863 = .ok (.aload_n 2, 1) := by decide +kernel
theorem d290_2864 : decode code 2864 = .ok (.invokevirtual 333, 3) := by decide +kernel
theorem d290_2867 : decode code 2867 = .ok (.istore 7, 2) := by decide +kernel
theorem d290_2869 : decode code 2869 = .ok (.aload_n 2, 1) := by decide +kernel
theorem d290_2870 : decode code 2870 = .ok (.invokevirtual 172, 3) := by decide +kernel
theorem d290_2873 : decode code 2873 = .ok (.iload 6, 2) := by decide +kernel
theorem d290_2875 : decode code 2875 = .ok (.if_icmp .eq 5, 3) := by decide +kernel
theorem d290_2878 : decode code 2878 = .ok (.iconst 0, 1) := by decide +kernel
theorem d290_2879 : decode code 2879 = .ok (.ireturn, 1) := by decide +kernel
theorem d290_2880 : decode code 2880 = .ok (.iload 6, 2) := by decide +kernel
theorem d290_2882 : decode code 2882 = .ok (.ifCond .ne 15, 3) := by decide +kernel
theorem d290_2885 : decode code 2885 = .ok (.aload_n 3, 1) := by decide +kernel
theorem d290_2886 : decode code 2886 = .ok (.iconst 0, 1) := by decide +kernel
theorem d290_2887 : decode code 2887 = .ok (.laload, 1) := by decide +kernel
theorem d290_2888 : decode code 2888 = .ok (.iload 7, 2) := by decide +kernel
theorem d290_2890 : decode code 2890 = .ok (.i2l, 1) := by decide +kernel
theorem d290_2891 : decode code 2891 = .ok (.lcmp, 1) := by decide +kernel
theorem d290_2892 : decode code 2892 = .ok (.ifCond .eq 5, 3) := by decide +kernel
theorem d290_2895 : decode code 2895 = .ok (.iconst 0, 1) := by decide +kernel
theorem d290_2896 : decode code 2896 = .ok (.ireturn, 1) := by decide +kernel
theorem d290_2897 : decode code 2897 = .ok (.goto 104, 3) := by decide +kernel
theorem d290_2900 : decode code 2900 = .ok (.aload_n 1, 1) := by decide +kernel
theorem d290_2901 : decode code 2901 = .ok (.aload_n 3, 1) := by decide +kernel
theorem d290_2902 : decode code 2902 = .ok (.invokestatic 334, 3) := by decide +kernel
theorem d290_2905 : decode code 2905 = .ok (.istore 6, 2) := by decide +kernel
theorem d290_2907 : decode code 2907 = .ok (.aload_n 2, 1) := by decide +kernel
theorem d290_2908 : decode code 2908 = .ok (.invokevirtual 336, 3) := by decide +kernel
theorem d290_2911 : decode code 2911 = .ok (.istore 7, 2) := by decide +kernel
theorem d290_2913 : decode code 2913 = .ok (.aload_n 2, 1) := by decide +kernel
theorem d290_2914 : decode code 2914 = .ok (.invokevirtual 172, 3) := by decide +kernel
theorem d290_2917 : decode code 2917 = .ok (.iload 6, 2) := by decide +kernel
theorem d290_2919 : decode code 2919 = .ok (.if_icmp .eq 5, 3) := by decide +kernel
theorem d290_2922 : decode code 2922 = .ok (.iconst 0, 1) := by decide +kernel
theorem d290_2923 : decode code 2923 = .ok (.ireturn, 1) := by decide +kernel
theorem d290_2924 : decode code 2924 = .ok (.iload 6, 2) := by decide +kernel
theorem d290_2926 : decode code 2926 = .ok (.ifCond .ne 15, 3) := by decide +kernel
theorem d290_2929 : decode code 2929 = .ok (.aload_n 3, 1) := by decide +kernel
theorem d290_2930 : decode code 2930 = .ok (.iconst 0, 1) := by decide +kernel
theorem d290_2931 : decode code 2931 = .ok (.laload, 1) := by decide +kernel
theorem d290_2932 : decode code 2932 = .ok (.iload 7, 2) := by decide +kernel
theorem d290_2934 : decode code 2934 = .ok (.i2l, 1) := by decide +kernel
theorem d290_2935 : decode code 2935 = .ok (.lcmp, 1) := by decide +kernel
theorem d290_2936 : decode code 2936 = .ok (.ifCond .eq 5, 3) := by decide +kernel
theorem d290_2939 : decode code 2939 = .ok (.iconst 0, 1) := by decide +kernel
theorem d290_2940 : decode code 2940 = .ok (.ireturn, 1) := by decide +kernel
theorem d290_2941 : decode code 2941 = .ok (.goto 60, 3) := by decide +kernel
theorem d290_2944 : decode code 2944 = .ok (.aload_n 1, 1) := by decide +kernel
theorem d290_2945 : decode code 2945 = .ok (.invokevirtual 337, 3) := by decide +kernel
theorem d290_2948 : decode code 2948 = .ok (.aload_n 2, 1) := by decide +kernel
theorem d290_2949 : decode code 2949 = .ok (.invokevirtual 340, 3) := by decide +kernel
theorem d290_2952 : decode code 2952 = .ok (.if_icmp .eq 49, 3) := by decide +kernel
theorem d290_2955 : decode code 2955 = .ok (.iconst 0, 1) := by decide +kernel
theorem d290_2956 : decode code 2956 = .ok (.ireturn, 1) := by decide +kernel
theorem d290_2957 : decode code 2957 = .ok (.aload_n 1, 1) := by decide +kernel
theorem d290_2958 : decode code 2958 = .ok (.aload_n 3, 1) := by decide +kernel
theorem d290_2959 : decode code 2959 = .ok (.invokestatic 341, 3) := by decide +kernel
theorem d290_2962 : decode code 2962 = .ok (.istore 6, 2) := by decide +kernel
theorem d290_2964 : decode code 2964 = .ok (.aload_n 2, 1) := by decide +kernel
theorem d290_2965 : decode code 2965 = .ok (.invokevirtual 343, 3) := by decide +kernel
theorem d290_2968 : decode code 2968 = .ok (.istore 7, 2) := by decide +kernel
theorem d290_2970 : decode code 2970 = .ok (.aload_n 2, 1) := by decide +kernel
theorem d290_2971 : decode code 2971 = .ok (.invokevirtual 172, 3) := by decide +kernel
theorem d290_2974 : decode code 2974 = .ok (.iload 6, 2) := by decide +kernel
theorem d290_2976 : decode code 2976 = .ok (.if_icmp .eq 5, 3) := by decide +kernel
theorem d290_2979 : decode code 2979 = .ok (.iconst 0, 1) := by decide +kernel
theorem d290_2980 : decode code 2980 = .ok (.ireturn, 1) := by decide +kernel
theorem d290_2981 : decode code 2981 = .ok (.iload 6, 2) := by decide +kernel
theorem d290_2983 : decode code 2983 = .ok (.ifCond .ne 15, 3) := by decide +kernel
theorem d290_2986 : decode code 2986 = .ok (.aload_n 3, 1) := by decide +kernel
theorem d290_2987 : decode code 2987 = .ok (.iconst 0, 1) := by decide +kernel
theorem d290_2988 : decode code 2988 = .ok (.laload, 1) := by decide +kernel
theorem d290_2989 : decode code 2989 = .ok (.iload 7, 2) := by decide +kernel
theorem d290_2991 : decode code 2991 = .ok (.i2l, 1) := by decide +kernel
theorem d290_2992 : decode code 2992 = .ok (.lcmp, 1) := by decide +kernel
theorem d290_2993 : decode code 2993 = .ok (.ifCond .eq 5, 3) := by decide +kernel
theorem d290_2996 : decode code 2996 = .ok (.iconst 0, 1) := by decide +kernel
theorem d290_2997 : decode code 2997 = .ok (.ireturn, 1) := by decide +kernel
theorem d290_2998 : decode code 2998 = .ok (.goto 3, 3) := by decide +kernel
theorem d290_3001 : decode code 3001 = .ok (.iinc 5 7, 3) := by decide +kernel
theorem d290_3004 : decode code 3004 = .ok (.goto (-2976), 3) := by decide +kernel
theorem d290_3007 : decode code 3007 = .ok (.iconst 1, 1) := by decide +kernel
theorem d290_3008 : decode code 3008 = .ok (.ireturn, 1) := by decide +kernel
