theorem dL_law_2307 : decode cL_law 2307 = .ok (.invokevirtual 302, 3) := by decide +kernel
theorem dL_law_2310 : decode cL_law 2310 = .ok (.istore 6, 2) := by decide +kernel
theorem dL_law_2312 : decode cL_law 2312 = .ok (.aload_n 2, 1) := by decide +kernel
theorem dL_law_2313 : decode cL_law 2313 = .ok (.invokevirtual 176, 3) := by decide +kernel
theorem dL_law_2316 : decode cL_law 2316 = .ok (.iload 5, 2) := by decide +kernel
theorem dL_law_2318 : decode cL_law 2318 = .ok (.if_icmp .eq 5, 3) := by decide +kernel
theorem dL_law_2321 : decode cL_law 2321 = .ok (.iconst 0, 1) := by decide +kernel
theorem dL_law_2322 : decode cL_law 2322 = .ok (.ireturn, 1) := by decide +kernel
theorem dL_law_2323 : decode cL_law 2323 = .ok (.iload 5, 2) := by decide +kernel
theorem dL_law_2325 : decode cL_law 2325 = .ok (.ifCond .ne 15, 3) := by decide +kernel
theorem dL_law_2328 : decode cL_law 2328 = .ok (.aload_n 3, 1) := by decide +kernel
theorem dL_law_2329 : decode cL_law 2329 = .ok (.iconst 0, 1) := by decide +kernel
theorem dL_law_2330 : decode cL_law 2330 = .ok (.laload, 1) := by decide +kernel
theorem dL_law_2331 : decode cL_law 2331 = .ok (.iload 6, 2) := by decide +kernel
theorem dL_law_2333 : decode cL_law 2333 = .ok (.i2l, 1) := by decide +kernel
theorem dL_law_2334 : decode cL_law 2334 = .ok (.lcmp, 1) := by decide +kernel
theorem dL_law_2335 : decode cL_law 2335 = .ok (.ifCond .eq 5, 3) := by decide +kernel
theorem dL_law_2338 : decode cL_law 2338 = .ok (.iconst 0, 1) := by decide +kernel
theorem dL_law_2339 : decode cL_law 2339 = .ok (.ireturn, 1) := by decide +kernel
theorem dL_law_2340 : decode cL_law 2340 = .ok (.goto 1150, 3) := by decide +kernel
theorem dL_law_2343 : decode cL_law 2343 = .ok (.aload_n 1, 1) := by decide +kernel
theorem dL_law_2344 : decode cL_law 2344 = .ok (.invokevirtual 303, 3) := by decide +kernel
theorem dL_law_2347 : decode cL_law 2347 = .ok (.aload_n 2, 1) := by decide +kernel
theorem dL_law_2348 : decode cL_law 2348 = .ok (.invokevirtual 306, 3) := by decide +kernel
theorem dL_law_2351 : decode cL_law 2351 = .ok (.if_icmp .eq 1139, 3) := by decide +kernel
theorem dL_law_2354 : decode cL_law 2354 = .ok (.iconst 0, 1) := by decide +kernel
theorem dL_law_2355 : decode cL_law 2355 = .ok (.ireturn, 1) := by decide +kernel
theorem dL_law_2356 : decode cL_law 2356 = .ok (.aload_n 1, 1) := by decide +kernel
theorem dL_law_2357 : decode cL_law 2357 = .ok (.invokevirtual 307, 3) := by decide +kernel
theorem dL_law_2360 : decode cL_law 2360 = .ok (.aload_n 2, 1) := by decide +kernel
theorem dL_law_2361 : decode cL_law 2361 = .ok (.invokevirtual 310, 3) := by decide +kernel
theorem dL_law_2364 : decode cL_law 2364 = .ok (.if_icmp .eq 1126, 3) := by decide +kernel
theorem dL_law_2367 : decode cL_law 2367 = .ok (.iconst 0, 1) := by decide +kernel
theorem dL_law_2368 : decode cL_law 2368 = .ok (.ireturn, 1) := by decide +kernel
theorem dL_law_2369 : decode cL_law 2369 = .ok (.aload_n 1, 1) := by decide +kernel
theorem dL_law_2370 : decode cL_law 2370 = .ok (.invokevirtual 311, 3) := by decide +kernel
theorem dL_law_2373 : decode cL_law 2373 = .ok (.aload_n 2, 1) := by decide +kernel
theorem dL_law_2374 : decode cL_law 2374 = .ok (.invokevirtual 314, 3) := by decide +kernel
theorem dL_law_2377 : decode cL_law 2377 = .ok (.if_icmp .eq 1113, 3) := by decide +kernel
theorem dL_law_2380 : decode cL_law 2380 = .ok (.iconst 0, 1) := by decide +kernel
theorem dL_law_2381 : decode cL_law 2381 = .ok (.ireturn, 1) := by decide +kernel
theorem dL_law_2382 : decode cL_law 2382 = .ok (.aload_n 1, 1) := by decide +kernel
theorem dL_law_2383 : decode cL_law 2383 = .ok (.invokevirtual 315, 3) := by decide +kernel
theorem dL_law_2386 : decode cL_law 2386 = .ok (.dstore 5, 2) := by decide +kernel
theorem dL_law_2388 : decode cL_law 2388 = .ok (.aload_n 2, 1) := by decide +kernel
theorem dL_law_2389 : decode cL_law 2389 = .ok (.invokevirtual 319, 3) := by decide +kernel
theorem dL_law_2392 : decode cL_law 2392 = .ok (.dstore 7, 2) := by decide +kernel
theorem dL_law_2394 : decode cL_law 2394 = .ok (.dload 5, 2) := by decide +kernel
theorem dL_law_2396 : decode cL_law 2396 = .ok (.dload 7, 2) := by decide +kernel
theorem dL_law_2398 : decode cL_law 2398 = .ok (.dcmp .l, 1) := by decide +kernel
theorem dL_law_2399 : decode cL_law 2399 = .ok (.ifCond .eq 21, 3) := by decide +kernel
theorem dL_law_2402 : decode cL_law 2402 = .ok (.dload 5, 2) := by decide +kernel
theorem dL_law_2404 : decode cL_law 2404 = .ok (.dload 5, 2) := by decide +kernel
theorem dL_law_2406 : decode cL_law 2406 = .ok (.dcmp .l, 1) := by decide +kernel
theorem dL_law_2407 : decode cL_law 2407 = .ok (.ifCond .eq 11, 3) := by decide +kernel
theorem dL_law_2410 : decode cL_law 2410 = .ok (.dload 7, 2) := by decide +kernel
theorem dL_law_2412 : decode cL_law 2412 = .ok (.dload 7, 2) := by decide +kernel
theorem dL_law_2414 : decode cL_law 2414 = .ok (.dcmp .l, 1) := by decide +kernel
theorem dL_law_2415 : decode cL_law 2415 = .ok (.ifCond .ne 5, 3) := by decide +kernel
theorem dL_law_2418 : decode cL_law 2418 = .ok (.iconst 0, 1) := by decide +kernel
theorem dL_law_2419 : decode cL_law 2419 = .ok (.ireturn, 1) := by decide +kernel
theorem dL_law_2420 : decode cL_law 2420 = .ok (.goto 1070, 3) := by decide +kernel
theorem dL_law_2423 : decode cL_law 2423 = .ok (.aload_n 1, 1) := by decide +kernel
theorem dL_law_2424 : decode cL_law 2424 = .ok (.invokevirtual 320, 3) := by decide +kernel
theorem dL_law_2427 : decode cL_law 2427 = .ok (.f2d, 1) := by decide +kernel
theorem dL_law_2428 : decode cL_law 2428 = .ok (.dstore 5, 2) := by decide +kernel
theorem dL_law_2430 : decode cL_law 2430 = .ok (.aload_n 2, 1) := by decide +kernel
theorem dL_law_2431 : decode cL_law 2431 = .ok (.invokevirtual 324, 3) := by decide +kernel
theorem dL_law_2434 : decode cL_law 2434 = .ok (.f2d, 1) := by decide +kernel
theorem dL_law_2435 : decode cL_law 2435 = .ok (.dstore 7, 2) := by decide +kernel
theorem dL_law_2437 : decode cL_law 2437 = .ok (.dload 5, 2) := by decide +kernel
theorem dL_law_2439 : decode cL_law 2439 = .ok (.dload 7, 2) := by decide +kernel
theorem dL_law_2441 : decode cL_law 2441 = .ok (.dcmp .l, 1) := by decide +kernel
theorem dL_law_2442 : decode cL_law 2442 = .ok (.ifCond .eq 21, 3) := by decide +kernel
theorem dL_law_2445 : decode cL_law 2445 = .ok (.dload 5, 2) := by decide +kernel
theorem dL_law_2447 : decode cL_law 2447 = .ok (.dload 5, 2) := by decide +kernel
theorem dL_law_2449 : decode cL_law 2449 = .ok (.dcmp .l, 1) := by decide +kernel
theorem dL_law_2450 : decode cL_law 2450 = .ok (.ifCond .eq 11, 3) := by decide +kernel
theorem dL_law_2453 : decode cL_law 2453 = .ok (.dload 7, 2) := by decide +kernel
theorem dL_law_2455 : decode cL_law 2455 = .ok (.dload 7, 2) := by decide +kernel
theorem dL_law_2457 : decode cL_law 2457 = .ok (.dcmp .l, 1) := by decide +kernel
theorem dL_law_2458 : decode cL_law 2458 = .ok (.ifCond .ne 5, 3) := by decide +kernel
theorem dL_law_2461 : decode cL_law 2461 = .ok (.iconst 0, 1) := by decide +kernel
theorem dL_law_2462 : decode cL_law 2462 = .ok (.ireturn, 1) := by decide +kernel
theorem dL_law_2463 : decode cL_law 2463 = .ok (.goto 1027, 3) := by decide +kernel
theorem dL_law_2466 : decode cL_law 2466 = .ok (.aload_n 1, 1) := by decide +kernel
theorem dL_law_2467 : decode cL_law 2467 = .ok (.aload_n 0, 1) := by decide +kernel
theorem dL_law_2468 : decode cL_law 2468 = .ok (.iload 4, 2) := by decide +kernel
theorem dL_law_2470 : decode cL_law 2470 = .ok (.iconst 1, 1) := by decide +kernel
theorem dL_law_2471 : decode cL_law 2471 = .ok (.iadd, 1) := by decide +kernel
theorem dL_law_2472 : decode cL_law 2472 = .ok (.iaload, 1) := by decide +kernel
theorem dL_law_2473 : decode cL_law 2473 = .ok (.aload_n 3, 1) := by decide +kernel
theorem dL_law_2474 : decode cL_law 2474 = .ok (.invokestatic 325, 3) := by decide +kernel
theorem dL_law_2477 : decode cL_law 2477 = .ok (.istore 5, 2) := by decide +kernel
theorem dL_law_2479 : decode cL_law 2479 = .ok (.aload_n 2, 1) := by decide +kernel
theorem dL_law_2480 : decode cL_law 2480 = .ok (.aload_n 0, 1) := by decide +kernel
theorem dL_law_2481 : decode cL_law 2481 = .ok (.iload 4, 2) := by decide +kernel
theorem dL_law_2483 : decode cL_law 2483 = .ok (.iconst 1, 1) := by decide +kernel
theorem dL_law_2484 : decode cL_law 2484 = .ok (.iadd, 1) := by decide +kernel
theorem dL_law_2485 : decode cL_law 2485 = .ok (.iaload, 1) := by decide +kernel
theorem dL_law_2486 : decode cL_law 2486 = .ok (.invokevirtual 327, 3) := by decide +kernel
theorem dL_law_2489 : decode cL_law 2489 = .ok (.istore 6, 2) := by decide +kernel
theorem dL_law_2491 : decode cL_law 2491 = .ok (.aload_n 2, 1) := by decide +kernel
theorem dL_law_2492 : decode cL_law 2492 = .ok (.invokevirtual 176, 3) := by decide +kernel
theorem dL_law_2495 : decode cL_law 2495 = .ok (.iload 5, 2) := by decide +kernel
theorem dL_law_2497 : decode cL_law 2497 = .ok (.if_icmp .eq 5, 3) := by decide +kernel
theorem dL_law_2500 : decode cL_law 2500 = .ok (.iconst 0, 1) := by decide +kernel
theorem dL_law_2501 : decode cL_law 2501 = .ok (.ireturn, 1) := by decide +kernel
theorem dL_law_2502 : decode cL_law 2502 = .ok (.iload 5, 2) := by decide +kernel
theorem dL_law_2504 : decode cL_law 2504 = .ok (.ifCond .ne 15, 3) := by decide +kernel
theorem dL_law_2507 : decode cL_law 2507 = .ok (.aload_n 3, 1) := by decide +kernel
theorem dL_law_2508 : decode cL_law 2508 = .ok (.iconst 0, 1) := by decide +kernel
theorem dL_law_2509 : decode cL_law 2509 = .ok (.laload, 1) := by decide +kernel
theorem dL_law_2510 : decode cL_law 2510 = .ok (.iload 6, 2) := by decide +kernel
theorem dL_law_2512 : decode cL_law 2512 = .ok (.i2l, 1) := by decide +kernel
theorem dL_law_2513 : decode cL_law 2513 = .ok (.lcmp, 1) := by decide +kernel
theorem dL_law_2514 : decode cL_law 2514 = .ok (.ifCond .eq 5, 3) := by decide +kernel
theorem dL_law_2517 : decode cL_law 2517 = .ok (.iconst 0, 1) := by decide +kernel
theorem dL_law_2518 : decode cL_law 2518 = .ok (.ireturn, 1) := by decide +kernel
theorem dL_law_2519 : decode cL_law 2519 = .ok (.goto 971, 3) := by decide +kernel
theorem dL_law_2522 : decode cL_law 2522 = .ok (.aload_n 1, 1) := by decide +kernel
theorem dL_law_2523 : decode cL_law 2523 = .ok (.invokevirtual 328, 3) := by decide +kernel
theorem dL_law_2526 : decode cL_law 2526 = .ok (.aload_n 2, 1) := by decide +kernel
theorem dL_law_2527 : decode cL_law 2527 = .ok (.invokevirtual 331, 3) := by decide +kernel
theorem dL_law_2530 : decode cL_law 2530 = .ok (.if_icmp .eq 960, 3) := by decide +kernel
theorem dL_law_2533 : decode cL_law 2533 = .ok (.iconst 0, 1) := by decide +kernel
theorem dL_law_2534 : decode cL_law 2534 = .ok (.ireturn, 1) := by decide +kernel
theorem dL_law_2535 : decode cL_law 2535 = .ok (.aload_n 1, 1) := by decide +kernel
theorem dL_law_2536 : decode cL_law 2536 = .ok (.aload_n 0, 1) := by decide +kernel
theorem dL_law_2537 : decode cL_law 2537 = .ok (.iload 4, 2) := by decide +kernel
theorem dL_law_2539 : decode cL_law 2539 = .ok (.iconst 1, 1) := by decide +kernel
theorem dL_law_2540 : decode cL_law 2540 = .ok (.iadd, 1) := by decide +kernel
theorem dL_law_2541 : decode cL_law 2541 = .ok (.iaload, 1) := by decide +kernel
theorem dL_law_2542 : decode cL_law 2542 = .ok (.aload_n 3, 1) := by decide +kernel
theorem dL_law_2543 : decode cL_law 2543 = .ok (.invokestatic 332, 3) := by decide +kernel
theorem dL_law_2546 : decode cL_law 2546 = .ok (.istore 5, 2) := by decide +kernel
theorem dL_law_2548 : decode cL_law 2548 = .ok (.aload_n 2, 1) := by decide +kernel
theorem dL_law_2549 : decode cL_law 2549 = .ok (.aload_n 0, 1) := by decide +kernel
theorem dL_law_2550 : decode cL_law 2550 = .ok (.iload 4, 2) := by decide +kernel
theorem dL_law_2552 : decode cL_law 2552 = .ok (.iconst 1, 1) := by decide +kernel
theorem dL_law_2553 : decode cL_law 2553 = .ok (.iadd, 1) := by decide +kernel
theorem dL_law_2554 : decode cL_law 2554 = .ok (.iaload, 1) := by decide +kernel
theorem dL_law_2555 : decode cL_law 2555 = .ok (.invokevirtual 334, 3) := by decide +kernel
theorem dL_law_2558 : decode cL_law 2558 = .ok (.istore 6, 2) := by decide +kernel
theorem dL_law_2560 : decode cL_law 2560 = .ok (.aload_n 2, 1) := by decide +kernel
theorem dL_law_2561 : decode cL_law 2561 = .ok (.invokevirtual 176, 3) := by decide +kernel
theorem dL_law_2564 : decode cL_law 2564 = .ok (.iload 5, 2) := by decide +kernel
theorem dL_law_2566 : decode cL_law 2566 = .ok (.if_icmp .eq 5, 3) := by decide +kernel
theorem dL_law_2569 : decode cL_law 2569 = .ok (.iconst 0, 1) := by decide +kernel
theorem dL_law_2570 : decode cL_law 2570 = .ok (.ireturn, 1) := by decide +kernel
theorem dL_law_2571 : decode cL_law 2571 = .ok (.iload 5, 2) := by decide +kernel
theorem dL_law_2573 : decode cL_law 2573 = .ok (.ifCond .ne 15, 3) := by decide +kernel
theorem dL_law_2576 : decode cL_law 2576 = .ok (.aload_n 3, 1) := by decide +kernel
theorem dL_law_2577 : decode cL_law 2577 = .ok (.iconst 0, 1) := by decide +kernel
theorem dL_law_2578 : decode cL_law 2578 = .ok (.laload, 1) := by decide +kernel
theorem dL_law_2579 : decode cL_law 2579 = .ok (.iload 6, 2) := by decide +kernel
theorem dL_law_2581 : decode cL_law 2581 = .ok (.i2l, 1) := by decide +kernel
theorem dL_law_2582 : decode cL_law 2582 = .ok (.lcmp, 1) := by decide +kernel
theorem dL_law_2583 : decode cL_law 2583 = .ok (.ifCond .eq 5, 3) := by decide +kernel
theorem dL_law_2586 : decode cL_law 2586 = .ok (.iconst 0, 1) := by decide +kernel
theorem dL_law_2587 : decode cL_law 2587 = .ok (.ireturn, 1) := by decide +kernel
theorem dL_law_2588 : decode cL_law 2588 = .ok (.goto 902, 3) := by decide +kernel
theorem dL_law_2591 : decode cL_law 2591 = .ok (.aload_n 1, 1) := by decide +kernel
theorem dL_law_2592 : decode cL_law 2592 = .ok (.aload_n 0, 1) := by decide +kernel
theorem dL_law_2593 : decode cL_law 2593 = .ok (.iload 4, 2) := by decide +kernel
theorem dL_law_2595 : decode cL_law 2595 = .ok (.iconst 1, 1) := by decide +kernel
theorem dL_law_2596 : decode cL_law 2596 = .ok (.iadd, 1) := by decide +kernel
theorem dL_law_2597 : decode cL_law 2597 = .ok (.iaload, 1) := by decide +kernel
theorem dL_law_2598 : decode cL_law 2598 = .ok (.aload_n 0, 1) := by decide +kernel
theorem dL_law_2599 : decode cL_law 2599 = .ok (.iload 4, 2) := by decide +kernel
theorem dL_law_2601 : decode cL_law 2601 = .ok (.iconst 2, 1) := by decide +kernel
theorem dL_law_2602 : decode cL_law 2602 = .ok (.iadd, 1) := by decide +kernel
theorem dL_law_2603 : decode cL_law 2603 = .ok (.iaload, 1) := by decide +kernel
theorem dL_law_2604 : decode cL_law 2604 = .ok (.aload_n 3, 1) := by decide +kernel
theorem dL_law_2605 : decode cL_law 2605 = .ok (.invokestatic 335, 3) := by decide +kernel
theorem dL_law_2608 : decode cL_law 2608 = .ok (.istore 5, 2) := by decide +kernel
theorem dL_law_2610 : decode cL_law 2610 = .ok (.aload_n 2, 1) := by decide +kernel
theorem dL_law_2611 : decode cL_law 2611 = .ok (.aload_n 0, 1) := by decide +kernel
theorem dL_law_2612 : decode cL_law 2612 = .ok (.iload 4, 2) := by decide +kernel
theorem dL_law_2614 : decode cL_law 2614 = .ok (.iconst 1, 1) := by decide +kernel
theorem dL_law_2615 : decode cL_law 2615 = .ok (.iadd, 1) := by decide +kernel
theorem dL_law_2616 : decode cL_law 2616 = .ok (.iaload, 1) := by decide +kernel
theorem dL_law_2617 : decode cL_law 2617 = .ok (.aload_n 0, 1) := by decide +kernel
theorem dL_law_2618 : decode cL_law 2618 = .ok (.iload 4, 2) := by decide +kernel
theorem dL_law_2620 : decode cL_law 2620 = .ok (.iconst 2, 1) := by decide +kernel
theorem dL_law_2621 : decode cL_law 2621 = .ok (.iadd, 1) := by decide +kernel
theorem dL_law_2622 : decode cL_law 2622 = .ok (.iaload, 1) := by decide +kernel
theorem dL_law_2623 : decode cL_law 2623 = .ok (.invokevirtual 337, 3) := by decide +kernel
theorem dL_law_2626 : decode cL_law 2626 = .ok (.istore 6, 2) := by decide +kernel
theorem dL_law_2628 : decode cL_law 2628 = .ok (.aload_n 2, 1) := by decide +kernel
theorem dL_law_2629 : decode cL_law 2629 = .ok (.invokevirtual 176, 3) := by decide +kernel
theorem dL_law_2632 : decode cL_law 2632 = .ok (.iload 5, 2) := by decide +kernel
theorem dL_law_2634 : decode cL_law 2634 = .ok (.if_icmp .eq 5, 3) := by decide +kernel
theorem dL_law_2637 : decode cL_law 2637 = .ok (.iconst 0, 1) := by decide +kernel
theorem dL_law_2638 : decode cL_law 2638 = .ok (.ireturn, 1) := by decide +kernel
theorem dL_law_2639 : decode cL_law 2639 = .ok (.iload 5, 2) := by decide +kernel
theorem dL_law_2641 : decode cL_law 2641 = .ok (.ifCond .ne 15, 3) := by decide +kernel
theorem dL_law_2644 : decode cL_law 2644 = .ok (.aload_n 3, 1) := by decide +kernel
theorem dL_law_2645 : decode cL_law 2645 = .ok (.iconst 0, 1) := by decide +kernel
theorem dL_law_2646 : decode cL_law 2646 = .ok (.laload, 1) := by decide +kernel
theorem dL_law_2647 : decode cL_law 2647 = .ok (.iload 6, 2) := by decide +kernel
theorem dL_law_2649 : decode cL_law 2649 = .ok (.i2l, 1) := by decide +kernel
theorem dL_law_2650 : decode cL_law 2650 = .ok (.lcmp, 1) := by decide +kernel
theorem dL_law_2651 : decode cL_law 2651 = .ok (.ifCond .eq 5, 3) := by decide +kernel
theorem dL_law_2654 : decode cL_law 2654 = .ok (.iconst 0, 1) := by decide +kernel
theorem dL_law_2655 : decode cL_law 2655 = .ok (.ireturn, 1) := by decide +kernel
theorem dL_law_2656 : decode cL_law 2656 = .ok (.goto 834, 3) := by decide +kernel
theorem dL_law_2659 : decode cL_law 2659 = .ok (.aload_n 1, 1) := by decide +kernel
theorem dL_law_2660 : decode cL_law 2660 = .ok (.aload_n 0, 1) := by decide +kernel
theorem dL_law_2661 : decode cL_law 2661 = .ok (.iload 4, 2) := by decide +kernel
theorem dL_law_2663 : decode cL_law 2663 = .ok (.iconst 1, 1) := by decide +kernel
theorem dL_law_2664 : decode cL_law 2664 = .ok (.iadd, 1) := by decide +kernel
theorem dL_law_2665 : decode cL_law 2665 = .ok (.iaload, 1) := by decide +kernel
theorem dL_law_2666 : decode cL_law 2666 = .ok (.aload_n 3, 1) := by decide +kernel
theorem dL_law_2667 : decode cL_law 2667 = .ok (.invokestatic 338, 3) := by decide +kernel
theorem dL_law_2670 : decode cL_law 2670 = .ok (.istore 5, 2) := by decide +kernel
theorem dL_law_2672 : decode cL_law 2672 = .ok (.aload_n 2, 1) := by decide +kernel
theorem dL_law_2673 : decode cL_law 2673 = .ok (.aload_n 0, 1) := by decide +kernel
theorem dL_law_2674 : decode cL_law 2674 = .ok (.iload 4, 2) := by decide +kernel
theorem dL_law_2676 : decode cL_law 2676 = .ok (.iconst 1, 1) := by decide +kernel
theorem dL_law_2677 : decode cL_law 2677 = .ok (.iadd, 1) := by decide +kernel
theorem dL_law_2678 : decode cL_law 2678 = .ok (.iaload, 1) := by decide +kernel
theorem dL_law_2679 : decode cL_law 2679 = .ok (.invokevirtual 340, 3) := by decide +kernel
theorem dL_law_2682 : decode cL_law 2682 = .ok (.istore 6, 2) := by decide +kernel
theorem dL_law_2684 : decode cL_law 2684 = .ok (.aload_n 2, 1) := by decide +kernel
theorem dL_law_2685 : decode cL_law 2685 = .ok (.invokevirtual 176, 3) := by decide +kernel
theorem dL_law_2688 : decode cL_law 2688 = .ok (.iload 5, 2) := by decide +kernel
theorem dL_law_2690 : decode cL_law 2690 = .ok (.if_icmp .eq 5, 3) := by decide +kernel
theorem dL_law_2693 : decode cL_law 2693 = .ok (.iconst 0, 1) := by decide +kernel
theorem dL_law_2694 : decode cL_law 2694 = .ok (.ireturn, 1) := by decide +kernel
theorem dL_law_2695 : decode cL_law 2695 = .ok (.iload 5, 2) := by decide +kernel
theorem dL_law_2697 : decode cL_law 2697 = .ok (.ifCond .ne 15, 3) := by decide +kernel
theorem dL_law_2700 : decode cL_law 2700 = .ok (.aload_n 3, 1) := by decide +kernel
theorem dL_law_2701 : decode cL_law 2701 = .ok (.iconst 0, 1) := by decide +kernel
theorem dL_law_2702 : decode cL_law 2702 = .ok (.laload, 1) := by decide +kernel
theorem dL_law_2703 : decode cL_law 2703 = .ok (.iload 6, 2) := by decide +kernel
theorem dL_law_2705 : decode cL_law 2705 = .ok (.i2l, 1) := by decide +kernel
theorem dL_law_2706 : decode cL_law 2706 = .ok (.lcmp, 1) := by decide +kernel
theorem dL_law_2707 : decode cL_law 2707 = .ok (.ifCond .eq 5, 3) := by decide +kernel
theorem dL_law_2710 : decode cL_law 2710 = .ok (.iconst 0, 1) := by decide +kernel
theorem dL_law_2711 : decode cL_law 2711 = .ok (.ireturn, 1) := by decide +kernel
theorem dL_law_2712 : decode cL_law 2712 = .ok (.goto 778, 3) := by decide +kernel
theorem dL_law_2715 : decode cL_law 2715 = .ok (.aload_n 1, 1) := by decide +kernel
theorem dL_law_2716 : decode cL_law 2716 = .ok (.aload_n 0, 1) := by decide +kernel
theorem dL_law_2717 : decode cL_law 2717 = .ok (.iload 4, 2) := by decide +kernel
theorem dL_law_2719 : decode cL_law 2719 = .ok (.iconst 1, 1) := by decide +kernel
theorem dL_law_2720 : decode cL_law 2720 = .ok (.iadd, 1) := by decide +kernel
theorem dL_law_2721 : decode cL_law 2721 = .ok (.iaload, 1) := by decide +kernel
theorem dL_law_2722 : decode cL_law 2722 = .ok (.aload_n 0, 1) := by decide +kernel
theorem dL_law_2723 : decode cL_law 2723 = .ok (.iload 4, 2) := by decide +kernel
theorem dL_law_2725 : decode cL_law 2725 = .ok (.iconst 2, 1) := by decide +kernel
theorem dL_law_2726 : decode cL_law 2726 = .ok (.iadd, 1) := by decide +kernel
theorem dL_law_2727 : decode cL_law 2727 = .ok (.iaload, 1) := by decide +kernel
theorem dL_law_2728 : decode cL_law 2728 = .ok (.aload_n 0, 1) := by decide +kernel
theorem dL_law_2729 : decode cL_law 2729 = .ok (.iload 4, 2) := by decide +kernel
theorem dL_law_2731 : decode cL_law 2731 = .ok (.iconst 3, 1) := by decide +kernel
theorem dL_law_2732 : decode cL_law 2732 = .ok (.iadd, 1) := by decide +kernel
theorem dL_law_2733 : decode cL_law 2733 = .ok (.iaload, 1) := by decide +kernel
theorem dL_law_2734 : decode cL_law 2734 = .ok (.aload_n 3, 1) := by decide +kernel
theorem dL_law_2735 : decode cL_law 2735 = .ok (.invokestatic 341, 3) := by decide +kernel
theorem dL_law_2738 : decode cL_law 2738 = .ok (.istore 5, 2) := by decide +kernel
theorem dL_law_2740 : decode cL_law 2740 = .ok (.aload_n 2, 1) := by decide +kernel
theorem dL_law_2741 : decode cL_law 2741 = .ok (.aload_n 0, 1) := by decide +kernel
theorem dL_law_2742 : decode cL_law 2742 = .ok (.iload 4, 2) := by decide +kernel
theorem dL_law_2744 : decode cL_law 2744 = .ok (.iconst 1, 1) := by decide +kernel
theorem dL_law_2745 : decode cL_law 2745 = .ok (.iadd, 1) := by decide +kernel
theorem dL_law_2746 : decode cL_law 2746 = .ok (.iaload, 1) := by decide +kernel
theorem dL_law_2747 : decode cL_law 2747 = .ok (.aload_n 0, 1) := by decide +kernel
theorem dL_law_2748 : decode cL_law 2748 = .ok (.iload 4, 2) := by decide +kernel
theorem dL_law_2750 : decode cL_law 2750 = .ok (.iconst 2, 1) := by decide +kernel
theorem dL_law_2751 : decode cL_law 2751 = .ok (.iadd, 1) := by decide +kernel
theorem dL_law_2752 : decode cL_law 2752 = .ok (.iaload, 1) := by decide +kernel
theorem dL_law_2753 : decode cL_law 2753 = .ok (.aload_n 0, 1) := by decide +kernel
theorem dL_law_2754 : decode cL_law 2754 = .ok (.iload 4, 2) := by decide +kernel
theorem dL_law_2756 : decode cL_law 2756 = .ok (.iconst 3, 1) := by decide +kernel
theorem dL_law_2757 : decode cL_law 2757 = .ok (.iadd, 1) := by decide +kernel
theorem dL_law_2758 : decode cL_law 2758 = .ok (.iaload, 1) := by decide +kernel
theorem dL_law_2759 : decode cL_law 2759 = .ok (.invokevirtual 344, 3) := by decide +kernel
theorem dL_law_2762 : decode cL_law 2762 = .ok (.istore 6, 2) := by decide +kernel
theorem dL_law_2764 : decode cL_law 2764 = .ok (.aload_n 2, 1) := by decide +kernel
theorem dL_law_2765 : decode cL_law 2765 = .ok (.invokevirtual 176, 3) := by decide +kernel
theorem dL_law_2768 : decode cL_law 2768 = .ok (.iload 5, 2) := by decide +kernel
theorem dL_law_2770 : decode cL_law 2770 = .ok (.if_icmp .eq 5, 3) := by decide +kernel
theorem dL_law_2773 : decode cL_law 2773 = .ok (.iconst 0, 1) := by decide +kernel
theorem dL_law_2774 : decode cL_law 2774 = .ok (.ireturn, 1) := by decide +kernel
theorem dL_law_2775 : decode cL_law 2775 = .ok (.iload 5, 2) := by decide +kernel
theorem dL_law_2777 : decode cL_law 2777 = .ok (.ifCond .ne 15, 3) := by decide +kernel
theorem dL_law_2780 : decode cL_law 2780 = .ok (.aload_n 3, 1) := by decide +kernel
theorem dL_law_2781 : decode cL_law 2781 = .ok (.iconst 0, 1) := by decide +kernel
theorem dL_law_2782 : decode cL_law 2782 = .ok (.laload, 1) := by decide +kernel
theorem dL_law_2783 : decode cL_law 2783 = .ok (.iload 6, 2) := by decide +kernel
theorem dL_law_2785 : decode cL_law 2785 = .ok (.i2l, 1) := by decide +kernel
theorem dL_law_2786 : decode cL_law 2786 = .ok (.lcmp, 1) := by decide +kernel
theorem dL_law_2787 : decode cL_law 2787 = .ok (.ifCond .eq 5, 3) := by decide +kernel
theorem dL_law_2790 : decode cL_law 2790 = .ok (.iconst 0, 1) := by decide +kernel
theorem dL_law_2791 : decode cL_law 2791 = .ok (.ireturn, 1) := by decide +kernel
theorem dL_law_2792 : decode cL_law 2792 = .ok (.goto 698, 3) := by decide +kernel
theorem dL_law_2795 : decode cL_law 2795 = .ok (.aload_n 1, 1) := by decide +kernel
theorem dL_law_2796 : decode cL_law 2796 = .ok (.invokevirtual 345, 3) := by decide +kernel
theorem dL_law_2799 : decode cL_law 2799 = .ok (.aload_n 2, 1) := by decide +kernel
theorem dL_law_2800 : decode cL_law 2800 = .ok (.invokevirtual 348, 3) := by decide +kernel
theorem dL_law_2803 : decode cL_law 2803 = .ok (.if_icmp .eq 687, 3) := by decide +kernel
theorem dL_law_2806 : decode cL_law 2806 = .ok (.iconst 0, 1) := by decide +kernel
theorem dL_law_2807 : decode cL_law 2807 = .ok (.ireturn, 1) := by decide +kernel
theorem dL_law_2808 : decode cL_law 2808 = .ok (.aload_n 1, 1) := by decide +kernel
theorem dL_law_2809 : decode cL_law 2809 = .ok (.aload_n 0, 1) := by decide +kernel
theorem dL_law_2810 : decode cL_law 2810 = .ok (.iload 4, 2) := by decide +kernel
theorem dL_law_2812 : decode cL_law 2812 = .ok (.iconst 1, 1) := by decide +kernel
theorem dL_law_2813 : decode cL_law 2813 = .ok (.iadd, 1) := by decide +kernel
theorem dL_law_2814 : decode cL_law 2814 = .ok (.iaload, 1) := by decide +kernel
theorem dL_law_2815 : decode cL_law 2815 = .ok (.aload_n 3, 1) := by decide +kernel
theorem dL_law_2816 : decode cL_law 2816 = .ok (.invokestatic 349, 3) := by decide +kernel
theorem dL_law_2819 : decode cL_law 2819 = .ok (.istore 5, 2) := by decide +kernel
theorem dL_law_2821 : decode cL_law 2821 = .ok (.aload_n 2, 1) := by decide +kernel
theorem dL_law_2822 : decode cL_law 2822 = .ok (.aload_n 0, 1) := by decide +kernel
theorem dL_law_2823 : decode cL_law 2823 = .ok (.iload 4, 2) := by decide +kernel
theorem dL_law_2825 : decode cL_law 2825 = .ok (.iconst 1, 1) := by decide +kernel
theorem dL_law_2826 : decode cL_law 2826 = .ok (.iadd, 1) := by decide +kernel
theorem dL_law_2827 : decode cL_law 2827 = .ok (.iaload, 1) := by decide +kernel
theorem dL_law_2828 : decode cL_law 2828 = .ok (.invokevirtual 351, 3) := by decide +kernel
theorem dL_law_2831 : decode cL_law 2831 = .ok (.istore 6, 2) := by decide +kernel
theorem dL_law_2833 : decode cL_law 2833 = .ok (.aload_n 2, 1) := by decide +kernel
theorem dL_law_2834 : decode cL_law 2834 = .ok (.invokevirtual 176, 3) := by decide +kernel
theorem dL_law_2837 : decode cL_law 2837 = .ok (.iload 5, 2) := by decide +kernel
theorem dL_law_2839 : decode cL_law 2839 = .ok (.if_icmp .eq 5, 3) := by decide +kernel
theorem dL_law_2842 : decode cL_law 2842 = .ok (.iconst 0, 1) := by decide +kernel
theorem dL_law_2843 : decode cL_law 2843 = .ok (.ireturn, 1) := by decide +kernel
theorem dL_law_2844 : decode cL_law 2844 = .ok (.iload 5, 2) := by decide +kernel
theorem dL_law_2846 : decode cL_law 2846 = .ok (.ifCond .ne 15, 3) := by decide +kernel
theorem dL_law_2849 : decode cL_law 2849 = .ok (.aload_n 3, 1) := by decide +kernel
theorem dL_law_2850 : decode cL_law 2850 = .ok (.iconst 0, 1) := by decide +kernel
theorem dL_law_2851 : decode cL_law 2851 = .ok (.laload, 1) := by decide +kernel
theorem dL_law_2852 : decode cL_law 2852 = .ok (.iload 6, 2) := by decide +kernel
theorem dL_law_2854 : decode cL_law 2854 = .ok (.i2l, 1) := by decide +kernel
theorem dL_law_2855 : decode cL_law 2855 = .ok (.lcmp, 1) := by decide +kernel
theorem dL_law_2856 : decode cL_law 2856 = .ok (.ifCond .eq 5, 3) := by decide +kernel
theorem dL_law_2859 : decode cL_law 2859 = .ok (.iconst 0, 1) := by decide +kernel
theorem dL_law_2860 : decode cL_law 2860 = .ok (.ireturn, 1) := by decide +kernel
theorem dL_law_2861 : decode cL_law 2861 = .ok (.goto 629, 3) := by decide +kernel
theorem dL_law_2864 : decode cL_law 2864 = .ok (.aload_n 1, 1) := by decide +kernel
theorem dL_law_2865 : decode cL_law 2865 = .ok (.aload_n 0, 1) := by decide +kernel
theorem dL_law_2866 : decode cL_law 2866 = .ok (.iload 4, 2) := by decide +kernel
theorem dL_law_2868 : decode cL_law 2868 = .ok (.iconst 1, 1) := by decide +kernel
theorem dL_law_2869 : decode cL_law 2869 = .ok (.iadd, 1) := by decide +kernel
theorem dL_law_2870 : decode cL_law 2870 = .ok (.iaload, 1) := by decide +kernel
theorem dL_law_2871 : decode cL_law 2871 = .ok (.aload_n 0, 1) := by decide +kernel
theorem dL_law_2872 : decode cL_law 2872 = .ok (.iload 4, 2) := by decide +kernel
theorem dL_law_2874 : decode cL_law 2874 = .ok (.iconst 2, 1) := by decide +kernel
theorem dL_law_2875 : decode cL_law 2875 = .ok (.iadd, 1) := by decide +kernel
theorem dL_law_2876 : decode cL_law 2876 = .ok (.iaload, 1) := by decide +kernel
theorem dL_law_2877 : decode cL_law 2877 = .ok (.aload_n 0, 1) := by decide +kernel
theorem dL_law_2878 : decode cL_law 2878 = .ok (.iload 4, 2) := by decide +kernel
theorem dL_law_2880 : decode cL_law 2880 = .ok (.iconst 3, 1) := by decide +kernel
theorem dL_law_2881 : decode cL_law 2881 = .ok (.iadd, 1) := by decide +kernel
theorem dL_law_2882 : decode cL_law 2882 = .ok (.iaload, 1) := by decide +kernel
theorem dL_law_2883 : decode cL_law 2883 = .ok (.aload_n 3, 1) := by decide +kernel
theorem dL_law_2884 : decode cL_law 2884 = .ok (.invokestatic 352, 3) := by decide +kernel
theorem dL_law_2887 : decode cL_law 2887 = .ok (.istore 5, 2) := by decide +kernel
theorem dL_law_2889 : decode cL_law 2889 = .ok (.aload_n 2, 1) := by decide +kernel
theorem dL_law_2890 : decode cL_law 2890 = .ok (.aload_n 0, 1) := by decide +kernel
theorem dL_law_2891 : decode cL_law 2891 = .ok (.iload 4, 2) := by decide +kernel
theorem dL_law_2893 : decode cL_law 2893 = .ok (.iconst 1, 1) := by decide +kernel
theorem dL_law_2894 : decode cL_law 2894 = .ok (.iadd, 1) := by decide +kernel
theorem dL_law_2895 : decode cL_law 2895 = .ok (.iaload, 1) := by decide +kernel
theorem dL_law_2896 : decode cL_law 2896 = .ok (.aload_n 0, 1) := by decide +kernel
theorem dL_law_2897 : decode cL_law 2897 = .ok (.iload 4, 2) := by decide +kernel
theorem dL_law_2899 : decode cL_law 2899 = .ok (.iconst 2, 1) := by decide +kernel
theorem dL_law_2900 : decode cL_law 2900 = .ok (.iadd, 1) := by decide +kernel
theorem dL_law_2901 : decode cL_law 2901 = .ok (.iaload, 1) := by decide +kernel
theorem dL_law_2902 : decode cL_law 2902 = .ok (.aload_n 0, 1) := by decide +kernel
theorem dL_law_2903 : decode cL_law 2903 = .ok (.iload 4, 2) := by decide +kernel
theorem dL_law_2905 : decode cL_law 2905 = .ok (.iconst 3, 1) := by decide +kernel
theorem dL_law_2906 : decode cL_law 2906 = .ok (.iadd, 1) := by decide +kernel
theorem dL_law_2907 : decode cL_law 2907 = .ok (.iaload, 1) := by decide +kernel
theorem dL_law_2908 : decode cL_law 2908 = .ok (.invokevirtual 354, 3) := by decide +kernel
theorem dL_law_2911 : decode cL_law 2911 = .ok (.istore 6, 2) := by decide +kernel
theorem dL_law_2913 : decode cL_law 2913 = .ok (.aload_n 2, 1) := by decide +kernel
theorem dL_law_2914 : decode cL_law 2914 = .ok (.invokevirtual 176, 3) := by decide +kernel
theorem dL_law_2917 : decode cL_law 2917 = .ok (.iload 5, 2) := by decide +kernel
theorem dL_law_2919 : decode cL_law 2919 = .ok (.if_icmp .eq 5, 3) := by decide +kernel
theorem dL_law_2922 : decode cL_law 2922 = .ok (.iconst 0, 1) := by decide +kernel
theorem dL_law_2923 : decode cL_law 2923 = .ok (.ireturn, 1) := by decide +kernel
theorem dL_law_2924 : decode cL_law 2924 = .ok (.iload 5, 2) := by decide +kernel
theorem dL_law_2926 : decode cL_law 2926 = .ok (.ifCond .ne 15, 3) := by decide +kernel
theorem dL_law_2929 : decode cL_law 2929 = .ok (.aload_n 3, 1) := by decide +kernel
theorem dL_law_2930 : decode cL_law 2930 = .ok (.iconst 0, 1) := by decide +kernel
theorem dL_law_2931 : decode cL_law 2931 = .ok (.laload, 1) := by decide +kernel
theorem dL_law_2932 : decode cL_law 2932 = .ok (.iload 6, 2) := by decide +kernel
theorem dL_law_2934 : decode cL_law 2934 = .ok (.i2l, 1) := by decide +kernel
theorem dL_law_2935 : decode cL_law 2935 = .ok (.lcmp, 1) := by decide +kernel
theorem dL_law_2936 : decode cL_law 2936 = .ok (.ifCond .eq 5, 3) := by decide +kernel
theorem dL_law_2939 : decode cL_law 2939 = .ok (.iconst 0, 1) := by decide +kernel
theorem dL_law_2940 : decode cL_law 2940 = .ok (.ireturn, 1) := by decide +kernel
theorem dL_law_2941 : decode cL_law 2941 = .ok (.goto 549, 3) := by decide +kernel
theorem dL_law_2944 : decode cL_law 2944 = .ok (.aload_n 1, 1) := by decide +kernel
theorem dL_law_2945 : decode cL_law 2945 = .ok (.aload_n 0, 1) := by decide +kernel
theorem dL_law_2946 : decode cL_law 2946 = .ok (.iload 4, 2) := by decide +kernel
theorem dL_law_2948 : decode cL_law 2948 = .ok (.iconst 1, 1) := by decide +kernel
theorem dL_law_2949 : decode cL_law 2949 = .ok (.iadd, 1) := by decide +kernel
theorem dL_law_2950 : decode cL_law 2950 = .ok (.iaload, 1) := by decide +kernel
theorem dL_law_2951 : decode cL_law 2951 = .ok (.aload_n 0, 1) := by decide +kernel
theorem dL_law_2952 : decode cL_law 2952 = .ok (.iload 4, 2) := by decide +kernel
theorem dL_law_2954 : decode cL_law 2954 = .ok (.iconst 2, 1) := by decide +kernel
theorem dL_law_2955 : decode cL_law 2955 = .ok (.iadd, 1) := by decide +kernel
theorem dL_law_2956 : decode cL_law 2956 = .ok (.iaload, 1) := by decide +kernel
theorem dL_law_2957 : decode cL_law 2957 = .ok (.aload_n 0, 1) := by decide +kernel
theorem dL_law_2958 : decode cL_law 2958 = .ok (.iload 4, 2) := by decide +kernel
theorem dL_law_2960 : decode cL_law 2960 = .ok (.iconst 3, 1) := by decide +kernel
theorem dL_law_2961 : decode cL_law 2961 = .ok (.iadd, 1) := by decide +kernel
theorem dL_law_2962 : decode cL_law 2962 = .ok (.iaload, 1) := by decide +kernel
theorem dL_law_2963 : decode cL_law 2963 = .ok (.ifCond .eq 7, 3) := by decide +kernel
theorem dL_law_2966 : decode cL_law 2966 = .ok (.iconst 1, 1) := by decide +kernel
theorem dL_law_2967 : decode cL_law 2967 = .ok (.goto 4, 3) := by decide +kernel
theorem dL_law_2970 : decode cL_law 2970 = .ok (.iconst 0, 1) := by decide +kernel
theorem dL_law_2971 : decode cL_law 2971 = .ok (.aload_n 3, 1) := by decide +kernel
theorem dL_law_2972 : decode cL_law 2972 = .ok (.invokestatic 355, 3) := by decide +kernel
theorem dL_law_2975 : decode cL_law 2975 = .ok (.istore 5, 2) := by decide +kernel
theorem dL_law_2977 : decode cL_law 2977 = .ok (.aload_n 2, 1) := by decide +kernel
theorem dL_law_2978 : decode cL_law 2978 = .ok (.aload_n 0, 1) := by decide +kernel
theorem dL_law_2979 : decode cL_law 2979 = .ok (.iload 4, 2) := by decide +kernel
theorem dL_law_2981 : decode cL_law 2981 = .ok (.iconst 1, 1) := by decide +kernel
theorem dL_law_2982 : decode cL_law 2982 = .ok (.iadd, 1) := by decide +kernel
theorem dL_law_2983 : decode cL_law 2983 = .ok (.iaload, 1) := by decide +kernel
theorem dL_law_2984 : decode cL_law 2984 = .ok (.aload_n 0, 1) := by decide +kernel
theorem dL_law_2985 : decode cL_law 2985 = .ok (.iload 4, 2) := by decide +kernel
theorem dL_law_2987 : decode cL_law 2987 = .ok (.iconst 2, 1) := by decide +kernel
theorem dL_law_2988 : decode cL_law 2988 = .ok (.iadd, 1) := by decide +kernel
theorem dL_law_2989 : decode cL_law 2989 = .ok (.iaload, 1) := by decide +kernel
theorem dL_law_2990 : decode cL_law 2990 = .ok (.aload_n 0, 1) := by decide +kernel
theorem dL_law_2991 : decode cL_law 2991 = .ok (.iload 4, 2) := by decide +kernel
theorem dL_law_2993 : decode cL_law 2993 = .ok (.iconst 3, 1) := by decide +kernel
theorem dL_law_2994 : decode cL_law 2994 = .ok (.iadd, 1) := by decide +kernel
theorem dL_law_2995 : decode cL_law 2995 = .ok (.iaload, 1) := by decide +kernel
theorem dL_law_2996 : decode cL_law 2996 = .ok (.ifCond .eq 7, 3) := by decide +kernel
theorem dL_law_2999 : decode cL_law 2999 = .ok (.iconst 1, 1) := by decide +kernel
theorem dL_law_3000 : decode cL_law 3000 = .ok (.goto 4, 3) := by decide +kernel
theorem dL_law_3003 : decode cL_law 3003 = .ok (.iconst 0, 1) := by decide +kernel
theorem dL_law_3004 : decode cL_law 3004 = .ok (.invokevirtual 358, 3) := by decide +kernel
theorem dL_law_3007 : decode cL_law 3007 = .ok (.istore 6, 2) := by decide +kernel
theorem dL_law_3009 : decode cL_law 3009 = .ok (.aload_n 2, 1) := by decide +kernel
theorem dL_law_3010 : decode cL_law 3010 = .ok (.invokevirtual 176, 3) := by decide +kernel
theorem dL_law_3013 : decode cL_law 3013 = .ok (.iload 5, 2) := by decide +kernel
theorem dL_law_3015 : decode cL_law 3015 = .ok (.if_icmp .eq 5, 3) := by decide +kernel
theorem dL_law_3018 : decode cL_law 3018 = .ok (.iconst 0, 1) := by decide +kernel
theorem dL_law_3019 : decode cL_law 3019 = .ok (.ireturn, 1) := by decide +kernel
theorem dL_law_3020 : decode cL_law 3020 = .ok (.iload 5, 2) := by decide +kernel
theorem dL_law_3022 : decode cL_law 3022 = .ok (.ifCond .ne 22, 3) := by decide +kernel
theorem dL_law_3025 : decode cL_law 3025 = .ok (.aload_n 3, 1) := by decide +kernel
theorem dL_law_3026 : decode cL_law 3026 = .ok (.iconst 0, 1) := by decide +kernel
theorem dL_law_3027 : decode cL_law 3027 = .ok (.laload, 1) := by decide +kernel
theorem dL_law_3028 : decode cL_law 3028 = .ok (.iload 6, 2) := by decide +kernel
theorem dL_law_3030 : decode cL_law 3030 = .ok (.ifCond .eq 7, 3) := by decide +kernel
theorem dL_law_3033 : decode cL_law 3033 = .ok (.lconst 1, 1) := by decide +kernel
theorem dL_law_3034 : decode cL_law 3034 = .ok (.goto 4, 3) := by decide +kernel
theorem dL_law_3037 : decode cL_law 3037 = .ok (.lconst 0, 1) := by decide +kernel
theorem dL_law_3038 : decode cL_law 3038 = .ok (.lcmp, 1) := by decide +kernel
theorem dL_law_3039 : decode cL_law 3039 = .ok (.ifCond .eq 5, 3) := by decide +kernel
theorem dL_law_3042 : decode cL_law 3042 = .ok (.iconst 0, 1) := by decide +kernel
theorem dL_law_3043 : decode cL_law 3043 = .ok (.ireturn, 1) := by decide +kernel
theorem dL_law_3044 : decode cL_law 3044 = .ok (.goto 446, 3) := by decide +kernel
theorem dL_law_3047 : decode cL_law 3047 = .ok (.aload_n 1, 1) := by decide +kernel
theorem dL_law_3048 : decode cL_law 3048 = .ok (.aload_n 0, 1) := by decide +kernel
theorem dL_law_3049 : decode cL_law 3049 = .ok (.iload 4, 2) := by decide +kernel
theorem dL_law_3051 : decode cL_law 3051 = .ok (.iconst 1, 1) := by decide +kernel
theorem dL_law_3052 : decode cL_law 3052 = .ok (.iadd, 1) := by decide +kernel
theorem dL_law_3053 : decode cL_law 3053 = .ok (.iaload, 1) := by decide +kernel
theorem dL_law_3054 : decode cL_law 3054 = .ok (.aload_n 0, 1) := by decide +kernel
theorem dL_law_3055 : decode cL_law 3055 = .ok (.iload 4, 2) := by decide +kernel
theorem dL_law_3057 : decode cL_law 3057 = .ok (.iconst 2, 1) := by decide +kernel
theorem dL_law_3058 : decode cL_law 3058 = .ok (.iadd, 1) := by decide +kernel
theorem dL_law_3059 : decode cL_law 3059 = .ok (.iaload, 1) := by decide +kernel
theorem dL_law_3060 : decode cL_law 3060 = .ok (.aload_n 3, 1) := by decide +kernel
theorem dL_law_3061 : decode cL_law 3061 = .ok (.invokestatic 359, 3) := by decide +kernel
theorem dL_law_3064 : decode cL_law 3064 = .ok (.istore 5, 2) := by decide +kernel
theorem dL_law_3066 : decode cL_law 3066 = .ok (.aload_n 2, 1) := by decide +kernel
theorem dL_law_3067 : decode cL_law 3067 = .ok (.aload_n 0, 1) := by decide +kernel
theorem dL_law_3068 : decode cL_law 3068 = .ok (.iload 4, 2) := by decide +kernel
theorem dL_law_3070 : decode cL_law 3070 = .ok (.iconst 1, 1) := by decide +kernel
theorem dL_law_3071 : decode cL_law 3071 = .ok (.iadd, 1) := by decide +kernel
theorem dL_law_3072 : decode cL_law 3072 = .ok (.iaload, 1) := by decide +kernel
theorem dL_law_3073 : decode cL_law 3073 = .ok (.aload_n 0, 1) := by decide +kernel
theorem dL_law_3074 : decode cL_law 3074 = .ok (.iload 4, 2) := by decide +kernel
theorem dL_law_3076 : decode cL_law 3076 = .ok (.iconst 2, 1) := by decide +kernel
theorem dL_law_3077 : decode cL_law 3077 = .ok (.iadd, 1) := by decide +kernel
theorem dL_law_3078 : decode cL_law 3078 = .ok (.iaload, 1) := by decide +kernel
theorem dL_law_3079 : decode cL_law 3079 = .ok (.invokevirtual 361, 3) := by decide +kernel
theorem dL_law_3082 : decode cL_law 3082 = .ok (.istore 6, 2) := by decide +kernel
theorem dL_law_3084 : decode cL_law 3084 = .ok (.aload_n 2, 1) := by decide +kernel
theorem dL_law_3085 : decode cL_law 3085 = .ok (.invokevirtual 176, 3) := by decide +kernel
theorem dL_law_3088 : decode cL_law 3088 = .ok (.iload 5, 2) := by decide +kernel
theorem dL_law_3090 : decode cL_law 3090 = .ok (.if_icmp .eq 5, 3) := by decide +kernel
theorem dL_law_3093 : decode cL_law 3093 = .ok (.iconst 0, 1) := by decide +kernel
theorem dL_law_3094 : decode cL_law 3094 = .ok (.ireturn, 1) := by decide +kernel
theorem dL_law_3095 : decode cL_law 3095 = .ok (.iload 5, 2) := by decide +kernel
theorem dL_law_3097 : decode cL_law 3097 = .ok (.ifCond .ne 15, 3) := by decide +kernel
theorem dL_law_3100 : decode cL_law 3100 = .ok (.aload_n 3, 1) := by decide +kernel
theorem dL_law_3101 : decode cL_law 3101 = .ok (.iconst 0, 1) := by decide +kernel
theorem dL_law_3102 : decode cL_law 3102 = .ok (.laload, 1) := by decide +kernel
theorem dL_law_3103 : decode cL_law 3103 = .ok (.iload 6, 2) := by decide +kernel
theorem dL_law_3105 : decode cL_law 3105 = .ok (.i2l, 1) := by decide +kernel
theorem dL_law_3106 : decode cL_law 3106 = .ok (.lcmp, 1) := by decide +kernel
theorem dL_law_3107 : decode cL_law 3107 = .ok (.ifCond .eq 5, 3) := by decide +kernel
theorem dL_law_3110 : decode cL_law 3110 = .ok (.iconst 0, 1) := by decide +kernel
theorem dL_law_3111 : decode cL_law 3111 = .ok (.ireturn, 1) := by decide +kernel
theorem dL_law_3112 : decode cL_law 3112 = .ok (.goto 378, 3) := by decide +kernel
theorem dL_law_3115 : decode cL_law 3115 = .ok (.aload_n 1, 1) := by decide +kernel
theorem dL_law_3116 : decode cL_law 3116 = .ok (.aload_n 0, 1) := by decide +kernel
theorem dL_law_3117 : decode cL_law 3117 = .ok (.iload 4, 2) := by decide +kernel
theorem dL_law_3119 : decode cL_law 3119 = .ok (.iconst 1, 1) := by decide +kernel
theorem dL_law_3120 : decode cL_law 3120 = .ok (.iadd, 1) := by decide +kernel
theorem dL_law_3121 : decode cL_law 3121 = .ok (.iaload, 1) := by decide +kernel
theorem dL_law_3122 : decode cL_law 3122 = .ok (.aload_n 0, 1) := by decide +kernel
theorem dL_law_3123 : decode cL_law 3123 = .ok (.iload 4, 2) := by decide +kernel
theorem dL_law_3125 : decode cL_law 3125 = .ok (.iconst 2, 1) := by decide +kernel
theorem dL_law_3126 : decode cL_law 3126 = .ok (.iadd, 1) := by decide +kernel
theorem dL_law_3127 : decode cL_law 3127 = .ok (.iaload, 1) := by decide +kernel
theorem dL_law_3128 : decode cL_law 3128 = .ok (.aload_n 3, 1) := by decide +kernel
theorem dL_law_3129 : decode cL_law 3129 = .ok (.invokestatic 362, 3) := by decide +kernel
theorem dL_law_3132 : decode cL_law 3132 = .ok (.istore 5, 2) := by decide +kernel
theorem dL_law_3134 : decode cL_law 3134 = .ok (.aload_n 2, 1) := by decide +kernel
theorem dL_law_3135 : decode cL_law 3135 = .ok (.aload_n 0, 1) := by decide +kernel
theorem dL_law_3136 : decode cL_law 3136 = .ok (.iload 4, 2) := by decide +kernel
theorem dL_law_3138 : decode cL_law 3138 = .ok (.iconst 1, 1) := by decide +kernel
theorem dL_law_3139 : decode cL_law 3139 = .ok (.iadd, 1) := by decide +kernel
theorem dL_law_3140 : decode cL_law 3140 = .ok (.iaload, 1) := by decide +kernel
theorem dL_law_3141 : decode cL_law 3141 = .ok (.aload_n 0, 1) := by decide +kernel
theorem dL_law_3142 : decode cL_law 3142 = .ok (.iload 4, 2) := by decide +kernel
theorem dL_law_3144 : decode cL_law 3144 = .ok (.iconst 2, 1) := by decide +kernel
theorem dL_law_3145 : decode cL_law 3145 = .ok (.iadd, 1) := by decide +kernel
theorem dL_law_3146 : decode cL_law 3146 = .ok (.iaload, 1) := by decide +kernel
theorem dL_law_3147 : decode cL_law 3147 = .ok (.invokevirtual 364, 3) := by decide +kernel
theorem dL_law_3150 : decode cL_law 3150 = .ok (.istore 6, 2) := by decide +kernel
theorem dL_law_3152 : decode cL_law 3152 = .ok (.aload_n 2, 1) := by decide +kernel
theorem dL_law_3153 : decode cL_law 3153 = .ok (.invokevirtual 176, 3) := by decide +kernel
theorem dL_law_3156 : decode cL_law 3156 = .ok (.iload 5, 2) := by decide +kernel
theorem dL_law_3158 : decode cL_law 3158 = .ok (.if_icmp .eq 5, 3) := by decide +kernel
theorem dL_law_3161 : decode cL_law 3161 = .ok (.iconst 0, 1) := by decide +kernel
theorem dL_law_3162 : decode cL_law 3162 = .ok (.ireturn, 1) := by decide +kernel
theorem dL_law_3163 : decode cL_law 3163 = .ok (.iload 5, 2) := by decide +kernel
theorem dL_law_3165 : decode cL_law 3165 = .ok (.ifCond .ne 15, 3) := by decide +kernel
theorem dL_law_3168 : decode cL_law 3168 = .ok (.aload_n 3, 1) := by decide +kernel
theorem dL_law_3169 : decode cL_law 3169 = .ok (.iconst 0, 1) := by decide +kernel
theorem dL_law_3170 : decode cL_law 3170 = .ok (.laload, 1) := by decide +kernel
theorem dL_law_3171 : decode cL_law 3171 = .ok (.iload 6, 2) := by decide +kernel
theorem dL_law_3173 : decode cL_law 3173 = .ok (.i2l, 1) := by decide +kernel
theorem dL_law_3174 : decode cL_law 3174 = .ok (.lcmp, 1) := by decide +kernel
theorem dL_law_3175 : decode cL_law 3175 = .ok (.ifCond .eq 5, 3) := by decide +kernel
theorem dL_law_3178 : decode cL_law 3178 = .ok (.iconst 0, 1) := by decide +kernel
theorem dL_law_3179 : decode cL_law 3179 = .ok (.ireturn, 1) := by decide +kernel
theorem dL_law_3180 : decode cL_law 3180 = .ok (.goto 310, 3) := by decide +kernel
theorem dL_law_3183 : decode cL_law 3183 = .ok (.aload_n 1, 1) := by decide +kernel
theorem dL_law_3184 : decode cL_law 3184 = .ok (.aload_n 0, 1) := by decide +kernel
theorem dL_law_3185 : decode cL_law 3185 = .ok (.iload 4, 2) := by decide +kernel
theorem dL_law_3187 : decode cL_law 3187 = .ok (.iconst 1, 1) := by decide +kernel
theorem dL_law_3188 : decode cL_law 3188 = .ok (.iadd, 1) := by decide +kernel
theorem dL_law_3189 : decode cL_law 3189 = .ok (.iaload, 1) := by decide +kernel
theorem dL_law_3190 : decode cL_law 3190 = .ok (.aload_n 3, 1) := by decide +kernel
theorem dL_law_3191 : decode cL_law 3191 = .ok (.invokestatic 365, 3) := by decide +kernel
theorem dL_law_3194 : decode cL_law 3194 = .ok (.istore 5, 2) := by decide +kernel
theorem dL_law_3196 : decode cL_law 3196 = .ok (.aload_n 2, 1) := by decide +kernel
theorem dL_law_3197 : decode cL_law 3197 = .ok (.aload_n 0, 1) := by decide +kernel
theorem dL_law_3198 : decode cL_law 3198 = .ok (.iload 4, 2) := by decide +kernel
theorem dL_law_3200 : decode cL_law 3200 = .ok (.iconst 1, 1) := by decide +kernel
theorem dL_law_3201 : decode cL_law 3201 = .ok (.iadd, 1) := by decide +kernel
theorem dL_law_3202 : decode cL_law 3202 = .ok (.iaload, 1) := by decide +kernel
theorem dL_law_3203 : decode cL_law 3203 = .ok (.invokevirtual 367, 3) := by decide +kernel
theorem dL_law_3206 : decode cL_law 3206 = .ok (.istore 6, 2) := by decide +kernel
theorem dL_law_3208 : decode cL_law 3208 = .ok (.aload_n 2, 1) := by decide +kernel
theorem dL_law_3209 : decode cL_law 3209 = .ok (.invokevirtual 176, 3) := by decide +kernel
theorem dL_law_3212 : decode cL_law 3212 = .ok (.iload 5, 2) := by decide +kernel
theorem dL_law_3214 : decode cL_law 3214 = .ok (.if_icmp .eq 5, 3) := by decide +kernel
theorem dL_law_3217 : decode cL_law 3217 = .ok (.iconst 0, 1) := by decide +kernel
theorem dL_law_3218 : decode cL_law 3218 = .ok (.ireturn, 1) := by decide +kernel
theorem dL_law_3219 : decode cL_law 3219 = .ok (.iload 5, 2) := by decide +kernel
theorem dL_law_3221 : decode cL_law 3221 = .ok (.ifCond .ne 15, 3) := by decide +kernel
theorem dL_law_3224 : decode cL_law 3224 = .ok (.aload_n 3, 1) := by decide +kernel
theorem dL_law_3225 : decode cL_law 3225 = .ok (.iconst 0, 1) := by decide +kernel
theorem dL_law_3226 : decode cL_law 3226 = .ok (.laload, 1) := by decide +kernel
theorem dL_law_3227 : decode cL_law 3227 = .ok (.iload 6, 2) := by decide +kernel
theorem dL_law_3229 : decode cL_law 3229 = .ok (.i2l, 1) := by decide +kernel
theorem dL_law_3230 : decode cL_law 3230 = .ok (.lcmp, 1) := by decide +kernel
theorem dL_law_3231 : decode cL_law 3231 = .ok (.ifCond .eq 5, 3) := by decide +kernel
theorem dL_law_3234 : decode cL_law 3234 = .ok (.iconst 0, 1) := by decide +kernel
theorem dL_law_3235 : decode cL_law 3235 = .ok (.ireturn, 1) := by decide +kernel
theorem dL_law_3236 : decode cL_law 3236 = .ok (.goto 254, 3) := by decide +kernel
theorem dL_law_3239 : decode cL_law 3239 = .ok (.aload_n 1, 1) := by decide +kernel
theorem dL_law_3240 : decode cL_law 3240 = .ok (.invokevirtual 368, 3) := by decide +kernel
theorem dL_law_3243 : decode cL_law 3243 = .ok (.aload_n 2, 1) := by decide +kernel
theorem dL_law_3244 : decode cL_law 3244 = .ok (.invokevirtual 371, 3) := by decide +kernel
theorem dL_law_3247 : decode cL_law 3247 = .ok (.if_icmp .eq 243, 3) := by decide +kernel
theorem dL_law_3250 : decode cL_law 3250 = .ok (.iconst 0, 1) := by decide +kernel
theorem dL_law_3251 : decode cL_law 3251 = .ok (.ireturn, 1) := by decide +kernel
theorem dL_law_3252 : decode cL_law 3252 = .ok (.aload_n 1, 1) := by decide +kernel
theorem dL_law_3253 : decode cL_law 3253 = .ok (.invokevirtual 372, 3) := by decide +kernel
theorem dL_law_3256 : decode cL_law 3256 = .ok (.aload_n 2, 1) := by decide +kernel
theorem dL_law_3257 : decode cL_law 3257 = .ok (.invokevirtual 375, 3) := by decide +kernel
theorem dL_law_3260 : decode cL_law 3260 = .ok (.if_icmp .eq 230, 3) := by decide +kernel
theorem dL_law_3263 : decode cL_law 3263 = .ok (.iconst 0, 1) := by decide +kernel
theorem dL_law_3264 : decode cL_law 3264 = .ok (.ireturn, 1) := by decide +kernel
theorem dL_law_3265 : decode cL_law 3265 = .ok (.aload_n 1, 1) := by decide +kernel
theorem dL_law_3266 : decode cL_law 3266 = .ok (.aload_n 0, 1) := by decide +kernel
theorem dL_law_3267 : decode cL_law 3267 = .ok (.iload 4, 2) := by decide +kernel
theorem dL_law_3269 : decode cL_law 3269 = .ok (.iconst 1, 1) := by decide +kernel
theorem dL_law_3270 : decode cL_law 3270 = .ok (.iadd, 1) := by decide +kernel
theorem dL_law_3271 : decode cL_law 3271 = .ok (.iaload, 1) := by decide +kernel
theorem dL_law_3272 : decode cL_law 3272 = .ok (.aload_n 3, 1) := by decide +kernel
theorem dL_law_3273 : decode cL_law 3273 = .ok (.invokestatic 376, 3) := by decide +kernel
theorem dL_law_3276 : decode cL_law 3276 = .ok (.istore 5, 2) := by decide +kernel
theorem dL_law_3278 : decode cL_law 3278 = .ok (.aload_n 2, 1) := by decide +kernel
theorem dL_law_3279 : decode cL_law 3279 = .ok (.aload_n 0, 1) := by decide +kernel
theorem dL_law_3280 : decode cL_law 3280 = .ok (.iload 4, 2) := by decide +kernel
theorem dL_law_3282 : decode cL_law 3282 = .ok (.iconst 1, 1) := by decide +kernel
theorem dL_law_3283 : decode cL_law 3283 = .ok (.iadd, 1) := by decide +kernel
theorem dL_law_3284 : decode cL_law 3284 = .ok (.iaload, 1) := by decide +kernel
theorem dL_law_3285 : decode cL_law 3285 = .ok (.invokevirtual 378, 3) := by decide +kernel
theorem dL_law_3288 : decode cL_law 3288 = .ok (.istore 6, 2) := by decide +kernel
theorem dL_law_3290 : decode cL_law 3290 = .ok (.aload_n 2, 1) := by decide +kernel
theorem dL_law_3291 : decode cL_law 3291 = .ok (.invokevirtual 176, 3) := by decide +kernel
theorem dL_law_3294 : decode cL_law 3294 = .ok (.iload 5, 2) := by decide +kernel
theorem dL_law_3296 : decode cL_law 3296 = .ok (.if_icmp .eq 5, 3) := by decide +kernel
theorem dL_law_3299 : decode cL_law 3299 = .ok (.iconst 0, 1) := by decide +kernel
theorem dL_law_3300 : decode cL_law 3300 = .ok (.ireturn, 1) := by decide +kernel
theorem dL_law_3301 : decode cL_law 3301 = .ok (.iload 5, 2) := by decide +kernel
theorem dL_law_3303 : decode cL_law 3303 = .ok (.ifCond .ne 15, 3) := by decide +kernel
theorem dL_law_3306 : decode cL_law 3306 = .ok (.aload_n 3, 1) := by decide +kernel
theorem dL_law_3307 : decode cL_law 3307 = .ok (.iconst 0, 1) := by decide +kernel
theorem dL_law_3308 : decode cL_law 3308 = .ok (.laload, 1) := by decide +kernel
theorem dL_law_3309 : decode cL_law 3309 = .ok (.iload 6, 2) := by decide +kernel
theorem dL_law_3311 : decode cL_law 3311 = .ok (.i2l, 1) := by decide +kernel
theorem dL_law_3312 : decode cL_law 3312 = .ok (.lcmp, 1) := by decide +kernel
theorem dL_law_3313 : decode cL_law 3313 = .ok (.ifCond .eq 5, 3) := by decide +kernel
theorem dL_law_3316 : decode cL_law 3316 = .ok (.iconst 0, 1) := by decide +kernel
theorem dL_law_3317 : decode cL_law 3317 = .ok (.ireturn, 1) := by decide +kernel
theorem dL_law_3318 : decode cL_law 3318 = .ok (.goto 172, 3) := by decide +kernel
theorem dL_law_3321 : decode cL_law 3321 = .ok (.aload_n 1, 1) := by decide +kernel
theorem dL_law_3322 : decode cL_law 3322 = .ok (.aload_n 0, 1) := by decide +kernel
theorem dL_law_3323 : decode cL_law 3323 = .ok (.iload 4, 2) := by decide +kernel
theorem dL_law_3325 : decode cL_law 3325 = .ok (.iconst 1, 1) := by decide +kernel
theorem dL_law_3326 : decode cL_law 3326 = .ok (.iadd, 1) := by decide +kernel
theorem dL_law_3327 : decode cL_law 3327 = .ok (.iaload, 1) := by decide +kernel
theorem dL_law_3328 : decode cL_law 3328 = .ok (.aload_n 3, 1) := by decide +kernel
theorem dL_law_3329 : decode cL_law 3329 = .ok (.invokestatic 379, 3) := by decide +kernel
theorem dL_law_3332 : decode cL_law 3332 = .ok (.istore 5, 2) := by decide +kernel
theorem dL_law_3334 : decode cL_law 3334 = .ok (.aload_n 2, 1) := by decide +kernel
theorem dL_law_3335 : decode cL_law 3335 = .ok (.aload_n 0, 1) := by decide +kernel
theorem dL_law_3336 : decode cL_law 3336 = .ok (.iload 4, 2) := by decide +kernel
theorem dL_law_3338 : decode cL_law 3338 = .ok (.iconst 1, 1) := by decide +kernel
theorem dL_law_3339 : decode cL_law 3339 = .ok (.iadd, 1) := by decide +kernel
theorem dL_law_3340 : decode cL_law 3340 = .ok (.iaload, 1) := by decide +kernel
theorem dL_law_3341 : decode cL_law 3341 = .ok (.invokevirtual 381, 3) := by decide +kernel
theorem dL_law_3344 : decode cL_law 3344 = .ok (.istore 6, 2) := by decide +kernel
theorem dL_law_3346 : decode cL_law 3346 = .ok (.aload_n 2, 1) := by decide +kernel
theorem dL_law_3347 : decode cL_law 3347 = .ok (.invokevirtual 176, 3) := by decide +kernel
theorem dL_law_3350 : decode cL_law 3350 = .ok (.iload 5, 2) := by decide +kernel
theorem dL_law_3352 : decode cL_law 3352 = .ok (.if_icmp .eq 5, 3) := by decide +kernel
theorem dL_law_3355 : decode cL_law 3355 = .ok (.iconst 0, 1) := by decide +kernel
theorem dL_law_3356 : decode cL_law 3356 = .ok (.ireturn, 1) := by decide +kernel
theorem dL_law_3357 : decode cL_law 3357 = .ok (.iload 5, 2) := by decide +kernel
theorem dL_law_3359 : decode cL_law 3359 = .ok (.ifCond .ne 15, 3) := by decide +kernel
theorem dL_law_3362 : decode cL_law 3362 = .ok (.aload_n 3, 1) := by decide +kernel
theorem dL_law_3363 : decode cL_law 3363 = .ok (.iconst 0, 1) := by decide +kernel
theorem dL_law_3364 : decode cL_law 3364 = .ok (.laload, 1) := by decide +kernel
theorem dL_law_3365 : decode cL_law 3365 = .ok (.iload 6, 2) := by decide +kernel
theorem dL_law_3367 : decode cL_law 3367 = .ok (.i2l, 1) := by decide +kernel
theorem dL_law_3368 : decode cL_law 3368 = .ok (.lcmp, 1) := by decide +kernel
theorem dL_law_3369 : decode cL_law 3369 = .ok (.ifCond .eq 5, 3) := by decide +kernel
theorem dL_law_3372 : decode cL_law 3372 = .ok (.iconst 0, 1) := by decide +kernel
theorem dL_law_3373 : decode cL_law 3373 = .ok (.ireturn, 1) := by decide +kernel
theorem dL_law_3374 : decode cL_law 3374 = .ok (.goto 116, 3) := by decide +kernel
theorem dL_law_3377 : decode cL_law 3377 = .ok (.aload_n 1, 1) := by decide +kernel
theorem dL_law_3378 : decode cL_law 3378 = .ok (.aload_n 0, 1) := by decide +kernel
theorem dL_law_3379 : decode cL_law 3379 = .ok (.iload 4, 2) := by decide +kernel
theorem dL_law_3381 : decode cL_law 3381 = .ok (.iconst 1, 1) := by decide +kernel
theorem dL_law_3382 : decode cL_law 3382 = .ok (.iadd, 1) := by decide +kernel
theorem dL_law_3383 : decode cL_law 3383 = .ok (.iaload, 1) := by decide +kernel
theorem dL_law_3384 : decode cL_law 3384 = .ok (.aload_n 3, 1) := by decide +kernel
theorem dL_law_3385 : decode cL_law 3385 = .ok (.invokestatic 382, 3) := by decide +kernel
theorem dL_law_3388 : decode cL_law 3388 = .ok (.istore 5, 2) := by decide +kernel
theorem dL_law_3390 : decode cL_law 3390 = .ok (.aload_n 2, 1) := by decide +kernel
theorem dL_law_3391 : decode cL_law 3391 = .ok (.aload_n 0, 1) := by decide +kernel
theorem dL_law_3392 : decode cL_law 3392 = .ok (.iload 4, 2) := by decide +kernel
theorem dL_law_3394 : decode cL_law 3394 = .ok (.iconst 1, 1) := by decide +kernel
theorem dL_law_3395 : decode cL_law 3395 = .ok (.iadd, 1) := by decide +kernel
theorem dL_law_3396 : decode cL_law 3396 = .ok (.iaload, 1) := by decide +kernel
theorem dL_law_3397 : decode cL_law 3397 = .ok (.invokevirtual 384, 3) := by decide +kernel
theorem dL_law_3400 : decode cL_law 3400 = .ok (.istore 6, 2) := by decide +kernel
theorem dL_law_3402 : decode cL_law 3402 = .ok (.aload_n 2, 1) := by decide +kernel
theorem dL_law_3403 : decode cL_law 3403 = .ok (.invokevirtual 176, 3) := by decide +kernel
theorem dL_law_3406 : decode cL_law 3406 = .ok (.iload 5, 2) := by decide +kernel
theorem dL_law_3408 : decode cL_law 3408 = .ok (.if_icmp .eq 5, 3) := by decide +kernel
theorem dL_law_3411 : decode cL_law 3411 = .ok (.iconst 0, 1) := by decide +kernel
theorem dL_law_3412 : decode cL_law 3412 = .ok (.ireturn, 1) := by decide +kernel
theorem dL_law_3413 : decode cL_law 3413 = .ok (.iload 5, 2) := by decide +kernel
theorem dL_law_3415 : decode cL_law 3415 = .ok (.ifCond .ne 15, 3) := by decide +kernel
theorem dL_law_3418 : decode cL_law 3418 = .ok (.aload_n 3, 1) := by decide +kernel
theorem dL_law_3419 : decode cL_law 3419 = .ok (.iconst 0, 1) := by decide +kernel
theorem dL_law_3420 : decode cL_law 3420 = .ok (.laload, 1) := by decide +kernel
theorem dL_law_3421 : decode cL_law 3421 = .ok (.iload 6, 2) := by decide +kernel
theorem dL_law_3423 : decode cL_law 3423 = .ok (.i2l, 1) := by decide +kernel
theorem dL_law_3424 : decode cL_law 3424 = .ok (.lcmp, 1) := by decide +kernel
theorem dL_law_3425 : decode cL_law 3425 = .ok (.ifCond .eq 5, 3) := by decide +kernel
theorem dL_law_3428 : decode cL_law 3428 = .ok (.iconst 0, 1) := by decide +kernel
theorem dL_law_3429 : decode cL_law 3429 = .ok (.ireturn, 1) := by decide +kernel
theorem dL_law_3430 : decode cL_law 3430 = .ok (.goto 60, 3) := by decide +kernel
theorem dL_law_3433 : decode cL_law 3433 = .ok (.aload_n 1, 1) := by decide +kernel
theorem dL_law_3434 : decode cL_law 3434 = .ok (.aload_n 3, 1) := by decide +kernel
theorem dL_law_3435 : decode cL_law 3435 = .ok (.invokestatic 385, 3) := by decide +kernel
theorem dL_law_3438 : decode cL_law 3438 = .ok (.istore 5, 2) := by decide +kernel
theorem dL_law_3440 : decode cL_law 3440 = .ok (.aload_n 2, 1) := by decide +kernel
theorem dL_law_3441 : decode cL_law 3441 = .ok (.invokevirtual 387, 3) := by decide +kernel
theorem dL_law_3444 : decode cL_law 3444 = .ok (.istore 6, 2) := by decide +kernel
theorem dL_law_3446 : decode cL_law 3446 = .ok (.aload_n 2, 1) := by decide +kernel
theorem dL_law_3447 : decode cL_law 3447 = .ok (.invokevirtual 176, 3) := by decide +kernel
theorem dL_law_3450 : decode cL_law 3450 = .ok (.iload 5, 2) := by decide +kernel
theorem dL_law_3452 : decode cL_law 3452 = .ok (.if_icmp .eq 5, 3) := by decide +kernel
theorem dL_law_3455 : decode cL_law 3455 = .ok (.iconst 0, 1) := by decide +kernel
theorem dL_law_3456 : decode cL_law 3456 = .ok (.ireturn, 1) := by decide +kernel
theorem dL_law_3457 : decode cL_law 3457 = .ok (.iload 5, 2) := by decide +kernel
theorem dL_law_3459 : decode cL_law 3459 = .ok (.ifCond .ne 15, 3) := by decide +kernel
theorem dL_law_3462 : decode cL_law 3462 = .ok (.aload_n 3, 1) := by decide +kernel
theorem dL_law_3463 : decode cL_law 3463 = .ok (.iconst 0, 1) := by decide +kernel
theorem dL_law_3464 : decode cL_law 3464 = .ok (.laload, 1) := by decide +kernel
theorem dL_law_3465 : decode cL_law 3465 = .ok (.iload 6, 2) := by decide +kernel
theorem dL_law_3467 : decode cL_law 3467 = .ok (.i2l, 1) := by decide +kernel
theorem dL_law_3468 : decode cL_law 3468 = .ok (.lcmp, 1) := by decide +kernel
theorem dL_law_3469 : decode cL_law 3469 = .ok (.ifCond .eq 5, 3) := by decide +kernel
theorem dL_law_3472 : decode cL_law 3472 = .ok (.iconst 0, 1) := by decide +kernel
theorem dL_law_3473 : decode cL_law 3473 = .ok (.ireturn, 1) := by decide +kernel
theorem dL_law_3474 : decode cL_law 3474 = .ok (.goto 16, 3) := by decide +kernel
theorem dL_law_3477 : decode cL_law 3477 = .ok (.aload_n 1, 1) := by decide +kernel
theorem dL_law_3478 : decode cL_law 3478 = .ok (.invokevirtual 388, 3) := by decide +kernel
theorem dL_law_3481 : decode cL_law 3481 = .ok (.aload_n 2, 1) := by decide +kernel
theorem dL_law_3482 : decode cL_law 3482 = .ok (.invokevirtual 391, 3) := by decide +kernel
theorem dL_law_3485 : decode cL_law 3485 = .ok (.if_icmp .eq 5, 3) := by decide +kernel
theorem dL_law_3488 : decode cL_law 3488 = .ok (.iconst 0, 1) := by decide +kernel
theorem dL_law_3489 : decode cL_law 3489 = .ok (.ireturn, 1) := by decide +kernel
theorem dL_law_3490 : decode cL_law 3490 = .ok (.iinc 4 6, 3) := by decide +kernel
theorem dL_law_3493 : decode cL_law 3493 = .ok (.goto (-3470), 3) := by decide +kernel
theorem dL_law_3496 : decode cL_law 3496 = .ok (.iconst 1, 1) := by decide +kernel
theorem dL_law_3497 : decode cL_law 3497 = .ok (.ireturn, 1) := by decide +kernel
