theorem d_law_2395 : decode code 2395 = .ok (.aload_n 0, 1) := by decide +kernel
theorem d_law_2396 : decode code 2396 = .ok (.iload 5, 2) := by decide +kernel
theorem d_law_2398 : decode code 2398 = .ok (.iconst 1, 1) := by decide +kernel
theorem d_law_2399 : decode code 2399 = .ok (.iadd, 1) := by decide +kernel
theorem d_law_2400 : decode code 2400 = .ok (.iaload, 1) := by decide +kernel
theorem d_law_2401 : decode code 2401 = .ok (.aload_n 3, 1) := by decide +kernel
theorem d_law_2402 : decode code 2402 = .ok (.invokestatic 298, 3) := by decide +kernel
theorem d_law_2405 : decode code 2405 = .ok (.istore 6, 2) := by decide +kernel
theorem d_law_2407 : decode code 2407 = .ok (.aload_n 2, 1) := by decide +kernel
theorem d_law_2408 : decode code 2408 = .ok (.aload_n 0, 1) := by decide +kernel
theorem d_law_2409 : decode code 2409 = .ok (.iload 5, 2) := by decide +kernel
theorem d_law_2411 : decode code 2411 = .ok (.iconst 1, 1) := by decide +kernel
theorem d_law_2412 : decode code 2412 = .ok (.iadd, 1) := by decide +kernel
theorem d_law_2413 : decode code 2413 = .ok (.iaload, 1) := by decide +kernel
theorem d_law_2414 : decode code 2414 = .ok (.invokevirtual 300, 3) := by decide +kernel
theorem d_law_2417 : decode code 2417 = .ok (.istore 7, 2) := by decide +kernel
theorem d_law_2419 : decode code 2419 = .ok (.aload_n 2, 1) := by decide +kernel
theorem d_law_2420 : decode code 2420 = .ok (.invokevirtual 160, 3) := by decide +kernel
theorem d_law_2423 : decode code 2423 = .ok (.iload 6, 2) := by decide +kernel
theorem d_law_2425 : decode code 2425 = .ok (.if_icmp .eq 5, 3) := by decide +kernel
theorem d_law_2430 : decode code 2430 = .ok (.iload 6, 2) := by decide +kernel
theorem d_law_2432 : decode code 2432 = .ok (.ifCond .ne 15, 3) := by decide +kernel
theorem d_law_2447 : decode code 2447 = .ok (.goto 625, 3) := by decide +kernel
theorem d_law_2450 : decode code 2450 = .ok (.aload_n 1, 1) := by decide +kernel
theorem d_law_2451 : decode code 2451 = .ok (.aload_n 0, 1) := by decide +kernel
theorem d_law_2452 : decode code 2452 = .ok (.iload 5, 2) := by decide +kernel
theorem d_law_2454 : decode code 2454 = .ok (.iconst 1, 1) := by decide +kernel
theorem d_law_2455 : decode code 2455 = .ok (.iadd, 1) := by decide +kernel
theorem d_law_2456 : decode code 2456 = .ok (.iaload, 1) := by decide +kernel
theorem d_law_2457 : decode code 2457 = .ok (.aload_n 0, 1) := by decide +kernel
theorem d_law_2458 : decode code 2458 = .ok (.iload 5, 2) := by decide +kernel
theorem d_law_2460 : decode code 2460 = .ok (.iconst 2, 1) := by decide +kernel
theorem d_law_2461 : decode code 2461 = .ok (.iadd, 1) := by decide +kernel
theorem d_law_2462 : decode code 2462 = .ok (.iaload, 1) := by decide +kernel
theorem d_law_2463 : decode code 2463 = .ok (.aload_n 3, 1) := by decide +kernel
theorem d_law_2464 : decode code 2464 = .ok (.invokestatic 301, 3) := by decide +kernel
theorem d_law_2467 : decode code 2467 = .ok (.istore 6, 2) := by decide +kernel
theorem d_law_2469 : decode code 2469 = .ok (.aload_n 2, 1) := by decide +kernel
theorem d_law_2470 : decode code 2470 = .ok (.aload_n 0, 1) := by decide +kernel
theorem d_law_2471 : decode code 2471 = .ok (.iload 5, 2) := by decide +kernel
theorem d_law_2473 : decode code 2473 = .ok (.iconst 1, 1) := by decide +kernel
theorem d_law_2474 : decode code 2474 = .ok (.iadd, 1) := by decide +kernel
theorem d_law_2475 : decode code 2475 = .ok (.iaload, 1) := by decide +kernel
theorem d_law_2476 : decode code 2476 = .ok (.aload_n 0, 1) := by decide +kernel
theorem d_law_2477 : decode code 2477 = .ok (.iload 5, 2) := by decide +kernel
theorem d_law_2479 : decode code 2479 = .ok (.iconst 2, 1) := by decide +kernel
theorem d_law_2480 : decode code 2480 = .ok (.iadd, 1) := by decide +kernel
theorem d_law_2481 : decode code 2481 = .ok (.iaload, 1) := by decide +kernel
theorem d_law_2482 : decode code 2482 = .ok (.invokevirtual 303, 3) := by decide +kernel
theorem d_law_2485 : decode code 2485 = .ok (.istore 7, 2) := by decide +kernel
theorem d_law_2487 : decode code 2487 = .ok (.aload_n 2, 1) := by decide +kernel
theorem d_law_2488 : decode code 2488 = .ok (.invokevirtual 160, 3) := by decide +kernel
theorem d_law_2491 : decode code 2491 = .ok (.iload 6, 2) := by decide +kernel
theorem d_law_2493 : decode code 2493 = .ok (.if_icmp .eq 5, 3) := by decide +kernel
theorem d_law_2498 : decode code 2498 = .ok (.iload 6, 2) := by decide +kernel
theorem d_law_2500 : decode code 2500 = .ok (.ifCond .ne 15, 3) := by decide +kernel
theorem d_law_2515 : decode code 2515 = .ok (.goto 557, 3) := by decide +kernel
theorem d_law_2518 : decode code 2518 = .ok (.aload_n 1, 1) := by decide +kernel
theorem d_law_2519 : decode code 2519 = .ok (.aload_n 0, 1) := by decide +kernel
theorem d_law_2520 : decode code 2520 = .ok (.iload 5, 2) := by decide +kernel
theorem d_law_2522 : decode code 2522 = .ok (.iconst 1, 1) := by decide +kernel
theorem d_law_2523 : decode code 2523 = .ok (.iadd, 1) := by decide +kernel
theorem d_law_2524 : decode code 2524 = .ok (.iaload, 1) := by decide +kernel
theorem d_law_2525 : decode code 2525 = .ok (.aload_n 0, 1) := by decide +kernel
theorem d_law_2526 : decode code 2526 = .ok (.iload 5, 2) := by decide +kernel
theorem d_law_2528 : decode code 2528 = .ok (.iconst 2, 1) := by decide +kernel
theorem d_law_2529 : decode code 2529 = .ok (.iadd, 1) := by decide +kernel
theorem d_law_2530 : decode code 2530 = .ok (.iaload, 1) := by decide +kernel
theorem d_law_2531 : decode code 2531 = .ok (.aload_n 3, 1) := by decide +kernel
theorem d_law_2532 : decode code 2532 = .ok (.invokestatic 304, 3) := by decide +kernel
theorem d_law_2535 : decode code 2535 = .ok (.istore 6, 2) := by decide +kernel
theorem d_law_2537 : decode code 2537 = .ok (.aload_n 2, 1) := by decide +kernel
theorem d_law_2538 : decode code 2538 = .ok (.aload_n 0, 1) := by decide +kernel
theorem d_law_2539 : decode code 2539 = .ok (.iload 5, 2) := by decide +kernel
theorem d_law_2541 : decode code 2541 = .ok (.iconst 1, 1) := by decide +kernel
theorem d_law_2542 : decode code 2542 = .ok (.iadd, 1) := by decide +kernel
theorem d_law_2543 : decode code 2543 = .ok (.iaload, 1) := by decide +kernel
theorem d_law_2544 : decode code 2544 = .ok (.aload_n 0, 1) := by decide +kernel
theorem d_law_2545 : decode code 2545 = .ok (.iload 5, 2) := by decide +kernel
theorem d_law_2547 : decode code 2547 = .ok (.iconst 2, 1) := by decide +kernel
theorem d_law_2548 : decode code 2548 = .ok (.iadd, 1) := by decide +kernel
theorem d_law_2549 : decode code 2549 = .ok (.iaload, 1) := by decide +kernel
theorem d_law_2550 : decode code 2550 = .ok (.invokevirtual 306, 3) := by decide +kernel
theorem d_law_2553 : decode code 2553 = .ok (.istore 7, 2) := by decide +kernel
theorem d_law_2555 : decode code 2555 = .ok (.aload_n 2, 1) := by decide +kernel
theorem d_law_2556 : decode code 2556 = .ok (.invokevirtual 160, 3) := by decide +kernel
theorem d_law_2559 : decode code 2559 = .ok (.iload 6, 2) := by decide +kernel
theorem d_law_2561 : decode code 2561 = .ok (.if_icmp .eq 5, 3) := by decide +kernel
theorem d_law_2566 : decode code 2566 = .ok (.iload 6, 2) := by decide +kernel
theorem d_law_2568 : decode code 2568 = .ok (.ifCond .ne 15, 3) := by decide +kernel
theorem d_law_2583 : decode code 2583 = .ok (.goto 489, 3) := by decide +kernel
theorem d_law_2586 : decode code 2586 = .ok (.aload_n 1, 1) := by decide +kernel
theorem d_law_2587 : decode code 2587 = .ok (.aload_n 0, 1) := by decide +kernel
theorem d_law_2588 : decode code 2588 = .ok (.iload 5, 2) := by decide +kernel
theorem d_law_2590 : decode code 2590 = .ok (.iconst 1, 1) := by decide +kernel
theorem d_law_2591 : decode code 2591 = .ok (.iadd, 1) := by decide +kernel
theorem d_law_2592 : decode code 2592 = .ok (.iaload, 1) := by decide +kernel
theorem d_law_2593 : decode code 2593 = .ok (.aload_n 0, 1) := by decide +kernel
theorem d_law_2594 : decode code 2594 = .ok (.iload 5, 2) := by decide +kernel
theorem d_law_2596 : decode code 2596 = .ok (.iconst 2, 1) := by decide +kernel
theorem d_law_2597 : decode code 2597 = .ok (.iadd, 1) := by decide +kernel
theorem d_law_2598 : decode code 2598 = .ok (.iaload, 1) := by decide +kernel
theorem d_law_2599 : decode code 2599 = .ok (.aload_n 3, 1) := by decide +kernel
theorem d_law_2600 : decode code 2600 = .ok (.invokestatic 307, 3) := by decide +kernel
theorem d_law_2603 : decode code 2603 = .ok (.istore 6, 2) := by decide +kernel
theorem d_law_2605 : decode code 2605 = .ok (.aload_n 2, 1) := by decide +kernel
theorem d_law_2606 : decode code 2606 = .ok (.aload_n 0, 1) := by decide +kernel
theorem d_law_2607 : decode code 2607 = .ok (.iload 5, 2) := by decide +kernel
theorem d_law_2609 : decode code 2609 = .ok (.iconst 1, 1) := by decide +kernel
theorem d_law_2610 : decode code 2610 = .ok (.iadd, 1) := by decide +kernel
theorem d_law_2611 : decode code 2611 = .ok (.iaload, 1) := by decide +kernel
theorem d_law_2612 : decode code 2612 = .ok (.aload_n 0, 1) := by decide +kernel
theorem d_law_2613 : decode code 2613 = .ok (.iload 5, 2) := by decide +kernel
theorem d_law_2615 : decode code 2615 = .ok (.iconst 2, 1) := by decide +kernel
theorem d_law_2616 : decode code 2616 = .ok (.iadd, 1) := by decide +kernel
theorem d_law_2617 : decode code 2617 = .ok (.iaload, 1) := by decide +kernel
theorem d_law_2618 : decode code 2618 = .ok (.invokevirtual 309, 3) := by decide +kernel
theorem d_law_2621 : decode code 2621 = .ok (.istore 7, 2) := by decide +kernel
theorem d_law_2623 : decode code 2623 = .ok (.aload_n 2, 1) := by decide +kernel
theorem d_law_2624 : decode code 2624 = .ok (.invokevirtual 160, 3) := by decide +kernel
theorem d_law_2627 : decode code 2627 = .ok (.iload 6, 2) := by decide +kernel
theorem d_law_2629 : decode code 2629 = .ok (.if_icmp .eq 5, 3) := by decide +kernel
theorem d_law_2634 : decode code 2634 = .ok (.iload 6, 2) := by decide +kernel
theorem d_law_2636 : decode code 2636 = .ok (.ifCond .ne 15, 3) := by decide +kernel
theorem d_law_2651 : decode code 2651 = .ok (.goto 421, 3) := by decide +kernel
theorem d_law_2654 : decode code 2654 = .ok (.aload_n 1, 1) := by decide +kernel
theorem d_law_2655 : decode code 2655 = .ok (.aload_n 0, 1) := by decide +kernel
theorem d_law_2656 : decode code 2656 = .ok (.iload 5, 2) := by decide +kernel
theorem d_law_2658 : decode code 2658 = .ok (.iconst 1, 1) := by decide +kernel
theorem d_law_2659 : decode code 2659 = .ok (.iadd, 1) := by decide +kernel
theorem d_law_2660 : decode code 2660 = .ok (.iaload, 1) := by decide +kernel
theorem d_law_2661 : decode code 2661 = .ok (.aload_n 3, 1) := by decide +kernel
theorem d_law_2662 : decode code 2662 = .ok (.invokestatic 310, 3) := by decide +kernel
theorem d_law_2665 : decode code 2665 = .ok (.istore 6, 2) := by decide +kernel
theorem d_law_2667 : decode code 2667 = .ok (.aload_n 2, 1) := by decide +kernel
theorem d_law_2668 : decode code 2668 = .ok (.aload_n 0, 1) := by decide +kernel
theorem d_law_2669 : decode code 2669 = .ok (.iload 5, 2) := by decide +kernel
theorem d_law_2671 : decode code 2671 = .ok (.iconst 1, 1) := by decide +kernel
theorem d_law_2672 : decode code 2672 = .ok (.iadd, 1) := by decide +kernel
theorem d_law_2673 : decode code 2673 = .ok (.iaload, 1) := by decide +kernel
theorem d_law_2674 : decode code 2674 = .ok (.invokevirtual 312, 3) := by decide +kernel
theorem d_law_2677 : decode code 2677 = .ok (.istore 7, 2) := by decide +kernel
theorem d_law_2679 : decode code 2679 = .ok (.aload_n 2, 1) := by decide +kernel
theorem d_law_2680 : decode code 2680 = .ok (.invokevirtual 160, 3) := by decide +kernel
theorem d_law_2683 : decode code 2683 = .ok (.iload 6, 2) := by decide +kernel
theorem d_law_2685 : decode code 2685 = .ok (.if_icmp .eq 5, 3) := by decide +kernel
theorem d_law_2690 : decode code 2690 = .ok (.iload 6, 2) := by decide +kernel
theorem d_law_2692 : decode code 2692 = .ok (.ifCond .ne 15, 3) := by decide +kernel
theorem d_law_2695 : decode code 2695 = .ok (.aload_n 3, 1) := by decide +kernel
theorem d_law_2696 : decode code 2696 = .ok (.iconst 0, 1) := by decide +kernel
