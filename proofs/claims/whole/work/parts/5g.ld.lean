theorem rd_Law_law_2582 : decode mb_Law_law 2582 = .ok (.iload 5, 2) := by decide +kernel
theorem rd_Law_law_2584 : decode mb_Law_law 2584 = .ok (.ifCond .ne 15, 3) := by decide +kernel
theorem rd_Law_law_2587 : decode mb_Law_law 2587 = .ok (.aload_n 3, 1) := by decide +kernel
theorem rd_Law_law_2588 : decode mb_Law_law 2588 = .ok (.iconst 0, 1) := by decide +kernel
theorem rd_Law_law_2589 : decode mb_Law_law 2589 = .ok (.laload, 1) := by decide +kernel
theorem rd_Law_law_2590 : decode mb_Law_law 2590 = .ok (.iload 6, 2) := by decide +kernel
theorem rd_Law_law_2592 : decode mb_Law_law 2592 = .ok (.i2l, 1) := by decide +kernel
theorem rd_Law_law_2593 : decode mb_Law_law 2593 = .ok (.lcmp, 1) := by decide +kernel
theorem rd_Law_law_2594 : decode mb_Law_law 2594 = .ok (.ifCond .eq 5, 3) := by decide +kernel
theorem rd_Law_law_2599 : decode mb_Law_law 2599 = .ok (.goto 185, 3) := by decide +kernel
theorem rd_Law_law_2602 : decode mb_Law_law 2602 = .ok (.aload_n 1, 1) := by decide +kernel
theorem rd_Law_law_2603 : decode mb_Law_law 2603 = .ok (.aload_n 3, 1) := by decide +kernel
theorem rd_Law_law_2604 : decode mb_Law_law 2604 = .ok (.invokestatic 314, 3) := by decide +kernel
theorem rd_Law_law_2607 : decode mb_Law_law 2607 = .ok (.istore 5, 2) := by decide +kernel
theorem rd_Law_law_2609 : decode mb_Law_law 2609 = .ok (.aload_n 2, 1) := by decide +kernel
theorem rd_Law_law_2610 : decode mb_Law_law 2610 = .ok (.invokevirtual 316, 3) := by decide +kernel
theorem rd_Law_law_2613 : decode mb_Law_law 2613 = .ok (.istore 6, 2) := by decide +kernel
theorem rd_Law_law_2615 : decode mb_Law_law 2615 = .ok (.aload_n 2, 1) := by decide +kernel
theorem rd_Law_law_2616 : decode mb_Law_law 2616 = .ok (.invokevirtual 189, 3) := by decide +kernel
theorem rd_Law_law_2619 : decode mb_Law_law 2619 = .ok (.iload 5, 2) := by decide +kernel
theorem rd_Law_law_2621 : decode mb_Law_law 2621 = .ok (.if_icmp .eq 5, 3) := by decide +kernel
theorem rd_Law_law_2626 : decode mb_Law_law 2626 = .ok (.iload 5, 2) := by decide +kernel
theorem rd_Law_law_2628 : decode mb_Law_law 2628 = .ok (.ifCond .ne 15, 3) := by decide +kernel
theorem rd_Law_law_2631 : decode mb_Law_law 2631 = .ok (.aload_n 3, 1) := by decide +kernel
theorem rd_Law_law_2632 : decode mb_Law_law 2632 = .ok (.iconst 0, 1) := by decide +kernel
theorem rd_Law_law_2633 : decode mb_Law_law 2633 = .ok (.laload, 1) := by decide +kernel
theorem rd_Law_law_2634 : decode mb_Law_law 2634 = .ok (.iload 6, 2) := by decide +kernel
theorem rd_Law_law_2636 : decode mb_Law_law 2636 = .ok (.i2l, 1) := by decide +kernel
theorem rd_Law_law_2637 : decode mb_Law_law 2637 = .ok (.lcmp, 1) := by decide +kernel
theorem rd_Law_law_2638 : decode mb_Law_law 2638 = .ok (.ifCond .eq 5, 3) := by decide +kernel
theorem rd_Law_law_2643 : decode mb_Law_law 2643 = .ok (.goto 141, 3) := by decide +kernel
theorem rd_Law_law_2646 : decode mb_Law_law 2646 = .ok (.aload_n 1, 1) := by decide +kernel
theorem rd_Law_law_2647 : decode mb_Law_law 2647 = .ok (.aload_n 0, 1) := by decide +kernel
theorem rd_Law_law_2648 : decode mb_Law_law 2648 = .ok (.iload 4, 2) := by decide +kernel
theorem rd_Law_law_2650 : decode mb_Law_law 2650 = .ok (.iconst 1, 1) := by decide +kernel
theorem rd_Law_law_2651 : decode mb_Law_law 2651 = .ok (.iadd, 1) := by decide +kernel
theorem rd_Law_law_2652 : decode mb_Law_law 2652 = .ok (.iaload, 1) := by decide +kernel
theorem rd_Law_law_2653 : decode mb_Law_law 2653 = .ok (.aload_n 3, 1) := by decide +kernel
theorem rd_Law_law_2654 : decode mb_Law_law 2654 = .ok (.invokestatic 317, 3) := by decide +kernel
theorem rd_Law_law_2657 : decode mb_Law_law 2657 = .ok (.istore 5, 2) := by decide +kernel
theorem rd_Law_law_2659 : decode mb_Law_law 2659 = .ok (.aload_n 2, 1) := by decide +kernel
theorem rd_Law_law_2660 : decode mb_Law_law 2660 = .ok (.aload_n 0, 1) := by decide +kernel
theorem rd_Law_law_2661 : decode mb_Law_law 2661 = .ok (.iload 4, 2) := by decide +kernel
theorem rd_Law_law_2663 : decode mb_Law_law 2663 = .ok (.iconst 1, 1) := by decide +kernel
theorem rd_Law_law_2664 : decode mb_Law_law 2664 = .ok (.iadd, 1) := by decide +kernel
theorem rd_Law_law_2665 : decode mb_Law_law 2665 = .ok (.iaload, 1) := by decide +kernel
theorem rd_Law_law_2666 : decode mb_Law_law 2666 = .ok (.invokevirtual 319, 3) := by decide +kernel
theorem rd_Law_law_2669 : decode mb_Law_law 2669 = .ok (.istore 6, 2) := by decide +kernel
theorem rd_Law_law_2671 : decode mb_Law_law 2671 = .ok (.aload_n 2, 1) := by decide +kernel
theorem rd_Law_law_2672 : decode mb_Law_law 2672 = .ok (.invokevirtual 189, 3) := by decide +kernel
theorem rd_Law_law_2675 : decode mb_Law_law 2675 = .ok (.iload 5, 2) := by decide +kernel
theorem rd_Law_law_2677 : decode mb_Law_law 2677 = .ok (.if_icmp .eq 5, 3) := by decide +kernel
theorem rd_Law_law_2682 : decode mb_Law_law 2682 = .ok (.iload 5, 2) := by decide +kernel
theorem rd_Law_law_2684 : decode mb_Law_law 2684 = .ok (.ifCond .ne 15, 3) := by decide +kernel
theorem rd_Law_law_2687 : decode mb_Law_law 2687 = .ok (.aload_n 3, 1) := by decide +kernel
theorem rd_Law_law_2688 : decode mb_Law_law 2688 = .ok (.iconst 0, 1) := by decide +kernel
theorem rd_Law_law_2689 : decode mb_Law_law 2689 = .ok (.laload, 1) := by decide +kernel
theorem rd_Law_law_2690 : decode mb_Law_law 2690 = .ok (.iload 6, 2) := by decide +kernel
theorem rd_Law_law_2692 : decode mb_Law_law 2692 = .ok (.i2l, 1) := by decide +kernel
theorem rd_Law_law_2693 : decode mb_Law_law 2693 = .ok (.lcmp, 1) := by decide +kernel
theorem rd_Law_law_2694 : decode mb_Law_law 2694 = .ok (.ifCond .eq 5, 3) := by decide +kernel
theorem rd_Law_law_2699 : decode mb_Law_law 2699 = .ok (.goto 85, 3) := by decide +kernel
theorem rd_Law_law_2702 : decode mb_Law_law 2702 = .ok (.aload_n 1, 1) := by decide +kernel
theorem rd_Law_law_2703 : decode mb_Law_law 2703 = .ok (.aload_n 0, 1) := by decide +kernel
theorem rd_Law_law_2704 : decode mb_Law_law 2704 = .ok (.iload 4, 2) := by decide +kernel
theorem rd_Law_law_2706 : decode mb_Law_law 2706 = .ok (.iconst 1, 1) := by decide +kernel
theorem rd_Law_law_2707 : decode mb_Law_law 2707 = .ok (.iadd, 1) := by decide +kernel
theorem rd_Law_law_2708 : decode mb_Law_law 2708 = .ok (.iaload, 1) := by decide +kernel
theorem rd_Law_law_2709 : decode mb_Law_law 2709 = .ok (.invokevirtual 320, 3) := by decide +kernel
theorem rd_Law_law_2712 : decode mb_Law_law 2712 = .ok (.aload_n 2, 1) := by decide +kernel
theorem rd_Law_law_2713 : decode mb_Law_law 2713 = .ok (.aload_n 0, 1) := by decide +kernel
theorem rd_Law_law_2714 : decode mb_Law_law 2714 = .ok (.iload 4, 2) := by decide +kernel
theorem rd_Law_law_2716 : decode mb_Law_law 2716 = .ok (.iconst 1, 1) := by decide +kernel
theorem rd_Law_law_2717 : decode mb_Law_law 2717 = .ok (.iadd, 1) := by decide +kernel
theorem rd_Law_law_2718 : decode mb_Law_law 2718 = .ok (.iaload, 1) := by decide +kernel
theorem rd_Law_law_2719 : decode mb_Law_law 2719 = .ok (.invokevirtual 323, 3) := by decide +kernel
theorem rd_Law_law_2722 : decode mb_Law_law 2722 = .ok (.if_icmp .eq 62, 3) := by decide +kernel
theorem rd_Law_law_2727 : decode mb_Law_law 2727 = .ok (.aload_n 1, 1) := by decide +kernel
theorem rd_Law_law_2728 : decode mb_Law_law 2728 = .ok (.invokevirtual 324, 3) := by decide +kernel
theorem rd_Law_law_2731 : decode mb_Law_law 2731 = .ok (.aload_n 2, 1) := by decide +kernel
theorem rd_Law_law_2732 : decode mb_Law_law 2732 = .ok (.invokevirtual 327, 3) := by decide +kernel
theorem rd_Law_law_2735 : decode mb_Law_law 2735 = .ok (.if_icmp .eq 49, 3) := by decide +kernel
theorem rd_Law_law_2740 : decode mb_Law_law 2740 = .ok (.aload_n 1, 1) := by decide +kernel
theorem rd_Law_law_2741 : decode mb_Law_law 2741 = .ok (.aload_n 3, 1) := by decide +kernel
theorem rd_Law_law_2742 : decode mb_Law_law 2742 = .ok (.invokestatic 328, 3) := by decide +kernel
theorem rd_Law_law_2745 : decode mb_Law_law 2745 = .ok (.istore 5, 2) := by decide +kernel
theorem rd_Law_law_2747 : decode mb_Law_law 2747 = .ok (.aload_n 2, 1) := by decide +kernel
theorem rd_Law_law_2748 : decode mb_Law_law 2748 = .ok (.invokevirtual 330, 3) := by decide +kernel
theorem rd_Law_law_2751 : decode mb_Law_law 2751 = .ok (.istore 6, 2) := by decide +kernel
theorem rd_Law_law_2753 : decode mb_Law_law 2753 = .ok (.aload_n 2, 1) := by decide +kernel
theorem rd_Law_law_2754 : decode mb_Law_law 2754 = .ok (.invokevirtual 189, 3) := by decide +kernel
theorem rd_Law_law_2757 : decode mb_Law_law 2757 = .ok (.iload 5, 2) := by decide +kernel
theorem rd_Law_law_2759 : decode mb_Law_law 2759 = .ok (.if_icmp .eq 5, 3) := by decide +kernel
theorem rd_Law_law_2764 : decode mb_Law_law 2764 = .ok (.iload 5, 2) := by decide +kernel
theorem rd_Law_law_2766 : decode mb_Law_law 2766 = .ok (.ifCond .ne 15, 3) := by decide +kernel
theorem rd_Law_law_2769 : decode mb_Law_law 2769 = .ok (.aload_n 3, 1) := by decide +kernel
theorem rd_Law_law_2770 : decode mb_Law_law 2770 = .ok (.iconst 0, 1) := by decide +kernel
theorem rd_Law_law_2771 : decode mb_Law_law 2771 = .ok (.laload, 1) := by decide +kernel
theorem rd_Law_law_2772 : decode mb_Law_law 2772 = .ok (.iload 6, 2) := by decide +kernel
theorem rd_Law_law_2774 : decode mb_Law_law 2774 = .ok (.i2l, 1) := by decide +kernel
theorem rd_Law_law_2775 : decode mb_Law_law 2775 = .ok (.lcmp, 1) := by decide +kernel
theorem rd_Law_law_2776 : decode mb_Law_law 2776 = .ok (.ifCond .eq 5, 3) := by decide +kernel
theorem rd_Law_law_2781 : decode mb_Law_law 2781 = .ok (.goto 3, 3) := by decide +kernel
theorem rd_Law_law_2784 : decode mb_Law_law 2784 = .ok (.iinc 4 6, 3) := by decide +kernel
theorem rd_Law_law_2787 : decode mb_Law_law 2787 = .ok (.goto (-2764), 3) := by decide +kernel
theorem rd_Law_law_2790 : decode mb_Law_law 2790 = .ok (.iconst 1, 1) := by decide +kernel
theorem rd_Law_law_2791 : decode mb_Law_law 2791 = .ok (.ireturn, 1) := by decide +kernel
