theorem d_law_2697 : decode code 2697 = .ok (.laload, 1) := by decide +kernel
theorem d_law_2698 : decode code 2698 = .ok (.iload 7, 2) := by decide +kernel
theorem d_law_2700 : decode code 2700 = .ok (.i2l, 1) := by decide +kernel
theorem d_law_2701 : decode code 2701 = .ok (.lcmp, 1) := by decide +kernel
theorem d_law_2702 : decode code 2702 = .ok (.ifCond .eq 5, 3) := by decide +kernel
theorem d_law_2707 : decode code 2707 = .ok (.goto 365, 3) := by decide +kernel
theorem d_law_2710 : decode code 2710 = .ok (.aload_n 1, 1) := by decide +kernel
theorem d_law_2711 : decode code 2711 = .ok (.aload_n 0, 1) := by decide +kernel
theorem d_law_2712 : decode code 2712 = .ok (.iload 5, 2) := by decide +kernel
theorem d_law_2714 : decode code 2714 = .ok (.iconst 1, 1) := by decide +kernel
theorem d_law_2715 : decode code 2715 = .ok (.iadd, 1) := by decide +kernel
theorem d_law_2716 : decode code 2716 = .ok (.iaload, 1) := by decide +kernel
theorem d_law_2717 : decode code 2717 = .ok (.aload_n 3, 1) := by decide +kernel
theorem d_law_2718 : decode code 2718 = .ok (.invokestatic 313, 3) := by decide +kernel
theorem d_law_2721 : decode code 2721 = .ok (.istore 6, 2) := by decide +kernel
theorem d_law_2723 : decode code 2723 = .ok (.aload_n 2, 1) := by decide +kernel
theorem d_law_2724 : decode code 2724 = .ok (.aload_n 0, 1) := by decide +kernel
theorem d_law_2725 : decode code 2725 = .ok (.iload 5, 2) := by decide +kernel
theorem d_law_2727 : decode code 2727 = .ok (.iconst 1, 1) := by decide +kernel
theorem d_law_2728 : decode code 2728 = .ok (.iadd, 1) := by decide +kernel
theorem d_law_2729 : decode code 2729 = .ok (.iaload, 1) := by decide +kernel
theorem d_law_2730 : decode code 2730 = .ok (.invokevirtual 315, 3) := by decide +kernel
theorem d_law_2733 : decode code 2733 = .ok (.istore 7, 2) := by decide +kernel
theorem d_law_2735 : decode code 2735 = .ok (.aload_n 2, 1) := by decide +kernel
theorem d_law_2736 : decode code 2736 = .ok (.invokevirtual 160, 3) := by decide +kernel
theorem d_law_2739 : decode code 2739 = .ok (.iload 6, 2) := by decide +kernel
theorem d_law_2741 : decode code 2741 = .ok (.if_icmp .eq 5, 3) := by decide +kernel
theorem d_law_2746 : decode code 2746 = .ok (.iload 6, 2) := by decide +kernel
theorem d_law_2748 : decode code 2748 = .ok (.ifCond .ne 15, 3) := by decide +kernel
theorem d_law_2751 : decode code 2751 = .ok (.aload_n 3, 1) := by decide +kernel
theorem d_law_2752 : decode code 2752 = .ok (.iconst 0, 1) := by decide +kernel
theorem d_law_2753 : decode code 2753 = .ok (.laload, 1) := by decide +kernel
theorem d_law_2754 : decode code 2754 = .ok (.iload 7, 2) := by decide +kernel
theorem d_law_2756 : decode code 2756 = .ok (.i2l, 1) := by decide +kernel
theorem d_law_2757 : decode code 2757 = .ok (.lcmp, 1) := by decide +kernel
theorem d_law_2758 : decode code 2758 = .ok (.ifCond .eq 5, 3) := by decide +kernel
theorem d_law_2763 : decode code 2763 = .ok (.goto 309, 3) := by decide +kernel
theorem d_law_2766 : decode code 2766 = .ok (.aload_n 1, 1) := by decide +kernel
theorem d_law_2767 : decode code 2767 = .ok (.aload_n 0, 1) := by decide +kernel
theorem d_law_2768 : decode code 2768 = .ok (.iload 5, 2) := by decide +kernel
theorem d_law_2770 : decode code 2770 = .ok (.iconst 1, 1) := by decide +kernel
theorem d_law_2771 : decode code 2771 = .ok (.iadd, 1) := by decide +kernel
theorem d_law_2772 : decode code 2772 = .ok (.iaload, 1) := by decide +kernel
theorem d_law_2773 : decode code 2773 = .ok (.aload_n 3, 1) := by decide +kernel
theorem d_law_2774 : decode code 2774 = .ok (.invokestatic 316, 3) := by decide +kernel
theorem d_law_2777 : decode code 2777 = .ok (.istore 6, 2) := by decide +kernel
theorem d_law_2779 : decode code 2779 = .ok (.aload_n 2, 1) := by decide +kernel
theorem d_law_2780 : decode code 2780 = .ok (.aload_n 0, 1) := by decide +kernel
theorem d_law_2781 : decode code 2781 = .ok (.iload 5, 2) := by decide +kernel
theorem d_law_2783 : decode code 2783 = .ok (.iconst 1, 1) := by decide +kernel
theorem d_law_2784 : decode code 2784 = .ok (.iadd, 1) := by decide +kernel
theorem d_law_2785 : decode code 2785 = .ok (.iaload, 1) := by decide +kernel
theorem d_law_2786 : decode code 2786 = .ok (.invokevirtual 318, 3) := by decide +kernel
theorem d_law_2789 : decode code 2789 = .ok (.istore 7, 2) := by decide +kernel
theorem d_law_2791 : decode code 2791 = .ok (.aload_n 2, 1) := by decide +kernel
theorem d_law_2792 : decode code 2792 = .ok (.invokevirtual 160, 3) := by decide +kernel
theorem d_law_2795 : decode code 2795 = .ok (.iload 6, 2) := by decide +kernel
theorem d_law_2797 : decode code 2797 = .ok (.if_icmp .eq 5, 3) := by decide +kernel
theorem d_law_2802 : decode code 2802 = .ok (.iload 6, 2) := by decide +kernel
theorem d_law_2804 : decode code 2804 = .ok (.ifCond .ne 15, 3) := by decide +kernel
theorem d_law_2819 : decode code 2819 = .ok (.goto 253, 3) := by decide +kernel
theorem d_law_2822 : decode code 2822 = .ok (.aload_n 1, 1) := by decide +kernel
theorem d_law_2823 : decode code 2823 = .ok (.aload_n 0, 1) := by decide +kernel
theorem d_law_2824 : decode code 2824 = .ok (.iload 5, 2) := by decide +kernel
theorem d_law_2826 : decode code 2826 = .ok (.iconst 1, 1) := by decide +kernel
theorem d_law_2827 : decode code 2827 = .ok (.iadd, 1) := by decide +kernel
theorem d_law_2828 : decode code 2828 = .ok (.iaload, 1) := by decide +kernel
theorem d_law_2829 : decode code 2829 = .ok (.aload_n 3, 1) := by decide +kernel
theorem d_law_2830 : decode code 2830 = .ok (.invokestatic 319, 3) := by decide +kernel
theorem d_law_2833 : decode code 2833 = .ok (.istore 6, 2) := by decide +kernel
theorem d_law_2835 : decode code 2835 = .ok (.aload_n 2, 1) := by decide +kernel
theorem d_law_2836 : decode code 2836 = .ok (.aload_n 0, 1) := by decide +kernel
theorem d_law_2837 : decode code 2837 = .ok (.iload 5, 2) := by decide +kernel
theorem d_law_2839 : decode code 2839 = .ok (.iconst 1, 1) := by decide +kernel
theorem d_law_2840 : decode code 2840 = .ok (.iadd, 1) := by decide +kernel
theorem d_law_2841 : decode code 2841 = .ok (.iaload, 1) := by decide +kernel
theorem d_law_2842 : decode code 2842 = .ok (.invokevirtual 321, 3) := by decide +kernel
theorem d_law_2845 : decode code 2845 = .ok (.lstore 7, 2) := by decide +kernel
theorem d_law_2847 : decode code 2847 = .ok (.aload_n 2, 1) := by decide +kernel
theorem d_law_2848 : decode code 2848 = .ok (.invokevirtual 160, 3) := by decide +kernel
theorem d_law_2851 : decode code 2851 = .ok (.iload 6, 2) := by decide +kernel
theorem d_law_2853 : decode code 2853 = .ok (.if_icmp .eq 5, 3) := by decide +kernel
theorem d_law_2858 : decode code 2858 = .ok (.iload 6, 2) := by decide +kernel
theorem d_law_2860 : decode code 2860 = .ok (.ifCond .ne 14, 3) := by decide +kernel
theorem d_law_2874 : decode code 2874 = .ok (.goto 198, 3) := by decide +kernel
theorem d_law_2877 : decode code 2877 = .ok (.aload_n 1, 1) := by decide +kernel
theorem d_law_2878 : decode code 2878 = .ok (.invokevirtual 322, 3) := by decide +kernel
theorem d_law_2881 : decode code 2881 = .ok (.aload_n 2, 1) := by decide +kernel
theorem d_law_2882 : decode code 2882 = .ok (.invokevirtual 325, 3) := by decide +kernel
theorem d_law_2885 : decode code 2885 = .ok (.if_icmp .eq 187, 3) := by decide +kernel
theorem d_law_2890 : decode code 2890 = .ok (.aload_n 1, 1) := by decide +kernel
theorem d_law_2891 : decode code 2891 = .ok (.invokevirtual 326, 3) := by decide +kernel
theorem d_law_2894 : decode code 2894 = .ok (.aload_n 2, 1) := by decide +kernel
theorem d_law_2895 : decode code 2895 = .ok (.invokevirtual 329, 3) := by decide +kernel
theorem d_law_2898 : decode code 2898 = .ok (.lcmp, 1) := by decide +kernel
theorem d_law_2899 : decode code 2899 = .ok (.ifCond .eq 173, 3) := by decide +kernel
theorem d_law_2904 : decode code 2904 = .ok (.aload_n 1, 1) := by decide +kernel
theorem d_law_2905 : decode code 2905 = .ok (.aload_n 0, 1) := by decide +kernel
theorem d_law_2906 : decode code 2906 = .ok (.iload 5, 2) := by decide +kernel
theorem d_law_2908 : decode code 2908 = .ok (.iconst 1, 1) := by decide +kernel
theorem d_law_2909 : decode code 2909 = .ok (.iadd, 1) := by decide +kernel
theorem d_law_2910 : decode code 2910 = .ok (.iaload, 1) := by decide +kernel
theorem d_law_2911 : decode code 2911 = .ok (.aload 4, 2) := by decide +kernel
theorem d_law_2913 : decode code 2913 = .ok (.invokestatic 330, 3) := by decide +kernel
theorem d_law_2916 : decode code 2916 = .ok (.istore 6, 2) := by decide +kernel
theorem d_law_2918 : decode code 2918 = .ok (.aload_n 2, 1) := by decide +kernel
theorem d_law_2919 : decode code 2919 = .ok (.aload_n 0, 1) := by decide +kernel
theorem d_law_2920 : decode code 2920 = .ok (.iload 5, 2) := by decide +kernel
theorem d_law_2922 : decode code 2922 = .ok (.iconst 1, 1) := by decide +kernel
theorem d_law_2923 : decode code 2923 = .ok (.iadd, 1) := by decide +kernel
theorem d_law_2924 : decode code 2924 = .ok (.iaload, 1) := by decide +kernel
theorem d_law_2925 : decode code 2925 = .ok (.invokevirtual 333, 3) := by decide +kernel
theorem d_law_2928 : decode code 2928 = .ok (.dstore 7, 2) := by decide +kernel
theorem d_law_2930 : decode code 2930 = .ok (.aload_n 2, 1) := by decide +kernel
theorem d_law_2931 : decode code 2931 = .ok (.invokevirtual 160, 3) := by decide +kernel
theorem d_law_2934 : decode code 2934 = .ok (.iload 6, 2) := by decide +kernel
theorem d_law_2936 : decode code 2936 = .ok (.if_icmp .eq 5, 3) := by decide +kernel
theorem d_law_2941 : decode code 2941 = .ok (.iload 6, 2) := by decide +kernel
theorem d_law_2943 : decode code 2943 = .ok (.ifCond .ne 35, 3) := by decide +kernel
theorem d_law_2978 : decode code 2978 = .ok (.goto 94, 3) := by decide +kernel
theorem d_law_2981 : decode code 2981 = .ok (.aload_n 1, 1) := by decide +kernel
theorem d_law_2982 : decode code 2982 = .ok (.aload_n 0, 1) := by decide +kernel
theorem d_law_2983 : decode code 2983 = .ok (.iload 5, 2) := by decide +kernel
theorem d_law_2985 : decode code 2985 = .ok (.iconst 1, 1) := by decide +kernel
theorem d_law_2986 : decode code 2986 = .ok (.iadd, 1) := by decide +kernel
theorem d_law_2987 : decode code 2987 = .ok (.iaload, 1) := by decide +kernel
theorem d_law_2988 : decode code 2988 = .ok (.aload 4, 2) := by decide +kernel
theorem d_law_2990 : decode code 2990 = .ok (.invokestatic 334, 3) := by decide +kernel
theorem d_law_2993 : decode code 2993 = .ok (.istore 6, 2) := by decide +kernel
theorem d_law_2995 : decode code 2995 = .ok (.aload_n 2, 1) := by decide +kernel
theorem d_law_2996 : decode code 2996 = .ok (.aload_n 0, 1) := by decide +kernel
theorem d_law_2997 : decode code 2997 = .ok (.iload 5, 2) := by decide +kernel
theorem d_law_2999 : decode code 2999 = .ok (.iconst 1, 1) := by decide +kernel
theorem d_law_3000 : decode code 3000 = .ok (.iadd, 1) := by decide +kernel
theorem d_law_3001 : decode code 3001 = .ok (.iaload, 1) := by decide +kernel
theorem d_law_3002 : decode code 3002 = .ok (.invokevirtual 336, 3) := by decide +kernel
theorem d_law_3005 : decode code 3005 = .ok (.fstore 7, 2) := by decide +kernel
theorem d_law_3007 : decode code 3007 = .ok (.aload_n 2, 1) := by decide +kernel
theorem d_law_3008 : decode code 3008 = .ok (.invokevirtual 160, 3) := by decide +kernel
theorem d_law_3011 : decode code 3011 = .ok (.iload 6, 2) := by decide +kernel
theorem d_law_3013 : decode code 3013 = .ok (.if_icmp .eq 5, 3) := by decide +kernel
theorem d_law_3018 : decode code 3018 = .ok (.iload 6, 2) := by decide +kernel
theorem d_law_3020 : decode code 3020 = .ok (.ifCond .ne 36, 3) := by decide +kernel
theorem d_law_3056 : decode code 3056 = .ok (.goto 16, 3) := by decide +kernel
theorem d_law_3059 : decode code 3059 = .ok (.aload_n 1, 1) := by decide +kernel
theorem d_law_3060 : decode code 3060 = .ok (.invokevirtual 337, 3) := by decide +kernel
theorem d_law_3063 : decode code 3063 = .ok (.aload_n 2, 1) := by decide +kernel
theorem d_law_3064 : decode code 3064 = .ok (.invokevirtual 340, 3) := by decide +kernel
theorem d_law_3067 : decode code 3067 = .ok (.if_icmp .eq 5, 3) := by decide +kernel
theorem d_law_3072 : decode code 3072 = .ok (.iinc 5 4, 3) := by decide +kernel
