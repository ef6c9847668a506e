theorem dX10_route_36 : decode cX10_route 36 = .ok (.goto (-24), 3) := by decide +kernel
theorem dX10_route_39 : decode cX10_route 39 = .ok (.aload_n 0, 1) := by decide +kernel
theorem dX10_route_40 : decode cX10_route 40 = .ok (.getfield 162, 3) := by decide +kernel
theorem dX10_route_43 : decode cX10_route 43 = .ok (.ifCond .le 26, 3) := by decide +kernel
theorem dX10_route_46 : decode cX10_route 46 = .ok (.aload_n 0, 1) := by decide +kernel
theorem dX10_route_47 : decode cX10_route 47 = .ok (.aload_n 0, 1) := by decide +kernel
theorem dX10_route_48 : decode cX10_route 48 = .ok (.getfield 60, 3) := by decide +kernel
theorem dX10_route_51 : decode cX10_route 51 = .ok (.aload_n 0, 1) := by decide +kernel
theorem dX10_route_52 : decode cX10_route 52 = .ok (.getfield 162, 3) := by decide +kernel
theorem dX10_route_55 : decode cX10_route 55 = .ok (.iconst 1, 1) := by decide +kernel
theorem dX10_route_56 : decode cX10_route 56 = .ok (.isub, 1) := by decide +kernel
theorem dX10_route_57 : decode cX10_route 57 = .ok (.iaload, 1) := by decide +kernel
theorem dX10_route_58 : decode cX10_route 58 = .ok (.iload_n 1, 1) := by decide +kernel
theorem dX10_route_59 : decode cX10_route 59 = .ok (.invokevirtual 105, 3) := by decide +kernel
theorem dX10_route_62 : decode cX10_route 62 = .ok (.iconst (-1), 1) := by decide +kernel
theorem dX10_route_63 : decode cX10_route 63 = .ok (.if_icmp .ne 6, 3) := by decide +kernel
theorem dX10_route_66 : decode cX10_route 66 = .ok (.bipush (-4), 2) := by decide +kernel
theorem dX10_route_68 : decode cX10_route 68 = .ok (.ireturn, 1) := by decide +kernel
theorem dX10_route_69 : decode cX10_route 69 = .ok (.aload_n 0, 1) := by decide +kernel
theorem dX10_route_70 : decode cX10_route 70 = .ok (.getfield 162, 3) := by decide +kernel
theorem dX10_route_73 : decode cX10_route 73 = .ok (.bipush 10, 2) := by decide +kernel
theorem dX10_route_75 : decode cX10_route 75 = .ok (.if_icmp .ne 6, 3) := by decide +kernel
theorem dX10_route_78 : decode cX10_route 78 = .ok (.bipush (-5), 2) := by decide +kernel
theorem dX10_route_80 : decode cX10_route 80 = .ok (.ireturn, 1) := by decide +kernel
theorem dX10_route_81 : decode cX10_route 81 = .ok (.aload_n 0, 1) := by decide +kernel
theorem dX10_route_82 : decode cX10_route 82 = .ok (.getfield 60, 3) := by decide +kernel
theorem dX10_route_85 : decode cX10_route 85 = .ok (.aload_n 0, 1) := by decide +kernel
theorem dX10_route_86 : decode cX10_route 86 = .ok (.getfield 162, 3) := by decide +kernel
theorem dX10_route_89 : decode cX10_route 89 = .ok (.iload_n 1, 1) := by decide +kernel
theorem dX10_route_90 : decode cX10_route 90 = .ok (.iastore, 1) := by decide +kernel
theorem dX10_route_91 : decode cX10_route 91 = .ok (.aload_n 0, 1) := by decide +kernel
theorem dX10_route_92 : decode cX10_route 92 = .ok (.dup, 1) := by decide +kernel
theorem dX10_route_93 : decode cX10_route 93 = .ok (.getfield 162, 3) := by decide +kernel
theorem dX10_route_96 : decode cX10_route 96 = .ok (.iconst 1, 1) := by decide +kernel
theorem dX10_route_97 : decode cX10_route 97 = .ok (.iadd, 1) := by decide +kernel
theorem dX10_route_98 : decode cX10_route 98 = .ok (.putfield 162, 3) := by decide +kernel
theorem dX10_route_101 : decode cX10_route 101 = .ok (.aload_n 0, 1) := by decide +kernel
theorem dX10_route_102 : decode cX10_route 102 = .ok (.getfield 162, 3) := by decide +kernel
theorem dX10_route_105 : decode cX10_route 105 = .ok (.ireturn, 1) := by decide +kernel
theorem dX10_unroute_0 : decode cX10_unroute 0 = .ok (.aload_n 0, 1) := by decide +kernel
theorem dX10_unroute_1 : decode cX10_unroute 1 = .ok (.getfield 162, 3) := by decide +kernel
theorem dX10_unroute_4 : decode cX10_unroute 4 = .ok (.istore_n 1, 1) := by decide +kernel
theorem dX10_unroute_5 : decode cX10_unroute 5 = .ok (.aload_n 0, 1) := by decide +kernel
theorem dX10_unroute_6 : decode cX10_unroute 6 = .ok (.iconst 0, 1) := by decide +kernel
theorem dX10_unroute_7 : decode cX10_unroute 7 = .ok (.putfield 162, 3) := by decide +kernel
theorem dX10_unroute_10 : decode cX10_unroute 10 = .ok (.iload_n 1, 1) := by decide +kernel
theorem dX10_unroute_11 : decode cX10_unroute 11 = .ok (.ireturn, 1) := by decide +kernel
theorem dX10_isHarmless_0 : decode cX10_isHarmless 0 = .ok (.aload_n 0, 1) := by decide +kernel
theorem dX10_isHarmless_1 : decode cX10_isHarmless 1 = .ok (.getfield 16, 3) := by decide +kernel
theorem dX10_isHarmless_4 : decode cX10_isHarmless 4 = .ok (.iload_n 1, 1) := by decide +kernel
theorem dX10_isHarmless_5 : decode cX10_isHarmless 5 = .ok (.iaload, 1) := by decide +kernel
theorem dX10_isHarmless_6 : decode cX10_isHarmless 6 = .ok (.aload_n 0, 1) := by decide +kernel
theorem dX10_isHarmless_7 : decode cX10_isHarmless 7 = .ok (.getfield 125, 3) := by decide +kernel
theorem dX10_isHarmless_10 : decode cX10_isHarmless 10 = .ok (.if_icmp .gt 23, 3) := by decide +kernel
theorem dX10_isHarmless_13 : decode cX10_isHarmless 13 = .ok (.aload_n 0, 1) := by decide +kernel
theorem dX10_isHarmless_14 : decode cX10_isHarmless 14 = .ok (.aload_n 0, 1) := by decide +kernel
theorem dX10_isHarmless_15 : decode cX10_isHarmless 15 = .ok (.iload_n 1, 1) := by decide +kernel
theorem dX10_isHarmless_16 : decode cX10_isHarmless 16 = .ok (.iload_n 2, 1) := by decide +kernel
theorem dX10_isHarmless_17 : decode cX10_isHarmless 17 = .ok (.invokevirtual 143, 3) := by decide +kernel
theorem dX10_isHarmless_20 : decode cX10_isHarmless 20 = .ok (.invokevirtual 118, 3) := by decide +kernel
theorem dX10_isHarmless_23 : decode cX10_isHarmless 23 = .ok (.iconst 1, 1) := by decide +kernel
theorem dX10_isHarmless_24 : decode cX10_isHarmless 24 = .ok (.iload_n 1, 1) := by decide +kernel
theorem dX10_isHarmless_25 : decode cX10_isHarmless 25 = .ok (.ishl, 1) := by decide +kernel
theorem dX10_isHarmless_26 : decode cX10_isHarmless 26 = .ok (.if_icmp .ne 7, 3) := by decide +kernel
theorem dX10_isHarmless_29 : decode cX10_isHarmless 29 = .ok (.iconst 1, 1) := by decide +kernel
theorem dX10_isHarmless_30 : decode cX10_isHarmless 30 = .ok (.goto 4, 3) := by decide +kernel
theorem dX10_isHarmless_33 : decode cX10_isHarmless 33 = .ok (.iconst 0, 1) := by decide +kernel
theorem dX10_isHarmless_34 : decode cX10_isHarmless 34 = .ok (.ireturn, 1) := by decide +kernel
theorem dX10_isNeeded_0 : decode cX10_isNeeded 0 = .ok (.iload_n 1, 1) := by decide +kernel
theorem dX10_isNeeded_1 : decode cX10_isNeeded 1 = .ok (.iconst (-1), 1) := by decide +kernel
theorem dX10_isNeeded_2 : decode cX10_isNeeded 2 = .ok (.if_icmp .ne 7, 3) := by decide +kernel
theorem dX10_isNeeded_5 : decode cX10_isNeeded 5 = .ok (.iconst (-1), 1) := by decide +kernel
theorem dX10_isNeeded_6 : decode cX10_isNeeded 6 = .ok (.goto 9, 3) := by decide +kernel
theorem dX10_isNeeded_9 : decode cX10_isNeeded 9 = .ok (.aload_n 0, 1) := by decide +kernel
theorem dX10_isNeeded_10 : decode cX10_isNeeded 10 = .ok (.iload_n 1, 1) := by decide +kernel
theorem dX10_isNeeded_11 : decode cX10_isNeeded 11 = .ok (.iload_n 2, 1) := by decide +kernel
theorem dX10_isNeeded_12 : decode cX10_isNeeded 12 = .ok (.invokevirtual 105, 3) := by decide +kernel
theorem dX10_isNeeded_15 : decode cX10_isNeeded 15 = .ok (.istore 4, 2) := by decide +kernel
theorem dX10_isNeeded_17 : decode cX10_isNeeded 17 = .ok (.aload_n 0, 1) := by decide +kernel
theorem dX10_isNeeded_18 : decode cX10_isNeeded 18 = .ok (.iload_n 2, 1) := by decide +kernel
theorem dX10_isNeeded_19 : decode cX10_isNeeded 19 = .ok (.iload_n 3, 1) := by decide +kernel
theorem dX10_isNeeded_20 : decode cX10_isNeeded 20 = .ok (.invokevirtual 105, 3) := by decide +kernel
theorem dX10_isNeeded_23 : decode cX10_isNeeded 23 = .ok (.istore 5, 2) := by decide +kernel
theorem dX10_isNeeded_25 : decode cX10_isNeeded 25 = .ok (.iconst 0, 1) := by decide +kernel
theorem dX10_isNeeded_26 : decode cX10_isNeeded 26 = .ok (.istore 6, 2) := by decide +kernel
theorem dX10_isNeeded_28 : decode cX10_isNeeded 28 = .ok (.iconst 0, 1) := by decide +kernel
theorem dX10_isNeeded_29 : decode cX10_isNeeded 29 = .ok (.istore 7, 2) := by decide +kernel
theorem dX10_isNeeded_31 : decode cX10_isNeeded 31 = .ok (.iload 7, 2) := by decide +kernel
theorem dX10_isNeeded_33 : decode cX10_isNeeded 33 = .ok (.aload_n 0, 1) := by decide +kernel
theorem dX10_isNeeded_34 : decode cX10_isNeeded 34 = .ok (.getfield 94, 3) := by decide +kernel
theorem dX10_isNeeded_37 : decode cX10_isNeeded 37 = .ok (.if_icmp .ge 55, 3) := by decide +kernel
theorem dX10_isNeeded_40 : decode cX10_isNeeded 40 = .ok (.iload 6, 2) := by decide +kernel
theorem dX10_isNeeded_42 : decode cX10_isNeeded 42 = .ok (.ifCond .ne 37, 3) := by decide +kernel
theorem dX10_isNeeded_45 : decode cX10_isNeeded 45 = .ok (.aload_n 0, 1) := by decide +kernel
theorem dX10_isNeeded_46 : decode cX10_isNeeded 46 = .ok (.iload 7, 2) := by decide +kernel
theorem dX10_isNeeded_48 : decode cX10_isNeeded 48 = .ok (.iload_n 2, 1) := by decide +kernel
theorem dX10_isNeeded_49 : decode cX10_isNeeded 49 = .ok (.invokevirtual 97, 3) := by decide +kernel
theorem dX10_isNeeded_52 : decode cX10_isNeeded 52 = .ok (.ifCond .eq 31, 3) := by decide +kernel
theorem dX10_isNeeded_55 : decode cX10_isNeeded 55 = .ok (.iload 7, 2) := by decide +kernel
theorem dX10_isNeeded_57 : decode cX10_isNeeded 57 = .ok (.iload 4, 2) := by decide +kernel
theorem dX10_isNeeded_59 : decode cX10_isNeeded 59 = .ok (.if_icmp .eq 24, 3) := by decide +kernel
theorem dX10_isNeeded_62 : decode cX10_isNeeded 62 = .ok (.iload 7, 2) := by decide +kernel
theorem dX10_isNeeded_64 : decode cX10_isNeeded 64 = .ok (.iload 5, 2) := by decide +kernel
theorem dX10_isNeeded_66 : decode cX10_isNeeded 66 = .ok (.if_icmp .eq 17, 3) := by decide +kernel
theorem dX10_isNeeded_69 : decode cX10_isNeeded 69 = .ok (.aload_n 0, 1) := by decide +kernel
theorem dX10_isNeeded_70 : decode cX10_isNeeded 70 = .ok (.iload 7, 2) := by decide +kernel
theorem dX10_isNeeded_72 : decode cX10_isNeeded 72 = .ok (.iload_n 2, 1) := by decide +kernel
theorem dX10_isNeeded_73 : decode cX10_isNeeded 73 = .ok (.invokevirtual 165, 3) := by decide +kernel
theorem dX10_isNeeded_76 : decode cX10_isNeeded 76 = .ok (.ifCond .ne 7, 3) := by decide +kernel
theorem dX10_isNeeded_79 : decode cX10_isNeeded 79 = .ok (.iconst 1, 1) := by decide +kernel
theorem dX10_isNeeded_80 : decode cX10_isNeeded 80 = .ok (.goto 4, 3) := by decide +kernel
theorem dX10_isNeeded_83 : decode cX10_isNeeded 83 = .ok (.iconst 0, 1) := by decide +kernel
theorem dX10_isNeeded_84 : decode cX10_isNeeded 84 = .ok (.istore 6, 2) := by decide +kernel
theorem dX10_isNeeded_86 : decode cX10_isNeeded 86 = .ok (.iinc 7 1, 3) := by decide +kernel
theorem dX10_isNeeded_89 : decode cX10_isNeeded 89 = .ok (.goto (-58), 3) := by decide +kernel
theorem dX10_isNeeded_92 : decode cX10_isNeeded 92 = .ok (.iload 6, 2) := by decide +kernel
theorem dX10_isNeeded_94 : decode cX10_isNeeded 94 = .ok (.ifCond .eq 19, 3) := by decide +kernel
theorem dX10_isNeeded_97 : decode cX10_isNeeded 97 = .ok (.aload_n 0, 1) := by decide +kernel
theorem dX10_isNeeded_98 : decode cX10_isNeeded 98 = .ok (.iload_n 2, 1) := by decide +kernel
theorem dX10_isNeeded_99 : decode cX10_isNeeded 99 = .ok (.iload 4, 2) := by decide +kernel
theorem dX10_isNeeded_101 : decode cX10_isNeeded 101 = .ok (.invokevirtual 140, 3) := by decide +kernel
theorem dX10_isNeeded_104 : decode cX10_isNeeded 104 = .ok (.iload 5, 2) := by decide +kernel
theorem dX10_isNeeded_106 : decode cX10_isNeeded 106 = .ok (.if_icmp .eq 7, 3) := by decide +kernel
theorem dX10_isNeeded_109 : decode cX10_isNeeded 109 = .ok (.iconst 1, 1) := by decide +kernel
theorem dX10_isNeeded_110 : decode cX10_isNeeded 110 = .ok (.goto 4, 3) := by decide +kernel
theorem dX10_isNeeded_113 : decode cX10_isNeeded 113 = .ok (.iconst 0, 1) := by decide +kernel
theorem dX10_isNeeded_114 : decode cX10_isNeeded 114 = .ok (.ireturn, 1) := by decide +kernel
theorem dX10_needed_0 : decode cX10_needed 0 = .ok (.iload_n 1, 1) := by decide +kernel
theorem dX10_needed_1 : decode cX10_needed 1 = .ok (.iconst 0, 1) := by decide +kernel
theorem dX10_needed_2 : decode cX10_needed 2 = .ok (.iconst 1, 1) := by decide +kernel
theorem dX10_needed_3 : decode cX10_needed 3 = .ok (.invokestatic 90, 3) := by decide +kernel
theorem dX10_needed_6 : decode cX10_needed 6 = .ok (.ifCond .ne 6, 3) := by decide +kernel
theorem dX10_needed_9 : decode cX10_needed 9 = .ok (.bipush (-3), 2) := by decide +kernel
theorem dX10_needed_11 : decode cX10_needed 11 = .ok (.ireturn, 1) := by decide +kernel
theorem dX10_needed_12 : decode cX10_needed 12 = .ok (.iconst 0, 1) := by decide +kernel
theorem dX10_needed_13 : decode cX10_needed 13 = .ok (.istore_n 2, 1) := by decide +kernel
theorem dX10_needed_14 : decode cX10_needed 14 = .ok (.iload_n 1, 1) := by decide +kernel
theorem dX10_needed_15 : decode cX10_needed 15 = .ok (.ifCond .ne 7, 3) := by decide +kernel
theorem dX10_needed_18 : decode cX10_needed 18 = .ok (.iconst 1, 1) := by decide +kernel
theorem dX10_needed_19 : decode cX10_needed 19 = .ok (.goto 4, 3) := by decide +kernel
theorem dX10_needed_22 : decode cX10_needed 22 = .ok (.iconst (-1), 1) := by decide +kernel
theorem dX10_needed_23 : decode cX10_needed 23 = .ok (.istore_n 3, 1) := by decide +kernel
theorem dX10_needed_24 : decode cX10_needed 24 = .ok (.iconst 0, 1) := by decide +kernel
theorem dX10_needed_25 : decode cX10_needed 25 = .ok (.istore 4, 2) := by decide +kernel
theorem dX10_needed_27 : decode cX10_needed 27 = .ok (.iload 4, 2) := by decide +kernel
theorem dX10_needed_29 : decode cX10_needed 29 = .ok (.aload_n 0, 1) := by decide +kernel
theorem dX10_needed_30 : decode cX10_needed 30 = .ok (.getfield 162, 3) := by decide +kernel
theorem dX10_needed_33 : decode cX10_needed 33 = .ok (.if_icmp .ge 99, 3) := by decide +kernel
theorem dX10_needed_36 : decode cX10_needed 36 = .ok (.iload 4, 2) := by decide +kernel
theorem dX10_needed_38 : decode cX10_needed 38 = .ok (.iload_n 3, 1) := by decide +kernel
theorem dX10_needed_39 : decode cX10_needed 39 = .ok (.iadd, 1) := by decide +kernel
theorem dX10_needed_40 : decode cX10_needed 40 = .ok (.iconst 0, 1) := by decide +kernel
theorem dX10_needed_41 : decode cX10_needed 41 = .ok (.aload_n 0, 1) := by decide +kernel
theorem dX10_needed_42 : decode cX10_needed 42 = .ok (.getfield 162, 3) := by decide +kernel
theorem dX10_needed_45 : decode cX10_needed 45 = .ok (.iconst 1, 1) := by decide +kernel
theorem dX10_needed_46 : decode cX10_needed 46 = .ok (.isub, 1) := by decide +kernel
theorem dX10_needed_47 : decode cX10_needed 47 = .ok (.invokestatic 90, 3) := by decide +kernel
theorem dX10_needed_50 : decode cX10_needed 50 = .ok (.ifCond .eq 76, 3) := by decide +kernel
theorem dX10_needed_53 : decode cX10_needed 53 = .ok (.iload 4, 2) := by decide +kernel
theorem dX10_needed_55 : decode cX10_needed 55 = .ok (.iload_n 3, 1) := by decide +kernel
theorem dX10_needed_56 : decode cX10_needed 56 = .ok (.isub, 1) := by decide +kernel
theorem dX10_needed_57 : decode cX10_needed 57 = .ok (.iconst 0, 1) := by decide +kernel
theorem dX10_needed_58 : decode cX10_needed 58 = .ok (.aload_n 0, 1) := by decide +kernel
theorem dX10_needed_59 : decode cX10_needed 59 = .ok (.getfield 162, 3) := by decide +kernel
theorem dX10_needed_62 : decode cX10_needed 62 = .ok (.iconst 1, 1) := by decide +kernel
theorem dX10_needed_63 : decode cX10_needed 63 = .ok (.isub, 1) := by decide +kernel
theorem dX10_needed_64 : decode cX10_needed 64 = .ok (.invokestatic 90, 3) := by decide +kernel
theorem dX10_needed_67 : decode cX10_needed 67 = .ok (.ifCond .eq 15, 3) := by decide +kernel
theorem dX10_needed_70 : decode cX10_needed 70 = .ok (.aload_n 0, 1) := by decide +kernel
theorem dX10_needed_71 : decode cX10_needed 71 = .ok (.getfield 60, 3) := by decide +kernel
theorem dX10_needed_74 : decode cX10_needed 74 = .ok (.iload 4, 2) := by decide +kernel
theorem dX10_needed_76 : decode cX10_needed 76 = .ok (.iload_n 3, 1) := by decide +kernel
theorem dX10_needed_77 : decode cX10_needed 77 = .ok (.isub, 1) := by decide +kernel
theorem dX10_needed_78 : decode cX10_needed 78 = .ok (.iaload, 1) := by decide +kernel
theorem dX10_needed_79 : decode cX10_needed 79 = .ok (.goto 4, 3) := by decide +kernel
theorem dX10_needed_82 : decode cX10_needed 82 = .ok (.iconst (-1), 1) := by decide +kernel
theorem dX10_needed_83 : decode cX10_needed 83 = .ok (.istore 5, 2) := by decide +kernel
theorem dX10_needed_85 : decode cX10_needed 85 = .ok (.iload_n 2, 1) := by decide +kernel
theorem dX10_needed_86 : decode cX10_needed 86 = .ok (.aload_n 0, 1) := by decide +kernel
theorem dX10_needed_87 : decode cX10_needed 87 = .ok (.iload 5, 2) := by decide +kernel
theorem dX10_needed_89 : decode cX10_needed 89 = .ok (.aload_n 0, 1) := by decide +kernel
theorem dX10_needed_90 : decode cX10_needed 90 = .ok (.getfield 60, 3) := by decide +kernel
theorem dX10_needed_93 : decode cX10_needed 93 = .ok (.iload 4, 2) := by decide +kernel
theorem dX10_needed_95 : decode cX10_needed 95 = .ok (.iaload, 1) := by decide +kernel
theorem dX10_needed_96 : decode cX10_needed 96 = .ok (.aload_n 0, 1) := by decide +kernel
theorem dX10_needed_97 : decode cX10_needed 97 = .ok (.getfield 60, 3) := by decide +kernel
theorem dX10_needed_100 : decode cX10_needed 100 = .ok (.iload 4, 2) := by decide +kernel
theorem dX10_needed_102 : decode cX10_needed 102 = .ok (.iload_n 3, 1) := by decide +kernel
theorem dX10_needed_103 : decode cX10_needed 103 = .ok (.iadd, 1) := by decide +kernel
theorem dX10_needed_104 : decode cX10_needed 104 = .ok (.iaload, 1) := by decide +kernel
theorem dX10_needed_105 : decode cX10_needed 105 = .ok (.invokevirtual 168, 3) := by decide +kernel
theorem dX10_needed_108 : decode cX10_needed 108 = .ok (.ifCond .eq 15, 3) := by decide +kernel
theorem dX10_needed_111 : decode cX10_needed 111 = .ok (.iconst 1, 1) := by decide +kernel
theorem dX10_needed_112 : decode cX10_needed 112 = .ok (.aload_n 0, 1) := by decide +kernel
theorem dX10_needed_113 : decode cX10_needed 113 = .ok (.getfield 60, 3) := by decide +kernel
theorem dX10_needed_116 : decode cX10_needed 116 = .ok (.iload 4, 2) := by decide +kernel
theorem dX10_needed_118 : decode cX10_needed 118 = .ok (.iaload, 1) := by decide +kernel
theorem dX10_needed_119 : decode cX10_needed 119 = .ok (.ishl, 1) := by decide +kernel
theorem dX10_needed_120 : decode cX10_needed 120 = .ok (.goto 4, 3) := by decide +kernel
theorem dX10_needed_123 : decode cX10_needed 123 = .ok (.iconst 0, 1) := by decide +kernel
theorem dX10_needed_124 : decode cX10_needed 124 = .ok (.ior, 1) := by decide +kernel
theorem dX10_needed_125 : decode cX10_needed 125 = .ok (.istore_n 2, 1) := by decide +kernel
theorem dX10_needed_126 : decode cX10_needed 126 = .ok (.iinc 4 1, 3) := by decide +kernel
theorem dX10_needed_129 : decode cX10_needed 129 = .ok (.goto (-102), 3) := by decide +kernel
theorem dX10_needed_132 : decode cX10_needed 132 = .ok (.iload_n 2, 1) := by decide +kernel
theorem dX10_needed_133 : decode cX10_needed 133 = .ok (.ireturn, 1) := by decide +kernel
theorem dX10_trail_0 : decode cX10_trail 0 = .ok (.iload_n 1, 1) := by decide +kernel
theorem dX10_trail_1 : decode cX10_trail 1 = .ok (.invokestatic 101, 3) := by decide +kernel
theorem dX10_trail_4 : decode cX10_trail 4 = .ok (.ifCond .ne 6, 3) := by decide +kernel
theorem dX10_trail_7 : decode cX10_trail 7 = .ok (.bipush (-2), 2) := by decide +kernel
theorem dX10_trail_9 : decode cX10_trail 9 = .ok (.ireturn, 1) := by decide +kernel
theorem dX10_trail_10 : decode cX10_trail 10 = .ok (.aload_n 0, 1) := by decide +kernel
theorem dX10_trail_11 : decode cX10_trail 11 = .ok (.getfield 171, 3) := by decide +kernel
theorem dX10_trail_14 : decode cX10_trail 14 = .ok (.bipush 6, 2) := by decide +kernel
theorem dX10_trail_16 : decode cX10_trail 16 = .ok (.if_icmp .ne 6, 3) := by decide +kernel
theorem dX10_trail_19 : decode cX10_trail 19 = .ok (.bipush (-5), 2) := by decide +kernel
theorem dX10_trail_21 : decode cX10_trail 21 = .ok (.ireturn, 1) := by decide +kernel
theorem dX10_trail_22 : decode cX10_trail 22 = .ok (.aload_n 0, 1) := by decide +kernel
theorem dX10_trail_23 : decode cX10_trail 23 = .ok (.getfield 69, 3) := by decide +kernel
theorem dX10_trail_26 : decode cX10_trail 26 = .ok (.aload_n 0, 1) := by decide +kernel
theorem dX10_trail_27 : decode cX10_trail 27 = .ok (.getfield 171, 3) := by decide +kernel
theorem dX10_trail_30 : decode cX10_trail 30 = .ok (.iload_n 2, 1) := by decide +kernel
theorem dX10_trail_31 : decode cX10_trail 31 = .ok (.bastore, 1) := by decide +kernel
theorem dX10_trail_32 : decode cX10_trail 32 = .ok (.aload_n 0, 1) := by decide +kernel
theorem dX10_trail_33 : decode cX10_trail 33 = .ok (.getfield 63, 3) := by decide +kernel
theorem dX10_trail_36 : decode cX10_trail 36 = .ok (.aload_n 0, 1) := by decide +kernel
theorem dX10_trail_37 : decode cX10_trail 37 = .ok (.getfield 171, 3) := by decide +kernel
theorem dX10_trail_40 : decode cX10_trail 40 = .ok (.iconst 1, 1) := by decide +kernel
theorem dX10_trail_41 : decode cX10_trail 41 = .ok (.iastore, 1) := by decide +kernel
theorem dX10_trail_42 : decode cX10_trail 42 = .ok (.aload_n 0, 1) := by decide +kernel
theorem dX10_trail_43 : decode cX10_trail 43 = .ok (.getfield 66, 3) := by decide +kernel
theorem dX10_trail_46 : decode cX10_trail 46 = .ok (.bipush 6, 2) := by decide +kernel
theorem dX10_trail_48 : decode cX10_trail 48 = .ok (.aload_n 0, 1) := by decide +kernel
theorem dX10_trail_49 : decode cX10_trail 49 = .ok (.getfield 171, 3) := by decide +kernel
theorem dX10_trail_52 : decode cX10_trail 52 = .ok (.imul, 1) := by decide +kernel
theorem dX10_trail_53 : decode cX10_trail 53 = .ok (.iload_n 1, 1) := by decide +kernel
theorem dX10_trail_54 : decode cX10_trail 54 = .ok (.iastore, 1) := by decide +kernel
theorem dX10_trail_55 : decode cX10_trail 55 = .ok (.aload_n 0, 1) := by decide +kernel
theorem dX10_trail_56 : decode cX10_trail 56 = .ok (.dup, 1) := by decide +kernel
theorem dX10_trail_57 : decode cX10_trail 57 = .ok (.getfield 171, 3) := by decide +kernel
theorem dX10_trail_60 : decode cX10_trail 60 = .ok (.iconst 1, 1) := by decide +kernel
theorem dX10_trail_61 : decode cX10_trail 61 = .ok (.iadd, 1) := by decide +kernel
theorem dX10_trail_62 : decode cX10_trail 62 = .ok (.putfield 171, 3) := by decide +kernel
theorem dX10_trail_65 : decode cX10_trail 65 = .ok (.aload_n 0, 1) := by decide +kernel
theorem dX10_trail_66 : decode cX10_trail 66 = .ok (.getfield 171, 3) := by decide +kernel
theorem dX10_trail_69 : decode cX10_trail 69 = .ok (.iconst 1, 1) := by decide +kernel
theorem dX10_trail_70 : decode cX10_trail 70 = .ok (.isub, 1) := by decide +kernel
theorem dX10_trail_71 : decode cX10_trail 71 = .ok (.ireturn, 1) := by decide +kernel
theorem dX10_add_0 : decode cX10_add 0 = .ok (.iload_n 1, 1) := by decide +kernel
theorem dX10_add_1 : decode cX10_add 1 = .ok (.iconst 0, 1) := by decide +kernel
theorem dX10_add_2 : decode cX10_add 2 = .ok (.aload_n 0, 1) := by decide +kernel
theorem dX10_add_3 : decode cX10_add 3 = .ok (.getfield 171, 3) := by decide +kernel
theorem dX10_add_6 : decode cX10_add 6 = .ok (.iconst 1, 1) := by decide +kernel
theorem dX10_add_7 : decode cX10_add 7 = .ok (.isub, 1) := by decide +kernel
theorem dX10_add_8 : decode cX10_add 8 = .ok (.invokestatic 90, 3) := by decide +kernel
theorem dX10_add_11 : decode cX10_add 11 = .ok (.ifCond .eq 10, 3) := by decide +kernel
theorem dX10_add_14 : decode cX10_add 14 = .ok (.iload_n 2, 1) := by decide +kernel
theorem dX10_add_15 : decode cX10_add 15 = .ok (.invokestatic 101, 3) := by decide +kernel
theorem dX10_add_18 : decode cX10_add 18 = .ok (.ifCond .ne 6, 3) := by decide +kernel
theorem dX10_add_21 : decode cX10_add 21 = .ok (.bipush (-2), 2) := by decide +kernel
theorem dX10_add_23 : decode cX10_add 23 = .ok (.ireturn, 1) := by decide +kernel
theorem dX10_add_24 : decode cX10_add 24 = .ok (.aload_n 0, 1) := by decide +kernel
theorem dX10_add_25 : decode cX10_add 25 = .ok (.getfield 63, 3) := by decide +kernel
theorem dX10_add_28 : decode cX10_add 28 = .ok (.iload_n 1, 1) := by decide +kernel
theorem dX10_add_29 : decode cX10_add 29 = .ok (.iaload, 1) := by decide +kernel
theorem dX10_add_30 : decode cX10_add 30 = .ok (.istore_n 3, 1) := by decide +kernel
theorem dX10_add_31 : decode cX10_add 31 = .ok (.iconst 0, 1) := by decide +kernel
theorem dX10_add_32 : decode cX10_add 32 = .ok (.istore 4, 2) := by decide +kernel
theorem dX10_add_34 : decode cX10_add 34 = .ok (.iload 4, 2) := by decide +kernel
theorem dX10_add_36 : decode cX10_add 36 = .ok (.iload_n 3, 1) := by decide +kernel
theorem dX10_add_37 : decode cX10_add 37 = .ok (.if_icmp .ge 28, 3) := by decide +kernel
theorem dX10_add_40 : decode cX10_add 40 = .ok (.aload_n 0, 1) := by decide +kernel
theorem dX10_add_41 : decode cX10_add 41 = .ok (.getfield 66, 3) := by decide +kernel
theorem dX10_add_44 : decode cX10_add 44 = .ok (.bipush 6, 2) := by decide +kernel
theorem dX10_add_46 : decode cX10_add 46 = .ok (.iload_n 1, 1) := by decide +kernel
theorem dX10_add_47 : decode cX10_add 47 = .ok (.imul, 1) := by decide +kernel
theorem dX10_add_48 : decode cX10_add 48 = .ok (.iload 4, 2) := by decide +kernel
theorem dX10_add_50 : decode cX10_add 50 = .ok (.iadd, 1) := by decide +kernel
theorem dX10_add_51 : decode cX10_add 51 = .ok (.iaload, 1) := by decide +kernel
theorem dX10_add_52 : decode cX10_add 52 = .ok (.iload_n 2, 1) := by decide +kernel
theorem dX10_add_53 : decode cX10_add 53 = .ok (.if_icmp .ne 6, 3) := by decide +kernel
theorem dX10_add_56 : decode cX10_add 56 = .ok (.bipush (-4), 2) := by decide +kernel
theorem dX10_add_58 : decode cX10_add 58 = .ok (.ireturn, 1) := by decide +kernel
theorem dX10_add_59 : decode cX10_add 59 = .ok (.iinc 4 1, 3) := by decide +kernel
theorem dX10_add_62 : decode cX10_add 62 = .ok (.goto (-28), 3) := by decide +kernel
theorem dX10_add_65 : decode cX10_add 65 = .ok (.aload_n 0, 1) := by decide +kernel
theorem dX10_add_66 : decode cX10_add 66 = .ok (.aload_n 0, 1) := by decide +kernel
theorem dX10_add_67 : decode cX10_add 67 = .ok (.getfield 66, 3) := by decide +kernel
theorem dX10_add_70 : decode cX10_add 70 = .ok (.bipush 6, 2) := by decide +kernel
theorem dX10_add_72 : decode cX10_add 72 = .ok (.iload_n 1, 1) := by decide +kernel
theorem dX10_add_73 : decode cX10_add 73 = .ok (.imul, 1) := by decide +kernel
theorem dX10_add_74 : decode cX10_add 74 = .ok (.iload_n 3, 1) := by decide +kernel
theorem dX10_add_75 : decode cX10_add 75 = .ok (.iadd, 1) := by decide +kernel
theorem dX10_add_76 : decode cX10_add 76 = .ok (.iconst 1, 1) := by decide +kernel
theorem dX10_add_77 : decode cX10_add 77 = .ok (.isub, 1) := by decide +kernel
theorem dX10_add_78 : decode cX10_add 78 = .ok (.iaload, 1) := by decide +kernel
theorem dX10_add_79 : decode cX10_add 79 = .ok (.iload_n 2, 1) := by decide +kernel
theorem dX10_add_80 : decode cX10_add 80 = .ok (.invokevirtual 105, 3) := by decide +kernel
theorem dX10_add_83 : decode cX10_add 83 = .ok (.iconst (-1), 1) := by decide +kernel
theorem dX10_add_84 : decode cX10_add 84 = .ok (.if_icmp .ne 6, 3) := by decide +kernel
theorem dX10_add_87 : decode cX10_add 87 = .ok (.bipush (-4), 2) := by decide +kernel
theorem dX10_add_89 : decode cX10_add 89 = .ok (.ireturn, 1) := by decide +kernel
theorem dX10_add_90 : decode cX10_add 90 = .ok (.iload_n 3, 1) := by decide +kernel
theorem dX10_add_91 : decode cX10_add 91 = .ok (.bipush 6, 2) := by decide +kernel
theorem dX10_add_93 : decode cX10_add 93 = .ok (.if_icmp .ne 6, 3) := by decide +kernel
theorem dX10_add_96 : decode cX10_add 96 = .ok (.bipush (-5), 2) := by decide +kernel
theorem dX10_add_98 : decode cX10_add 98 = .ok (.ireturn, 1) := by decide +kernel
theorem dX10_add_99 : decode cX10_add 99 = .ok (.aload_n 0, 1) := by decide +kernel
theorem dX10_add_100 : decode cX10_add 100 = .ok (.getfield 66, 3) := by decide +kernel
theorem dX10_add_103 : decode cX10_add 103 = .ok (.bipush 6, 2) := by decide +kernel
theorem dX10_add_105 : decode cX10_add 105 = .ok (.iload_n 1, 1) := by decide +kernel
theorem dX10_add_106 : decode cX10_add 106 = .ok (.imul, 1) := by decide +kernel
theorem dX10_add_107 : decode cX10_add 107 = .ok (.iload_n 3, 1) := by decide +kernel
theorem dX10_add_108 : decode cX10_add 108 = .ok (.iadd, 1) := by decide +kernel
theorem dX10_add_109 : decode cX10_add 109 = .ok (.iload_n 2, 1) := by decide +kernel
theorem dX10_add_110 : decode cX10_add 110 = .ok (.iastore, 1) := by decide +kernel
theorem dX10_add_111 : decode cX10_add 111 = .ok (.aload_n 0, 1) := by decide +kernel
theorem dX10_add_112 : decode cX10_add 112 = .ok (.getfield 63, 3) := by decide +kernel
theorem dX10_add_115 : decode cX10_add 115 = .ok (.iload_n 1, 1) := by decide +kernel
theorem dX10_add_116 : decode cX10_add 116 = .ok (.dup2, 1) := by decide +kernel
theorem dX10_add_117 : decode cX10_add 117 = .ok (.iaload, 1) := by decide +kernel
theorem dX10_add_118 : decode cX10_add 118 = .ok (.iconst 1, 1) := by decide +kernel
theorem dX10_add_119 : decode cX10_add 119 = .ok (.iadd, 1) := by decide +kernel
theorem dX10_add_120 : decode cX10_add 120 = .ok (.iastore, 1) := by decide +kernel
theorem dX10_add_121 : decode cX10_add 121 = .ok (.iload_n 3, 1) := by decide +kernel
theorem dX10_add_122 : decode cX10_add 122 = .ok (.iconst 1, 1) := by decide +kernel
theorem dX10_add_123 : decode cX10_add 123 = .ok (.iadd, 1) := by decide +kernel
theorem dX10_add_124 : decode cX10_add 124 = .ok (.ireturn, 1) := by decide +kernel
theorem dX10_isOnRoute_0 : decode cX10_isOnRoute 0 = .ok (.iconst 0, 1) := by decide +kernel
theorem dX10_isOnRoute_1 : decode cX10_isOnRoute 1 = .ok (.istore_n 2, 1) := by decide +kernel
theorem dX10_isOnRoute_2 : decode cX10_isOnRoute 2 = .ok (.iconst 0, 1) := by decide +kernel
theorem dX10_isOnRoute_3 : decode cX10_isOnRoute 3 = .ok (.istore_n 3, 1) := by decide +kernel
theorem dX10_isOnRoute_4 : decode cX10_isOnRoute 4 = .ok (.iload_n 3, 1) := by decide +kernel
theorem dX10_isOnRoute_5 : decode cX10_isOnRoute 5 = .ok (.aload_n 0, 1) := by decide +kernel
theorem dX10_isOnRoute_6 : decode cX10_isOnRoute 6 = .ok (.getfield 162, 3) := by decide +kernel
theorem dX10_isOnRoute_9 : decode cX10_isOnRoute 9 = .ok (.if_icmp .ge 29, 3) := by decide +kernel
theorem dX10_isOnRoute_12 : decode cX10_isOnRoute 12 = .ok (.iload_n 2, 1) := by decide +kernel
theorem dX10_isOnRoute_13 : decode cX10_isOnRoute 13 = .ok (.ifCond .ne 13, 3) := by decide +kernel
theorem dX10_isOnRoute_16 : decode cX10_isOnRoute 16 = .ok (.aload_n 0, 1) := by decide +kernel
theorem dX10_isOnRoute_17 : decode cX10_isOnRoute 17 = .ok (.getfield 60, 3) := by decide +kernel
theorem dX10_isOnRoute_20 : decode cX10_isOnRoute 20 = .ok (.iload_n 3, 1) := by decide +kernel
theorem dX10_isOnRoute_21 : decode cX10_isOnRoute 21 = .ok (.iaload, 1) := by decide +kernel
theorem dX10_isOnRoute_22 : decode cX10_isOnRoute 22 = .ok (.iload_n 1, 1) := by decide +kernel
theorem dX10_isOnRoute_23 : decode cX10_isOnRoute 23 = .ok (.if_icmp .ne 7, 3) := by decide +kernel
theorem dX10_isOnRoute_26 : decode cX10_isOnRoute 26 = .ok (.iconst 1, 1) := by decide +kernel
theorem dX10_isOnRoute_27 : decode cX10_isOnRoute 27 = .ok (.goto 4, 3) := by decide +kernel
theorem dX10_isOnRoute_30 : decode cX10_isOnRoute 30 = .ok (.iconst 0, 1) := by decide +kernel
theorem dX10_isOnRoute_31 : decode cX10_isOnRoute 31 = .ok (.istore_n 2, 1) := by decide +kernel
theorem dX10_isOnRoute_32 : decode cX10_isOnRoute 32 = .ok (.iinc 3 1, 3) := by decide +kernel
theorem dX10_isOnRoute_35 : decode cX10_isOnRoute 35 = .ok (.goto (-31), 3) := by decide +kernel
theorem dX10_isOnRoute_38 : decode cX10_isOnRoute 38 = .ok (.iload_n 2, 1) := by decide +kernel
theorem dX10_isOnRoute_39 : decode cX10_isOnRoute 39 = .ok (.ireturn, 1) := by decide +kernel
theorem dX10_doCross_0 : decode cX10_doCross 0 = .ok (.iconst 0, 1) := by decide +kernel
theorem dX10_doCross_1 : decode cX10_doCross 1 = .ok (.istore_n 3, 1) := by decide +kernel
theorem dX10_doCross_2 : decode cX10_doCross 2 = .ok (.iconst 0, 1) := by decide +kernel
theorem dX10_doCross_3 : decode cX10_doCross 3 = .ok (.istore 4, 2) := by decide +kernel
theorem dX10_doCross_5 : decode cX10_doCross 5 = .ok (.iload 4, 2) := by decide +kernel
theorem dX10_doCross_7 : decode cX10_doCross 7 = .ok (.aload_n 0, 1) := by decide +kernel
theorem dX10_doCross_8 : decode cX10_doCross 8 = .ok (.getfield 63, 3) := by decide +kernel
theorem dX10_doCross_11 : decode cX10_doCross 11 = .ok (.iload_n 1, 1) := by decide +kernel
theorem dX10_doCross_12 : decode cX10_doCross 12 = .ok (.iaload, 1) := by decide +kernel
theorem dX10_doCross_13 : decode cX10_doCross 13 = .ok (.if_icmp .ge 76, 3) := by decide +kernel
theorem dX10_doCross_16 : decode cX10_doCross 16 = .ok (.iconst 0, 1) := by decide +kernel
theorem dX10_doCross_17 : decode cX10_doCross 17 = .ok (.istore 5, 2) := by decide +kernel
theorem dX10_doCross_19 : decode cX10_doCross 19 = .ok (.iload 5, 2) := by decide +kernel
theorem dX10_doCross_21 : decode cX10_doCross 21 = .ok (.aload_n 0, 1) := by decide +kernel
theorem dX10_doCross_22 : decode cX10_doCross 22 = .ok (.getfield 63, 3) := by decide +kernel
theorem dX10_doCross_25 : decode cX10_doCross 25 = .ok (.iload_n 2, 1) := by decide +kernel
theorem dX10_doCross_26 : decode cX10_doCross 26 = .ok (.iaload, 1) := by decide +kernel
theorem dX10_doCross_27 : decode cX10_doCross 27 = .ok (.if_icmp .ge 56, 3) := by decide +kernel
theorem dX10_doCross_30 : decode cX10_doCross 30 = .ok (.iload_n 3, 1) := by decide +kernel
theorem dX10_doCross_31 : decode cX10_doCross 31 = .ok (.ifCond .ne 40, 3) := by decide +kernel
theorem dX10_doCross_34 : decode cX10_doCross 34 = .ok (.aload_n 0, 1) := by decide +kernel
theorem dX10_doCross_35 : decode cX10_doCross 35 = .ok (.getfield 66, 3) := by decide +kernel
theorem dX10_doCross_38 : decode cX10_doCross 38 = .ok (.bipush 6, 2) := by decide +kernel
theorem dX10_doCross_40 : decode cX10_doCross 40 = .ok (.iload_n 1, 1) := by decide +kernel
theorem dX10_doCross_41 : decode cX10_doCross 41 = .ok (.imul, 1) := by decide +kernel
theorem dX10_doCross_42 : decode cX10_doCross 42 = .ok (.iload 4, 2) := by decide +kernel
theorem dX10_doCross_44 : decode cX10_doCross 44 = .ok (.iadd, 1) := by decide +kernel
theorem dX10_doCross_45 : decode cX10_doCross 45 = .ok (.iaload, 1) := by decide +kernel
theorem dX10_doCross_46 : decode cX10_doCross 46 = .ok (.aload_n 0, 1) := by decide +kernel
theorem dX10_doCross_47 : decode cX10_doCross 47 = .ok (.getfield 66, 3) := by decide +kernel
theorem dX10_doCross_50 : decode cX10_doCross 50 = .ok (.bipush 6, 2) := by decide +kernel
theorem dX10_doCross_52 : decode cX10_doCross 52 = .ok (.iload_n 2, 1) := by decide +kernel
theorem dX10_doCross_53 : decode cX10_doCross 53 = .ok (.imul, 1) := by decide +kernel
theorem dX10_doCross_54 : decode cX10_doCross 54 = .ok (.iload 5, 2) := by decide +kernel
theorem dX10_doCross_56 : decode cX10_doCross 56 = .ok (.iadd, 1) := by decide +kernel
theorem dX10_doCross_57 : decode cX10_doCross 57 = .ok (.iaload, 1) := by decide +kernel
theorem dX10_doCross_58 : decode cX10_doCross 58 = .ok (.if_icmp .ne 17, 3) := by decide +kernel
theorem dX10_doCross_61 : decode cX10_doCross 61 = .ok (.iload 4, 2) := by decide +kernel
theorem dX10_doCross_63 : decode cX10_doCross 63 = .ok (.ifCond .gt 8, 3) := by decide +kernel
theorem dX10_doCross_66 : decode cX10_doCross 66 = .ok (.iload 5, 2) := by decide +kernel
theorem dX10_doCross_68 : decode cX10_doCross 68 = .ok (.ifCond .le 7, 3) := by decide +kernel
theorem dX10_doCross_71 : decode cX10_doCross 71 = .ok (.iconst 1, 1) := by decide +kernel
theorem dX10_doCross_72 : decode cX10_doCross 72 = .ok (.goto 4, 3) := by decide +kernel
theorem dX10_doCross_75 : decode cX10_doCross 75 = .ok (.iconst 0, 1) := by decide +kernel
theorem dX10_doCross_76 : decode cX10_doCross 76 = .ok (.istore_n 3, 1) := by decide +kernel
theorem dX10_doCross_77 : decode cX10_doCross 77 = .ok (.iinc 5 1, 3) := by decide +kernel
theorem dX10_doCross_80 : decode cX10_doCross 80 = .ok (.goto (-61), 3) := by decide +kernel
theorem dX10_doCross_83 : decode cX10_doCross 83 = .ok (.iinc 4 1, 3) := by decide +kernel
theorem dX10_doCross_86 : decode cX10_doCross 86 = .ok (.goto (-81), 3) := by decide +kernel
theorem dX10_doCross_89 : decode cX10_doCross 89 = .ok (.iload_n 3, 1) := by decide +kernel
theorem dX10_doCross_90 : decode cX10_doCross 90 = .ok (.ireturn, 1) := by decide +kernel
theorem dX10_breaks_0 : decode cX10_breaks 0 = .ok (.iload_n 1, 1) := by decide +kernel
theorem dX10_breaks_1 : decode cX10_breaks 1 = .ok (.iconst 0, 1) := by decide +kernel
theorem dX10_breaks_2 : decode cX10_breaks 2 = .ok (.aload_n 0, 1) := by decide +kernel
theorem dX10_breaks_3 : decode cX10_breaks 3 = .ok (.getfield 171, 3) := by decide +kernel
theorem dX10_breaks_6 : decode cX10_breaks 6 = .ok (.iconst 1, 1) := by decide +kernel
theorem dX10_breaks_7 : decode cX10_breaks 7 = .ok (.isub, 1) := by decide +kernel
theorem dX10_breaks_8 : decode cX10_breaks 8 = .ok (.invokestatic 90, 3) := by decide +kernel
theorem dX10_breaks_11 : decode cX10_breaks 11 = .ok (.ifCond .ne 6, 3) := by decide +kernel
theorem dX10_breaks_14 : decode cX10_breaks 14 = .ok (.bipush (-2), 2) := by decide +kernel
theorem dX10_breaks_16 : decode cX10_breaks 16 = .ok (.ireturn, 1) := by decide +kernel
theorem dX10_breaks_17 : decode cX10_breaks 17 = .ok (.aload_n 0, 1) := by decide +kernel
theorem dX10_breaks_18 : decode cX10_breaks 18 = .ok (.getfield 69, 3) := by decide +kernel
theorem dX10_breaks_21 : decode cX10_breaks 21 = .ok (.iload_n 1, 1) := by decide +kernel
theorem dX10_breaks_22 : decode cX10_breaks 22 = .ok (.baload, 1) := by decide +kernel
theorem dX10_breaks_23 : decode cX10_breaks 23 = .ok (.ifCond .ne 5, 3) := by decide +kernel
theorem dX10_breaks_26 : decode cX10_breaks 26 = .ok (.iconst 0, 1) := by decide +kernel
theorem dX10_breaks_27 : decode cX10_breaks 27 = .ok (.ireturn, 1) := by decide +kernel
theorem dX10_breaks_28 : decode cX10_breaks 28 = .ok (.aload_n 0, 1) := by decide +kernel
theorem dX10_breaks_29 : decode cX10_breaks 29 = .ok (.aload_n 0, 1) := by decide +kernel
theorem dX10_breaks_30 : decode cX10_breaks 30 = .ok (.getfield 66, 3) := by decide +kernel
theorem dX10_breaks_33 : decode cX10_breaks 33 = .ok (.bipush 6, 2) := by decide +kernel
theorem dX10_breaks_35 : decode cX10_breaks 35 = .ok (.iload_n 1, 1) := by decide +kernel
theorem dX10_breaks_36 : decode cX10_breaks 36 = .ok (.imul, 1) := by decide +kernel
theorem dX10_breaks_37 : decode cX10_breaks 37 = .ok (.iaload, 1) := by decide +kernel
theorem dX10_breaks_38 : decode cX10_breaks 38 = .ok (.invokevirtual 174, 3) := by decide +kernel
theorem dX10_breaks_41 : decode cX10_breaks 41 = .ok (.ifCond .eq 7, 3) := by decide +kernel
theorem dX10_breaks_44 : decode cX10_breaks 44 = .ok (.iconst 0, 1) := by decide +kernel
theorem dX10_breaks_45 : decode cX10_breaks 45 = .ok (.goto 4, 3) := by decide +kernel
theorem dX10_breaks_48 : decode cX10_breaks 48 = .ok (.iconst 1, 1) := by decide +kernel
theorem dX10_breaks_49 : decode cX10_breaks 49 = .ok (.istore_n 2, 1) := by decide +kernel
theorem dX10_breaks_50 : decode cX10_breaks 50 = .ok (.iconst 0, 1) := by decide +kernel
theorem dX10_breaks_51 : decode cX10_breaks 51 = .ok (.istore_n 3, 1) := by decide +kernel
theorem dX10_breaks_52 : decode cX10_breaks 52 = .ok (.iconst 1, 1) := by decide +kernel
theorem dX10_breaks_53 : decode cX10_breaks 53 = .ok (.istore 4, 2) := by decide +kernel
theorem dX10_breaks_55 : decode cX10_breaks 55 = .ok (.iload 4, 2) := by decide +kernel
theorem dX10_breaks_57 : decode cX10_breaks 57 = .ok (.aload_n 0, 1) := by decide +kernel
theorem dX10_breaks_58 : decode cX10_breaks 58 = .ok (.getfield 63, 3) := by decide +kernel
theorem dX10_breaks_61 : decode cX10_breaks 61 = .ok (.iload_n 1, 1) := by decide +kernel
theorem dX10_breaks_62 : decode cX10_breaks 62 = .ok (.iaload, 1) := by decide +kernel
theorem dX10_breaks_63 : decode cX10_breaks 63 = .ok (.if_icmp .ge 74, 3) := by decide +kernel
theorem dX10_breaks_66 : decode cX10_breaks 66 = .ok (.iload_n 2, 1) := by decide +kernel
theorem dX10_breaks_67 : decode cX10_breaks 67 = .ok (.aload_n 0, 1) := by decide +kernel
theorem dX10_breaks_68 : decode cX10_breaks 68 = .ok (.aload_n 0, 1) := by decide +kernel
theorem dX10_breaks_69 : decode cX10_breaks 69 = .ok (.getfield 66, 3) := by decide +kernel
theorem dX10_breaks_72 : decode cX10_breaks 72 = .ok (.bipush 6, 2) := by decide +kernel
theorem dX10_breaks_74 : decode cX10_breaks 74 = .ok (.iload_n 1, 1) := by decide +kernel
theorem dX10_breaks_75 : decode cX10_breaks 75 = .ok (.imul, 1) := by decide +kernel
theorem dX10_breaks_76 : decode cX10_breaks 76 = .ok (.iload 4, 2) := by decide +kernel
theorem dX10_breaks_78 : decode cX10_breaks 78 = .ok (.iadd, 1) := by decide +kernel
theorem dX10_breaks_79 : decode cX10_breaks 79 = .ok (.iaload, 1) := by decide +kernel
theorem dX10_breaks_80 : decode cX10_breaks 80 = .ok (.invokevirtual 174, 3) := by decide +kernel
theorem dX10_breaks_83 : decode cX10_breaks 83 = .ok (.ifCond .eq 7, 3) := by decide +kernel
theorem dX10_breaks_86 : decode cX10_breaks 86 = .ok (.iconst 2, 1) := by decide +kernel
theorem dX10_breaks_87 : decode cX10_breaks 87 = .ok (.goto 4, 3) := by decide +kernel
theorem dX10_breaks_90 : decode cX10_breaks 90 = .ok (.iconst 0, 1) := by decide +kernel
theorem dX10_breaks_91 : decode cX10_breaks 91 = .ok (.ior, 1) := by decide +kernel
theorem dX10_breaks_92 : decode cX10_breaks 92 = .ok (.istore_n 2, 1) := by decide +kernel
theorem dX10_breaks_93 : decode cX10_breaks 93 = .ok (.iload_n 3, 1) := by decide +kernel
theorem dX10_breaks_94 : decode cX10_breaks 94 = .ok (.aload_n 0, 1) := by decide +kernel
theorem dX10_breaks_95 : decode cX10_breaks 95 = .ok (.getfield 16, 3) := by decide +kernel
theorem dX10_breaks_98 : decode cX10_breaks 98 = .ok (.aload_n 0, 1) := by decide +kernel
theorem dX10_breaks_99 : decode cX10_breaks 99 = .ok (.aload_n 0, 1) := by decide +kernel
theorem dX10_breaks_100 : decode cX10_breaks 100 = .ok (.getfield 66, 3) := by decide +kernel
theorem dX10_breaks_103 : decode cX10_breaks 103 = .ok (.bipush 6, 2) := by decide +kernel
theorem dX10_breaks_105 : decode cX10_breaks 105 = .ok (.iload_n 1, 1) := by decide +kernel
theorem dX10_breaks_106 : decode cX10_breaks 106 = .ok (.imul, 1) := by decide +kernel
theorem dX10_breaks_107 : decode cX10_breaks 107 = .ok (.iload 4, 2) := by decide +kernel
theorem dX10_breaks_109 : decode cX10_breaks 109 = .ok (.iadd, 1) := by decide +kernel
theorem dX10_breaks_110 : decode cX10_breaks 110 = .ok (.iconst 1, 1) := by decide +kernel
theorem dX10_breaks_111 : decode cX10_breaks 111 = .ok (.isub, 1) := by decide +kernel
theorem dX10_breaks_112 : decode cX10_breaks 112 = .ok (.iaload, 1) := by decide +kernel
theorem dX10_breaks_113 : decode cX10_breaks 113 = .ok (.aload_n 0, 1) := by decide +kernel
theorem dX10_breaks_114 : decode cX10_breaks 114 = .ok (.getfield 66, 3) := by decide +kernel
theorem dX10_breaks_117 : decode cX10_breaks 117 = .ok (.bipush 6, 2) := by decide +kernel
theorem dX10_breaks_119 : decode cX10_breaks 119 = .ok (.iload_n 1, 1) := by decide +kernel
theorem dX10_breaks_120 : decode cX10_breaks 120 = .ok (.imul, 1) := by decide +kernel
theorem dX10_breaks_121 : decode cX10_breaks 121 = .ok (.iload 4, 2) := by decide +kernel
theorem dX10_breaks_123 : decode cX10_breaks 123 = .ok (.iadd, 1) := by decide +kernel
theorem dX10_breaks_124 : decode cX10_breaks 124 = .ok (.iaload, 1) := by decide +kernel
theorem dX10_breaks_125 : decode cX10_breaks 125 = .ok (.invokevirtual 105, 3) := by decide +kernel
theorem dX10_breaks_128 : decode cX10_breaks 128 = .ok (.iaload, 1) := by decide +kernel
theorem dX10_breaks_129 : decode cX10_breaks 129 = .ok (.iadd, 1) := by decide +kernel
theorem dX10_breaks_130 : decode cX10_breaks 130 = .ok (.istore_n 3, 1) := by decide +kernel
theorem dX10_breaks_131 : decode cX10_breaks 131 = .ok (.iinc 4 1, 3) := by decide +kernel
theorem dX10_breaks_134 : decode cX10_breaks 134 = .ok (.goto (-79), 3) := by decide +kernel
theorem dX10_breaks_137 : decode cX10_breaks 137 = .ok (.iload_n 2, 1) := by decide +kernel
theorem dX10_breaks_138 : decode cX10_breaks 138 = .ok (.iload_n 3, 1) := by decide +kernel
theorem dX10_breaks_139 : decode cX10_breaks 139 = .ok (.aload_n 0, 1) := by decide +kernel
theorem dX10_breaks_140 : decode cX10_breaks 140 = .ok (.getfield 44, 3) := by decide +kernel
theorem dX10_breaks_143 : decode cX10_breaks 143 = .ok (.if_icmp .le 7, 3) := by decide +kernel
theorem dX10_breaks_146 : decode cX10_breaks 146 = .ok (.iconst 4, 1) := by decide +kernel
theorem dX10_breaks_147 : decode cX10_breaks 147 = .ok (.goto 4, 3) := by decide +kernel
theorem dX10_breaks_150 : decode cX10_breaks 150 = .ok (.iconst 0, 1) := by decide +kernel
theorem dX10_breaks_151 : decode cX10_breaks 151 = .ok (.ior, 1) := by decide +kernel
theorem dX10_breaks_152 : decode cX10_breaks 152 = .ok (.istore_n 2, 1) := by decide +kernel
theorem dX10_breaks_153 : decode cX10_breaks 153 = .ok (.iconst 0, 1) := by decide +kernel
theorem dX10_breaks_154 : decode cX10_breaks 154 = .ok (.istore 4, 2) := by decide +kernel
theorem dX10_breaks_156 : decode cX10_breaks 156 = .ok (.iload 4, 2) := by decide +kernel
theorem dX10_breaks_158 : decode cX10_breaks 158 = .ok (.aload_n 0, 1) := by decide +kernel
theorem dX10_breaks_159 : decode cX10_breaks 159 = .ok (.getfield 171, 3) := by decide +kernel
theorem dX10_breaks_162 : decode cX10_breaks 162 = .ok (.if_icmp .ge 44, 3) := by decide +kernel
theorem dX10_breaks_165 : decode cX10_breaks 165 = .ok (.iload_n 2, 1) := by decide +kernel
theorem dX10_breaks_166 : decode cX10_breaks 166 = .ok (.iload 4, 2) := by decide +kernel
theorem dX10_breaks_168 : decode cX10_breaks 168 = .ok (.iload_n 1, 1) := by decide +kernel
theorem dX10_breaks_169 : decode cX10_breaks 169 = .ok (.if_icmp .eq 28, 3) := by decide +kernel
theorem dX10_breaks_172 : decode cX10_breaks 172 = .ok (.aload_n 0, 1) := by decide +kernel
theorem dX10_breaks_173 : decode cX10_breaks 173 = .ok (.getfield 69, 3) := by decide +kernel
theorem dX10_breaks_176 : decode cX10_breaks 176 = .ok (.iload 4, 2) := by decide +kernel
theorem dX10_breaks_178 : decode cX10_breaks 178 = .ok (.baload, 1) := by decide +kernel
theorem dX10_breaks_179 : decode cX10_breaks 179 = .ok (.ifCond .eq 18, 3) := by decide +kernel
theorem dX10_breaks_182 : decode cX10_breaks 182 = .ok (.aload_n 0, 1) := by decide +kernel
theorem dX10_breaks_183 : decode cX10_breaks 183 = .ok (.iload_n 1, 1) := by decide +kernel
theorem dX10_breaks_184 : decode cX10_breaks 184 = .ok (.iload 4, 2) := by decide +kernel
theorem dX10_breaks_186 : decode cX10_breaks 186 = .ok (.invokevirtual 177, 3) := by decide +kernel
theorem dX10_breaks_189 : decode cX10_breaks 189 = .ok (.ifCond .eq 8, 3) := by decide +kernel
theorem dX10_breaks_192 : decode cX10_breaks 192 = .ok (.bipush 8, 2) := by decide +kernel
theorem dX10_breaks_194 : decode cX10_breaks 194 = .ok (.goto 4, 3) := by decide +kernel
theorem dX10_breaks_197 : decode cX10_breaks 197 = .ok (.iconst 0, 1) := by decide +kernel
theorem dX10_breaks_198 : decode cX10_breaks 198 = .ok (.ior, 1) := by decide +kernel
theorem dX10_breaks_199 : decode cX10_breaks 199 = .ok (.istore_n 2, 1) := by decide +kernel
theorem dX10_breaks_200 : decode cX10_breaks 200 = .ok (.iinc 4 1, 3) := by decide +kernel
theorem dX10_breaks_203 : decode cX10_breaks 203 = .ok (.goto (-47), 3) := by decide +kernel
theorem dX10_breaks_206 : decode cX10_breaks 206 = .ok (.iload_n 2, 1) := by decide +kernel
theorem dX10_breaks_207 : decode cX10_breaks 207 = .ok (.ireturn, 1) := by decide +kernel
theorem dX10_branch_0 : decode cX10_branch 0 = .ok (.iload_n 1, 1) := by decide +kernel
theorem dX10_branch_1 : decode cX10_branch 1 = .ok (.iconst 1, 1) := by decide +kernel
theorem dX10_branch_2 : decode cX10_branch 2 = .ok (.bipush 20, 2) := by decide +kernel
theorem dX10_branch_4 : decode cX10_branch 4 = .ok (.invokestatic 90, 3) := by decide +kernel
theorem dX10_branch_7 : decode cX10_branch 7 = .ok (.ifCond .ne 6, 3) := by decide +kernel
theorem dX10_branch_10 : decode cX10_branch 10 = .ok (.bipush (-3), 2) := by decide +kernel
theorem dX10_branch_12 : decode cX10_branch 12 = .ok (.ireturn, 1) := by decide +kernel
theorem dX10_branch_13 : decode cX10_branch 13 = .ok (.aload_n 0, 1) := by decide +kernel
theorem dX10_branch_14 : decode cX10_branch 14 = .ok (.getfield 180, 3) := by decide +kernel
theorem dX10_branch_17 : decode cX10_branch 17 = .ok (.iconst 5, 1) := by decide +kernel
theorem dX10_branch_18 : decode cX10_branch 18 = .ok (.if_icmp .ne 6, 3) := by decide +kernel
theorem dX10_branch_21 : decode cX10_branch 21 = .ok (.bipush (-5), 2) := by decide +kernel
theorem dX10_branch_23 : decode cX10_branch 23 = .ok (.ireturn, 1) := by decide +kernel
theorem dX10_branch_24 : decode cX10_branch 24 = .ok (.aload_n 0, 1) := by decide +kernel
theorem dX10_branch_25 : decode cX10_branch 25 = .ok (.getfield 72, 3) := by decide +kernel
theorem dX10_branch_28 : decode cX10_branch 28 = .ok (.aload_n 0, 1) := by decide +kernel
theorem dX10_branch_29 : decode cX10_branch 29 = .ok (.getfield 180, 3) := by decide +kernel
theorem dX10_branch_32 : decode cX10_branch 32 = .ok (.iload_n 1, 1) := by decide +kernel
theorem dX10_branch_33 : decode cX10_branch 33 = .ok (.iastore, 1) := by decide +kernel
theorem dX10_branch_34 : decode cX10_branch 34 = .ok (.aload_n 0, 1) := by decide +kernel
theorem dX10_branch_35 : decode cX10_branch 35 = .ok (.dup, 1) := by decide +kernel
theorem dX10_branch_36 : decode cX10_branch 36 = .ok (.getfield 180, 3) := by decide +kernel
theorem dX10_branch_39 : decode cX10_branch 39 = .ok (.iconst 1, 1) := by decide +kernel
theorem dX10_branch_40 : decode cX10_branch 40 = .ok (.iadd, 1) := by decide +kernel
theorem dX10_branch_41 : decode cX10_branch 41 = .ok (.putfield 180, 3) := by decide +kernel
theorem dX10_branch_44 : decode cX10_branch 44 = .ok (.aload_n 0, 1) := by decide +kernel
theorem dX10_branch_45 : decode cX10_branch 45 = .ok (.getfield 180, 3) := by decide +kernel
theorem dX10_branch_48 : decode cX10_branch 48 = .ok (.ireturn, 1) := by decide +kernel
theorem dX10_unbranch_0 : decode cX10_unbranch 0 = .ok (.aload_n 0, 1) := by decide +kernel
theorem dX10_unbranch_1 : decode cX10_unbranch 1 = .ok (.getfield 180, 3) := by decide +kernel
theorem dX10_unbranch_4 : decode cX10_unbranch 4 = .ok (.istore_n 1, 1) := by decide +kernel
theorem dX10_unbranch_5 : decode cX10_unbranch 5 = .ok (.aload_n 0, 1) := by decide +kernel
theorem dX10_unbranch_6 : decode cX10_unbranch 6 = .ok (.iconst 0, 1) := by decide +kernel
theorem dX10_unbranch_7 : decode cX10_unbranch 7 = .ok (.putfield 180, 3) := by decide +kernel
theorem dX10_unbranch_10 : decode cX10_unbranch 10 = .ok (.iload_n 1, 1) := by decide +kernel
theorem dX10_unbranch_11 : decode cX10_unbranch 11 = .ok (.ireturn, 1) := by decide +kernel
theorem dX10_houndOf_0 : decode cX10_houndOf 0 = .ok (.iload_n 1, 1) := by decide +kernel
theorem dX10_houndOf_1 : decode cX10_houndOf 1 = .ok (.istore 4, 2) := by decide +kernel
theorem dX10_houndOf_3 : decode cX10_houndOf 3 = .ok (.aload_n 0, 1) := by decide +kernel
theorem dX10_houndOf_4 : decode cX10_houndOf 4 = .ok (.getfield 180, 3) := by decide +kernel
theorem dX10_houndOf_7 : decode cX10_houndOf 7 = .ok (.iconst 1, 1) := by decide +kernel
theorem dX10_houndOf_8 : decode cX10_houndOf 8 = .ok (.isub, 1) := by decide +kernel
theorem dX10_houndOf_9 : decode cX10_houndOf 9 = .ok (.istore 5, 2) := by decide +kernel
theorem dX10_houndOf_11 : decode cX10_houndOf 11 = .ok (.iload 5, 2) := by decide +kernel
theorem dX10_houndOf_13 : decode cX10_houndOf 13 = .ok (.iload_n 3, 1) := by decide +kernel
theorem dX10_houndOf_14 : decode cX10_houndOf 14 = .ok (.if_icmp .le 15, 3) := by decide +kernel
theorem dX10_houndOf_17 : decode cX10_houndOf 17 = .ok (.iload 4, 2) := by decide +kernel
theorem dX10_houndOf_19 : decode cX10_houndOf 19 = .ok (.iload_n 2, 1) := by decide +kernel
theorem dX10_houndOf_20 : decode cX10_houndOf 20 = .ok (.idiv, 1) := by decide +kernel
theorem dX10_houndOf_21 : decode cX10_houndOf 21 = .ok (.istore 4, 2) := by decide +kernel
theorem dX10_houndOf_23 : decode cX10_houndOf 23 = .ok (.iinc 5 (-1), 3) := by decide +kernel
theorem dX10_houndOf_26 : decode cX10_houndOf 26 = .ok (.goto (-15), 3) := by decide +kernel
theorem dX10_houndOf_29 : decode cX10_houndOf 29 = .ok (.iload 4, 2) := by decide +kernel
theorem dX10_houndOf_31 : decode cX10_houndOf 31 = .ok (.iload_n 2, 1) := by decide +kernel
theorem dX10_houndOf_32 : decode cX10_houndOf 32 = .ok (.irem, 1) := by decide +kernel
theorem dX10_houndOf_33 : decode cX10_houndOf 33 = .ok (.ireturn, 1) := by decide +kernel
theorem dX10_foundAt_0 : decode cX10_foundAt 0 = .ok (.aload_n 0, 1) := by decide +kernel
theorem dX10_foundAt_1 : decode cX10_foundAt 1 = .ok (.getfield 72, 3) := by decide +kernel
theorem dX10_foundAt_4 : decode cX10_foundAt 4 = .ok (.iload_n 3, 1) := by decide +kernel
theorem dX10_foundAt_5 : decode cX10_foundAt 5 = .ok (.iaload, 1) := by decide +kernel
theorem dX10_foundAt_6 : decode cX10_foundAt 6 = .ok (.istore 4, 2) := by decide +kernel
theorem dX10_foundAt_8 : decode cX10_foundAt 8 = .ok (.iconst 0, 1) := by decide +kernel
theorem dX10_foundAt_9 : decode cX10_foundAt 9 = .ok (.istore 5, 2) := by decide +kernel
theorem dX10_foundAt_11 : decode cX10_foundAt 11 = .ok (.iload 5, 2) := by decide +kernel
theorem dX10_foundAt_13 : decode cX10_foundAt 13 = .ok (.aload_n 0, 1) := by decide +kernel
theorem dX10_foundAt_14 : decode cX10_foundAt 14 = .ok (.getfield 180, 3) := by decide +kernel
theorem dX10_foundAt_17 : decode cX10_foundAt 17 = .ok (.if_icmp .ge 95, 3) := by decide +kernel
theorem dX10_foundAt_20 : decode cX10_foundAt 20 = .ok (.aload_n 0, 1) := by decide +kernel
theorem dX10_foundAt_21 : decode cX10_foundAt 21 = .ok (.getfield 72, 3) := by decide +kernel
theorem dX10_foundAt_24 : decode cX10_foundAt 24 = .ok (.iload 5, 2) := by decide +kernel
theorem dX10_foundAt_26 : decode cX10_foundAt 26 = .ok (.iaload, 1) := by decide +kernel
theorem dX10_foundAt_27 : decode cX10_foundAt 27 = .ok (.aload_n 0, 1) := by decide +kernel
theorem dX10_foundAt_28 : decode cX10_foundAt 28 = .ok (.getfield 72, 3) := by decide +kernel
theorem dX10_foundAt_31 : decode cX10_foundAt 31 = .ok (.iload_n 3, 1) := by decide +kernel
theorem dX10_foundAt_32 : decode cX10_foundAt 32 = .ok (.iaload, 1) := by decide +kernel
theorem dX10_foundAt_33 : decode cX10_foundAt 33 = .ok (.if_icmp .lt 25, 3) := by decide +kernel
theorem dX10_foundAt_36 : decode cX10_foundAt 36 = .ok (.aload_n 0, 1) := by decide +kernel
theorem dX10_foundAt_37 : decode cX10_foundAt 37 = .ok (.getfield 72, 3) := by decide +kernel
theorem dX10_foundAt_40 : decode cX10_foundAt 40 = .ok (.iload 5, 2) := by decide +kernel
theorem dX10_foundAt_42 : decode cX10_foundAt 42 = .ok (.iaload, 1) := by decide +kernel
theorem dX10_foundAt_43 : decode cX10_foundAt 43 = .ok (.aload_n 0, 1) := by decide +kernel
theorem dX10_foundAt_44 : decode cX10_foundAt 44 = .ok (.getfield 72, 3) := by decide +kernel
theorem dX10_foundAt_47 : decode cX10_foundAt 47 = .ok (.iload_n 3, 1) := by decide +kernel
theorem dX10_foundAt_48 : decode cX10_foundAt 48 = .ok (.iaload, 1) := by decide +kernel
theorem dX10_foundAt_49 : decode cX10_foundAt 49 = .ok (.if_icmp .ne 13, 3) := by decide +kernel
theorem dX10_foundAt_52 : decode cX10_foundAt 52 = .ok (.iload 5, 2) := by decide +kernel
theorem dX10_foundAt_54 : decode cX10_foundAt 54 = .ok (.iload_n 3, 1) := by decide +kernel
theorem dX10_foundAt_55 : decode cX10_foundAt 55 = .ok (.if_icmp .ge 7, 3) := by decide +kernel
theorem dX10_foundAt_58 : decode cX10_foundAt 58 = .ok (.iconst 1, 1) := by decide +kernel
theorem dX10_foundAt_59 : decode cX10_foundAt 59 = .ok (.goto 4, 3) := by decide +kernel
theorem dX10_foundAt_62 : decode cX10_foundAt 62 = .ok (.iconst 0, 1) := by decide +kernel
theorem dX10_foundAt_63 : decode cX10_foundAt 63 = .ok (.istore 6, 2) := by decide +kernel
theorem dX10_foundAt_65 : decode cX10_foundAt 65 = .ok (.iload 4, 2) := by decide +kernel
theorem dX10_foundAt_67 : decode cX10_foundAt 67 = .ok (.iload 6, 2) := by decide +kernel
theorem dX10_foundAt_69 : decode cX10_foundAt 69 = .ok (.ifCond .eq 33, 3) := by decide +kernel
theorem dX10_foundAt_72 : decode cX10_foundAt 72 = .ok (.aload_n 0, 1) := by decide +kernel
theorem dX10_foundAt_73 : decode cX10_foundAt 73 = .ok (.iload_n 1, 1) := by decide +kernel
theorem dX10_foundAt_74 : decode cX10_foundAt 74 = .ok (.iload_n 2, 1) := by decide +kernel
theorem dX10_foundAt_75 : decode cX10_foundAt 75 = .ok (.iload 5, 2) := by decide +kernel
theorem dX10_foundAt_77 : decode cX10_foundAt 77 = .ok (.invokevirtual 183, 3) := by decide +kernel
theorem dX10_foundAt_80 : decode cX10_foundAt 80 = .ok (.aload_n 0, 1) := by decide +kernel
theorem dX10_foundAt_81 : decode cX10_foundAt 81 = .ok (.iload_n 1, 1) := by decide +kernel
theorem dX10_foundAt_82 : decode cX10_foundAt 82 = .ok (.iload_n 2, 1) := by decide +kernel
theorem dX10_foundAt_83 : decode cX10_foundAt 83 = .ok (.iload_n 3, 1) := by decide +kernel
theorem dX10_foundAt_84 : decode cX10_foundAt 84 = .ok (.invokevirtual 183, 3) := by decide +kernel
theorem dX10_foundAt_87 : decode cX10_foundAt 87 = .ok (.if_icmp .ne 15, 3) := by decide +kernel
theorem dX10_foundAt_90 : decode cX10_foundAt 90 = .ok (.iconst 2, 1) := by decide +kernel
theorem dX10_foundAt_91 : decode cX10_foundAt 91 = .ok (.aload_n 0, 1) := by decide +kernel
theorem dX10_foundAt_92 : decode cX10_foundAt 92 = .ok (.getfield 72, 3) := by decide +kernel
theorem dX10_foundAt_95 : decode cX10_foundAt 95 = .ok (.iload 5, 2) := by decide +kernel
theorem dX10_foundAt_97 : decode cX10_foundAt 97 = .ok (.iaload, 1) := by decide +kernel
theorem dX10_foundAt_98 : decode cX10_foundAt 98 = .ok (.imul, 1) := by decide +kernel
theorem dX10_foundAt_99 : decode cX10_foundAt 99 = .ok (.goto 4, 3) := by decide +kernel
theorem dX10_foundAt_102 : decode cX10_foundAt 102 = .ok (.iconst 0, 1) := by decide +kernel
theorem dX10_foundAt_103 : decode cX10_foundAt 103 = .ok (.iadd, 1) := by decide +kernel
theorem dX10_foundAt_104 : decode cX10_foundAt 104 = .ok (.istore 4, 2) := by decide +kernel
theorem dX10_foundAt_106 : decode cX10_foundAt 106 = .ok (.iinc 5 1, 3) := by decide +kernel
theorem dX10_foundAt_109 : decode cX10_foundAt 109 = .ok (.goto (-98), 3) := by decide +kernel
theorem dX10_foundAt_112 : decode cX10_foundAt 112 = .ok (.iload 4, 2) := by decide +kernel
theorem dX10_foundAt_114 : decode cX10_foundAt 114 = .ok (.ireturn, 1) := by decide +kernel
theorem dX10_findSplit_0 : decode cX10_findSplit 0 = .ok (.iconst 1, 1) := by decide +kernel
theorem dX10_findSplit_1 : decode cX10_findSplit 1 = .ok (.istore_n 2, 1) := by decide +kernel
theorem dX10_findSplit_2 : decode cX10_findSplit 2 = .ok (.iconst 0, 1) := by decide +kernel
theorem dX10_findSplit_3 : decode cX10_findSplit 3 = .ok (.istore_n 3, 1) := by decide +kernel
theorem dX10_findSplit_4 : decode cX10_findSplit 4 = .ok (.iload_n 3, 1) := by decide +kernel
theorem dX10_findSplit_5 : decode cX10_findSplit 5 = .ok (.aload_n 0, 1) := by decide +kernel
theorem dX10_findSplit_6 : decode cX10_findSplit 6 = .ok (.getfield 180, 3) := by decide +kernel
theorem dX10_findSplit_9 : decode cX10_findSplit 9 = .ok (.if_icmp .ge 13, 3) := by decide +kernel
theorem dX10_findSplit_12 : decode cX10_findSplit 12 = .ok (.iload_n 2, 1) := by decide +kernel
theorem dX10_findSplit_13 : decode cX10_findSplit 13 = .ok (.iload_n 1, 1) := by decide +kernel
theorem dX10_findSplit_14 : decode cX10_findSplit 14 = .ok (.imul, 1) := by decide +kernel
theorem dX10_findSplit_15 : decode cX10_findSplit 15 = .ok (.istore_n 2, 1) := by decide +kernel
theorem dX10_findSplit_16 : decode cX10_findSplit 16 = .ok (.iinc 3 1, 3) := by decide +kernel
theorem dX10_findSplit_19 : decode cX10_findSplit 19 = .ok (.goto (-15), 3) := by decide +kernel
theorem dX10_findSplit_22 : decode cX10_findSplit 22 = .ok (.iconst 0, 1) := by decide +kernel
theorem dX10_findSplit_23 : decode cX10_findSplit 23 = .ok (.istore_n 3, 1) := by decide +kernel
theorem dX10_findSplit_24 : decode cX10_findSplit 24 = .ok (.aload_n 0, 1) := by decide +kernel
theorem dX10_findSplit_25 : decode cX10_findSplit 25 = .ok (.iconst (-1), 1) := by decide +kernel
theorem dX10_findSplit_26 : decode cX10_findSplit 26 = .ok (.putfield 187, 3) := by decide +kernel
theorem dX10_findSplit_29 : decode cX10_findSplit 29 = .ok (.iconst 0, 1) := by decide +kernel
theorem dX10_findSplit_30 : decode cX10_findSplit 30 = .ok (.istore 4, 2) := by decide +kernel
theorem dX10_findSplit_32 : decode cX10_findSplit 32 = .ok (.iload 4, 2) := by decide +kernel
theorem dX10_findSplit_34 : decode cX10_findSplit 34 = .ok (.iload_n 2, 1) := by decide +kernel
theorem dX10_findSplit_35 : decode cX10_findSplit 35 = .ok (.if_icmp .ge 111, 3) := by decide +kernel
theorem dX10_findSplit_38 : decode cX10_findSplit 38 = .ok (.iconst 0, 1) := by decide +kernel
theorem dX10_findSplit_39 : decode cX10_findSplit 39 = .ok (.istore 5, 2) := by decide +kernel
theorem dX10_findSplit_41 : decode cX10_findSplit 41 = .ok (.iconst 0, 1) := by decide +kernel
theorem dX10_findSplit_42 : decode cX10_findSplit 42 = .ok (.istore 6, 2) := by decide +kernel
theorem dX10_findSplit_44 : decode cX10_findSplit 44 = .ok (.iload 6, 2) := by decide +kernel
theorem dX10_findSplit_46 : decode cX10_findSplit 46 = .ok (.aload_n 0, 1) := by decide +kernel
theorem dX10_findSplit_47 : decode cX10_findSplit 47 = .ok (.getfield 180, 3) := by decide +kernel
theorem dX10_findSplit_50 : decode cX10_findSplit 50 = .ok (.if_icmp .ge 36, 3) := by decide +kernel
theorem dX10_findSplit_53 : decode cX10_findSplit 53 = .ok (.aload_n 0, 1) := by decide +kernel
theorem dX10_findSplit_54 : decode cX10_findSplit 54 = .ok (.iload 4, 2) := by decide +kernel
theorem dX10_findSplit_56 : decode cX10_findSplit 56 = .ok (.iload_n 1, 1) := by decide +kernel
theorem dX10_findSplit_57 : decode cX10_findSplit 57 = .ok (.iload 6, 2) := by decide +kernel
theorem dX10_findSplit_59 : decode cX10_findSplit 59 = .ok (.invokevirtual 190, 3) := by decide +kernel
theorem dX10_findSplit_62 : decode cX10_findSplit 62 = .ok (.istore 7, 2) := by decide +kernel
theorem dX10_findSplit_64 : decode cX10_findSplit 64 = .ok (.iload 7, 2) := by decide +kernel
theorem dX10_findSplit_66 : decode cX10_findSplit 66 = .ok (.iload 5, 2) := by decide +kernel
theorem dX10_findSplit_68 : decode cX10_findSplit 68 = .ok (.if_icmp .le 8, 3) := by decide +kernel
theorem dX10_findSplit_71 : decode cX10_findSplit 71 = .ok (.iload 7, 2) := by decide +kernel
theorem dX10_findSplit_73 : decode cX10_findSplit 73 = .ok (.goto 5, 3) := by decide +kernel
theorem dX10_findSplit_76 : decode cX10_findSplit 76 = .ok (.iload 5, 2) := by decide +kernel
theorem dX10_findSplit_78 : decode cX10_findSplit 78 = .ok (.istore 5, 2) := by decide +kernel
theorem dX10_findSplit_80 : decode cX10_findSplit 80 = .ok (.iinc 6 1, 3) := by decide +kernel
theorem dX10_findSplit_83 : decode cX10_findSplit 83 = .ok (.goto (-39), 3) := by decide +kernel
theorem dX10_findSplit_86 : decode cX10_findSplit 86 = .ok (.aload_n 0, 1) := by decide +kernel
theorem dX10_findSplit_87 : decode cX10_findSplit 87 = .ok (.getfield 187, 3) := by decide +kernel
theorem dX10_findSplit_90 : decode cX10_findSplit 90 = .ok (.iconst (-1), 1) := by decide +kernel
theorem dX10_findSplit_91 : decode cX10_findSplit 91 = .ok (.if_icmp .eq 12, 3) := by decide +kernel
theorem dX10_findSplit_94 : decode cX10_findSplit 94 = .ok (.iload 5, 2) := by decide +kernel
theorem dX10_findSplit_96 : decode cX10_findSplit 96 = .ok (.aload_n 0, 1) := by decide +kernel
theorem dX10_findSplit_97 : decode cX10_findSplit 97 = .ok (.getfield 187, 3) := by decide +kernel
theorem dX10_findSplit_100 : decode cX10_findSplit 100 = .ok (.if_icmp .ge 8, 3) := by decide +kernel
theorem dX10_findSplit_103 : decode cX10_findSplit 103 = .ok (.iload 4, 2) := by decide +kernel
theorem dX10_findSplit_105 : decode cX10_findSplit 105 = .ok (.goto 4, 3) := by decide +kernel
theorem dX10_findSplit_108 : decode cX10_findSplit 108 = .ok (.iload_n 3, 1) := by decide +kernel
theorem dX10_findSplit_109 : decode cX10_findSplit 109 = .ok (.istore_n 3, 1) := by decide +kernel
theorem dX10_findSplit_110 : decode cX10_findSplit 110 = .ok (.aload_n 0, 1) := by decide +kernel
theorem dX10_findSplit_111 : decode cX10_findSplit 111 = .ok (.aload_n 0, 1) := by decide +kernel
theorem dX10_findSplit_112 : decode cX10_findSplit 112 = .ok (.getfield 187, 3) := by decide +kernel
theorem dX10_findSplit_115 : decode cX10_findSplit 115 = .ok (.iconst (-1), 1) := by decide +kernel
theorem dX10_findSplit_116 : decode cX10_findSplit 116 = .ok (.if_icmp .eq 12, 3) := by decide +kernel
theorem dX10_findSplit_119 : decode cX10_findSplit 119 = .ok (.iload 5, 2) := by decide +kernel
theorem dX10_findSplit_121 : decode cX10_findSplit 121 = .ok (.aload_n 0, 1) := by decide +kernel
theorem dX10_findSplit_122 : decode cX10_findSplit 122 = .ok (.getfield 187, 3) := by decide +kernel
theorem dX10_findSplit_125 : decode cX10_findSplit 125 = .ok (.if_icmp .ge 8, 3) := by decide +kernel
theorem dX10_findSplit_128 : decode cX10_findSplit 128 = .ok (.iload 5, 2) := by decide +kernel
theorem dX10_findSplit_130 : decode cX10_findSplit 130 = .ok (.goto 7, 3) := by decide +kernel
theorem dX10_findSplit_133 : decode cX10_findSplit 133 = .ok (.aload_n 0, 1) := by decide +kernel
theorem dX10_findSplit_134 : decode cX10_findSplit 134 = .ok (.getfield 187, 3) := by decide +kernel
theorem dX10_findSplit_137 : decode cX10_findSplit 137 = .ok (.putfield 187, 3) := by decide +kernel
theorem dX10_findSplit_140 : decode cX10_findSplit 140 = .ok (.iinc 4 1, 3) := by decide +kernel
theorem dX10_findSplit_143 : decode cX10_findSplit 143 = .ok (.goto (-111), 3) := by decide +kernel
theorem dX10_findSplit_146 : decode cX10_findSplit 146 = .ok (.iload_n 3, 1) := by decide +kernel
theorem dX10_findSplit_147 : decode cX10_findSplit 147 = .ok (.ireturn, 1) := by decide +kernel
theorem dX10_worst_0 : decode cX10_worst 0 = .ok (.iload_n 1, 1) := by decide +kernel
theorem dX10_worst_1 : decode cX10_worst 1 = .ok (.iconst 1, 1) := by decide +kernel
theorem dX10_worst_2 : decode cX10_worst 2 = .ok (.iconst 3, 1) := by decide +kernel
theorem dX10_worst_3 : decode cX10_worst 3 = .ok (.invokestatic 90, 3) := by decide +kernel
theorem dX10_worst_6 : decode cX10_worst 6 = .ok (.ifCond .ne 6, 3) := by decide +kernel
theorem dX10_worst_9 : decode cX10_worst 9 = .ok (.bipush (-3), 2) := by decide +kernel
theorem dX10_worst_11 : decode cX10_worst 11 = .ok (.ireturn, 1) := by decide +kernel
theorem dX10_worst_12 : decode cX10_worst 12 = .ok (.aload_n 0, 1) := by decide +kernel
theorem dX10_worst_13 : decode cX10_worst 13 = .ok (.iload_n 1, 1) := by decide +kernel
theorem dX10_worst_14 : decode cX10_worst 14 = .ok (.invokevirtual 193, 3) := by decide +kernel
theorem dX10_worst_17 : decode cX10_worst 17 = .ok (.pop, 1) := by decide +kernel
theorem dX10_worst_18 : decode cX10_worst 18 = .ok (.aload_n 0, 1) := by decide +kernel
theorem dX10_worst_19 : decode cX10_worst 19 = .ok (.getfield 187, 3) := by decide +kernel
theorem dX10_worst_22 : decode cX10_worst 22 = .ok (.ireturn, 1) := by decide +kernel
theorem dX10_split_0 : decode cX10_split 0 = .ok (.iload_n 2, 1) := by decide +kernel
theorem dX10_split_1 : decode cX10_split 1 = .ok (.iconst 0, 1) := by decide +kernel
theorem dX10_split_2 : decode cX10_split 2 = .ok (.aload_n 0, 1) := by decide +kernel
theorem dX10_split_3 : decode cX10_split 3 = .ok (.getfield 180, 3) := by decide +kernel
theorem dX10_split_6 : decode cX10_split 6 = .ok (.iconst 1, 1) := by decide +kernel
theorem dX10_split_7 : decode cX10_split 7 = .ok (.isub, 1) := by decide +kernel
theorem dX10_split_8 : decode cX10_split 8 = .ok (.invokestatic 90, 3) := by decide +kernel
theorem dX10_split_11 : decode cX10_split 11 = .ok (.ifCond .ne 6, 3) := by decide +kernel
theorem dX10_split_14 : decode cX10_split 14 = .ok (.bipush (-2), 2) := by decide +kernel
theorem dX10_split_16 : decode cX10_split 16 = .ok (.ireturn, 1) := by decide +kernel
theorem dX10_split_17 : decode cX10_split 17 = .ok (.iload_n 1, 1) := by decide +kernel
theorem dX10_split_18 : decode cX10_split 18 = .ok (.iconst 1, 1) := by decide +kernel
theorem dX10_split_19 : decode cX10_split 19 = .ok (.iconst 3, 1) := by decide +kernel
theorem dX10_split_20 : decode cX10_split 20 = .ok (.invokestatic 90, 3) := by decide +kernel
theorem dX10_split_23 : decode cX10_split 23 = .ok (.ifCond .eq 12, 3) := by decide +kernel
theorem dX10_split_26 : decode cX10_split 26 = .ok (.iload_n 3, 1) := by decide +kernel
theorem dX10_split_27 : decode cX10_split 27 = .ok (.iconst 0, 1) := by decide +kernel
theorem dX10_split_28 : decode cX10_split 28 = .ok (.iconst 1, 1) := by decide +kernel
theorem dX10_split_29 : decode cX10_split 29 = .ok (.invokestatic 90, 3) := by decide +kernel
theorem dX10_split_32 : decode cX10_split 32 = .ok (.ifCond .ne 6, 3) := by decide +kernel
theorem dX10_split_35 : decode cX10_split 35 = .ok (.bipush (-3), 2) := by decide +kernel
theorem dX10_split_37 : decode cX10_split 37 = .ok (.ireturn, 1) := by decide +kernel
theorem dX10_split_38 : decode cX10_split 38 = .ok (.aload_n 0, 1) := by decide +kernel
theorem dX10_split_39 : decode cX10_split 39 = .ok (.iload_n 1, 1) := by decide +kernel
theorem dX10_split_40 : decode cX10_split 40 = .ok (.invokevirtual 193, 3) := by decide +kernel
theorem dX10_split_43 : decode cX10_split 43 = .ok (.istore 4, 2) := by decide +kernel
theorem dX10_split_45 : decode cX10_split 45 = .ok (.iload_n 3, 1) := by decide +kernel
theorem dX10_split_46 : decode cX10_split 46 = .ok (.ifCond .ne 14, 3) := by decide +kernel
theorem dX10_split_49 : decode cX10_split 49 = .ok (.aload_n 0, 1) := by decide +kernel
theorem dX10_split_50 : decode cX10_split 50 = .ok (.iload 4, 2) := by decide +kernel
theorem dX10_split_52 : decode cX10_split 52 = .ok (.iload_n 1, 1) := by decide +kernel
theorem dX10_split_53 : decode cX10_split 53 = .ok (.iload_n 2, 1) := by decide +kernel
theorem dX10_split_54 : decode cX10_split 54 = .ok (.invokevirtual 183, 3) := by decide +kernel
theorem dX10_split_57 : decode cX10_split 57 = .ok (.goto 11, 3) := by decide +kernel
theorem dX10_split_60 : decode cX10_split 60 = .ok (.aload_n 0, 1) := by decide +kernel
theorem dX10_split_61 : decode cX10_split 61 = .ok (.iload 4, 2) := by decide +kernel
theorem dX10_split_63 : decode cX10_split 63 = .ok (.iload_n 1, 1) := by decide +kernel
theorem dX10_split_64 : decode cX10_split 64 = .ok (.iload_n 2, 1) := by decide +kernel
theorem dX10_split_65 : decode cX10_split 65 = .ok (.invokevirtual 190, 3) := by decide +kernel
theorem dX10_split_68 : decode cX10_split 68 = .ok (.ireturn, 1) := by decide +kernel
theorem dX10_club_0 : decode cX10_club 0 = .ok (.iload_n 1, 1) := by decide +kernel
theorem dX10_club_1 : decode cX10_club 1 = .ok (.iconst 0, 1) := by decide +kernel
theorem dX10_club_2 : decode cX10_club 2 = .ok (.iconst 3, 1) := by decide +kernel
theorem dX10_club_3 : decode cX10_club 3 = .ok (.invokestatic 90, 3) := by decide +kernel
theorem dX10_club_6 : decode cX10_club 6 = .ok (.ifCond .ne 6, 3) := by decide +kernel
theorem dX10_club_9 : decode cX10_club 9 = .ok (.bipush (-2), 2) := by decide +kernel
theorem dX10_club_11 : decode cX10_club 11 = .ok (.ireturn, 1) := by decide +kernel
theorem dX10_club_12 : decode cX10_club 12 = .ok (.iload_n 2, 1) := by decide +kernel
theorem dX10_club_13 : decode cX10_club 13 = .ok (.iconst 0, 1) := by decide +kernel
theorem dX10_club_14 : decode cX10_club 14 = .ok (.iconst 1, 1) := by decide +kernel
theorem dX10_club_15 : decode cX10_club 15 = .ok (.aload_n 0, 1) := by decide +kernel
theorem dX10_club_16 : decode cX10_club 16 = .ok (.getfield 94, 3) := by decide +kernel
theorem dX10_club_19 : decode cX10_club 19 = .ok (.ishl, 1) := by decide +kernel
theorem dX10_club_20 : decode cX10_club 20 = .ok (.iconst 1, 1) := by decide +kernel
theorem dX10_club_21 : decode cX10_club 21 = .ok (.isub, 1) := by decide +kernel
theorem dX10_club_22 : decode cX10_club 22 = .ok (.invokestatic 90, 3) := by decide +kernel
theorem dX10_club_25 : decode cX10_club 25 = .ok (.ifCond .ne 6, 3) := by decide +kernel
theorem dX10_club_28 : decode cX10_club 28 = .ok (.bipush (-3), 2) := by decide +kernel
theorem dX10_club_30 : decode cX10_club 30 = .ok (.ireturn, 1) := by decide +kernel
theorem dX10_club_31 : decode cX10_club 31 = .ok (.aload_n 0, 1) := by decide +kernel
theorem dX10_club_32 : decode cX10_club 32 = .ok (.getfield 78, 3) := by decide +kernel
theorem dX10_club_35 : decode cX10_club 35 = .ok (.iload_n 1, 1) := by decide +kernel
theorem dX10_club_36 : decode cX10_club 36 = .ok (.iaload, 1) := by decide +kernel
theorem dX10_club_37 : decode cX10_club 37 = .ok (.istore_n 3, 1) := by decide +kernel
theorem dX10_club_38 : decode cX10_club 38 = .ok (.aload_n 0, 1) := by decide +kernel
theorem dX10_club_39 : decode cX10_club 39 = .ok (.getfield 78, 3) := by decide +kernel
theorem dX10_club_42 : decode cX10_club 42 = .ok (.iload_n 1, 1) := by decide +kernel
theorem dX10_club_43 : decode cX10_club 43 = .ok (.iload_n 2, 1) := by decide +kernel
theorem dX10_club_44 : decode cX10_club 44 = .ok (.iastore, 1) := by decide +kernel
theorem dX10_club_45 : decode cX10_club 45 = .ok (.iload_n 3, 1) := by decide +kernel
theorem dX10_club_46 : decode cX10_club 46 = .ok (.ireturn, 1) := by decide +kernel
theorem dX10_colour_0 : decode cX10_colour 0 = .ok (.iload_n 1, 1) := by decide +kernel
theorem dX10_colour_1 : decode cX10_colour 1 = .ok (.iconst 0, 1) := by decide +kernel
theorem dX10_colour_2 : decode cX10_colour 2 = .ok (.iconst 3, 1) := by decide +kernel
theorem dX10_colour_3 : decode cX10_colour 3 = .ok (.invokestatic 90, 3) := by decide +kernel
theorem dX10_colour_6 : decode cX10_colour 6 = .ok (.ifCond .ne 6, 3) := by decide +kernel
theorem dX10_colour_9 : decode cX10_colour 9 = .ok (.bipush (-2), 2) := by decide +kernel
theorem dX10_colour_11 : decode cX10_colour 11 = .ok (.ireturn, 1) := by decide +kernel
theorem dX10_colour_12 : decode cX10_colour 12 = .ok (.iload_n 2, 1) := by decide +kernel
theorem dX10_colour_13 : decode cX10_colour 13 = .ok (.iconst 0, 1) := by decide +kernel
theorem dX10_colour_14 : decode cX10_colour 14 = .ok (.iconst 5, 1) := by decide +kernel
theorem dX10_colour_15 : decode cX10_colour 15 = .ok (.invokestatic 90, 3) := by decide +kernel
theorem dX10_colour_18 : decode cX10_colour 18 = .ok (.ifCond .eq 14, 3) := by decide +kernel
theorem dX10_colour_21 : decode cX10_colour 21 = .ok (.iload_n 3, 1) := by decide +kernel
theorem dX10_colour_22 : decode cX10_colour 22 = .ok (.iconst 0, 1) := by decide +kernel
theorem dX10_colour_23 : decode cX10_colour 23 = .ok (.sipush 400, 3) := by decide +kernel
theorem dX10_colour_26 : decode cX10_colour 26 = .ok (.invokestatic 90, 3) := by decide +kernel
theorem dX10_colour_29 : decode cX10_colour 29 = .ok (.ifCond .ne 6, 3) := by decide +kernel
theorem dX10_colour_32 : decode cX10_colour 32 = .ok (.bipush (-3), 2) := by decide +kernel
theorem dX10_colour_34 : decode cX10_colour 34 = .ok (.ireturn, 1) := by decide +kernel
theorem dX10_colour_35 : decode cX10_colour 35 = .ok (.aload_n 0, 1) := by decide +kernel
theorem dX10_colour_36 : decode cX10_colour 36 = .ok (.getfield 196, 3) := by decide +kernel
theorem dX10_colour_39 : decode cX10_colour 39 = .ok (.bipush 8, 2) := by decide +kernel
theorem dX10_colour_41 : decode cX10_colour 41 = .ok (.if_icmp .ne 6, 3) := by decide +kernel
theorem dX10_colour_44 : decode cX10_colour 44 = .ok (.bipush (-5), 2) := by decide +kernel
theorem dX10_colour_46 : decode cX10_colour 46 = .ok (.ireturn, 1) := by decide +kernel
theorem dX10_colour_47 : decode cX10_colour 47 = .ok (.aload_n 0, 1) := by decide +kernel
theorem dX10_colour_48 : decode cX10_colour 48 = .ok (.getfield 81, 3) := by decide +kernel
theorem dX10_colour_51 : decode cX10_colour 51 = .ok (.aload_n 0, 1) := by decide +kernel
theorem dX10_colour_52 : decode cX10_colour 52 = .ok (.getfield 196, 3) := by decide +kernel
theorem dX10_colour_55 : decode cX10_colour 55 = .ok (.iload_n 1, 1) := by decide +kernel
theorem dX10_colour_56 : decode cX10_colour 56 = .ok (.iastore, 1) := by decide +kernel
theorem dX10_colour_57 : decode cX10_colour 57 = .ok (.aload_n 0, 1) := by decide +kernel
theorem dX10_colour_58 : decode cX10_colour 58 = .ok (.getfield 84, 3) := by decide +kernel
theorem dX10_colour_61 : decode cX10_colour 61 = .ok (.aload_n 0, 1) := by decide +kernel
theorem dX10_colour_62 : decode cX10_colour 62 = .ok (.getfield 196, 3) := by decide +kernel
theorem dX10_colour_65 : decode cX10_colour 65 = .ok (.iload_n 2, 1) := by decide +kernel
theorem dX10_colour_66 : decode cX10_colour 66 = .ok (.iastore, 1) := by decide +kernel
theorem dX10_colour_67 : decode cX10_colour 67 = .ok (.aload_n 0, 1) := by decide +kernel
theorem dX10_colour_68 : decode cX10_colour 68 = .ok (.getfield 87, 3) := by decide +kernel
theorem dX10_colour_71 : decode cX10_colour 71 = .ok (.aload_n 0, 1) := by decide +kernel
theorem dX10_colour_72 : decode cX10_colour 72 = .ok (.getfield 196, 3) := by decide +kernel
theorem dX10_colour_75 : decode cX10_colour 75 = .ok (.iload_n 3, 1) := by decide +kernel
theorem dX10_colour_76 : decode cX10_colour 76 = .ok (.iastore, 1) := by decide +kernel
theorem dX10_colour_77 : decode cX10_colour 77 = .ok (.aload_n 0, 1) := by decide +kernel
theorem dX10_colour_78 : decode cX10_colour 78 = .ok (.dup, 1) := by decide +kernel
theorem dX10_colour_79 : decode cX10_colour 79 = .ok (.getfield 196, 3) := by decide +kernel
theorem dX10_colour_82 : decode cX10_colour 82 = .ok (.iconst 1, 1) := by decide +kernel
theorem dX10_colour_83 : decode cX10_colour 83 = .ok (.iadd, 1) := by decide +kernel
theorem dX10_colour_84 : decode cX10_colour 84 = .ok (.putfield 196, 3) := by decide +kernel
theorem dX10_colour_87 : decode cX10_colour 87 = .ok (.aload_n 0, 1) := by decide +kernel
theorem dX10_colour_88 : decode cX10_colour 88 = .ok (.getfield 196, 3) := by decide +kernel
theorem dX10_colour_91 : decode cX10_colour 91 = .ok (.ireturn, 1) := by decide +kernel
theorem dX10_colourTo_0 : decode cX10_colourTo 0 = .ok (.iconst (-1), 1) := by decide +kernel
theorem dX10_colourTo_1 : decode cX10_colourTo 1 = .ok (.istore 4, 2) := by decide +kernel
theorem dX10_colourTo_3 : decode cX10_colourTo 3 = .ok (.iconst 0, 1) := by decide +kernel
theorem dX10_colourTo_4 : decode cX10_colourTo 4 = .ok (.istore 5, 2) := by decide +kernel
theorem dX10_colourTo_6 : decode cX10_colourTo 6 = .ok (.iconst 0, 1) := by decide +kernel
theorem dX10_colourTo_7 : decode cX10_colourTo 7 = .ok (.istore 6, 2) := by decide +kernel
theorem dX10_colourTo_9 : decode cX10_colourTo 9 = .ok (.iload 6, 2) := by decide +kernel
theorem dX10_colourTo_11 : decode cX10_colourTo 11 = .ok (.aload_n 0, 1) := by decide +kernel
theorem dX10_colourTo_12 : decode cX10_colourTo 12 = .ok (.getfield 196, 3) := by decide +kernel
theorem dX10_colourTo_15 : decode cX10_colourTo 15 = .ok (.if_icmp .ge 86, 3) := by decide +kernel
theorem dX10_colourTo_18 : decode cX10_colourTo 18 = .ok (.aload_n 0, 1) := by decide +kernel
theorem dX10_colourTo_19 : decode cX10_colourTo 19 = .ok (.getfield 81, 3) := by decide +kernel
theorem dX10_colourTo_22 : decode cX10_colourTo 22 = .ok (.iload 6, 2) := by decide +kernel
theorem dX10_colourTo_24 : decode cX10_colourTo 24 = .ok (.iaload, 1) := by decide +kernel
theorem dX10_colourTo_25 : decode cX10_colourTo 25 = .ok (.iload_n 1, 1) := by decide +kernel
theorem dX10_colourTo_26 : decode cX10_colourTo 26 = .ok (.if_icmp .ne 69, 3) := by decide +kernel
theorem dX10_colourTo_29 : decode cX10_colourTo 29 = .ok (.aload_n 0, 1) := by decide +kernel
theorem dX10_colourTo_30 : decode cX10_colourTo 30 = .ok (.getfield 87, 3) := by decide +kernel
theorem dX10_colourTo_33 : decode cX10_colourTo 33 = .ok (.iload 6, 2) := by decide +kernel
theorem dX10_colourTo_35 : decode cX10_colourTo 35 = .ok (.iaload, 1) := by decide +kernel
theorem dX10_colourTo_36 : decode cX10_colourTo 36 = .ok (.iload_n 3, 1) := by decide +kernel
theorem dX10_colourTo_37 : decode cX10_colourTo 37 = .ok (.if_icmp .gt 58, 3) := by decide +kernel
theorem dX10_colourTo_40 : decode cX10_colourTo 40 = .ok (.iload 4, 2) := by decide +kernel
theorem dX10_colourTo_42 : decode cX10_colourTo 42 = .ok (.iconst (-1), 1) := by decide +kernel
theorem dX10_colourTo_43 : decode cX10_colourTo 43 = .ok (.if_icmp .eq 20, 3) := by decide +kernel
theorem dX10_colourTo_46 : decode cX10_colourTo 46 = .ok (.aload_n 0, 1) := by decide +kernel
theorem dX10_colourTo_47 : decode cX10_colourTo 47 = .ok (.getfield 87, 3) := by decide +kernel
theorem dX10_colourTo_50 : decode cX10_colourTo 50 = .ok (.iload 6, 2) := by decide +kernel
theorem dX10_colourTo_52 : decode cX10_colourTo 52 = .ok (.iaload, 1) := by decide +kernel
theorem dX10_colourTo_53 : decode cX10_colourTo 53 = .ok (.aload_n 0, 1) := by decide +kernel
theorem dX10_colourTo_54 : decode cX10_colourTo 54 = .ok (.getfield 87, 3) := by decide +kernel
theorem dX10_colourTo_57 : decode cX10_colourTo 57 = .ok (.iload 4, 2) := by decide +kernel
theorem dX10_colourTo_59 : decode cX10_colourTo 59 = .ok (.iaload, 1) := by decide +kernel
theorem dX10_colourTo_60 : decode cX10_colourTo 60 = .ok (.if_icmp .lt 8, 3) := by decide +kernel
theorem dX10_colourTo_63 : decode cX10_colourTo 63 = .ok (.iload 6, 2) := by decide +kernel
theorem dX10_colourTo_65 : decode cX10_colourTo 65 = .ok (.goto 5, 3) := by decide +kernel
theorem dX10_colourTo_68 : decode cX10_colourTo 68 = .ok (.iload 4, 2) := by decide +kernel
theorem dX10_colourTo_70 : decode cX10_colourTo 70 = .ok (.istore 4, 2) := by decide +kernel
theorem dX10_colourTo_72 : decode cX10_colourTo 72 = .ok (.iload 5, 2) := by decide +kernel
theorem dX10_colourTo_74 : decode cX10_colourTo 74 = .ok (.ifCond .ne 14, 3) := by decide +kernel
theorem dX10_colourTo_77 : decode cX10_colourTo 77 = .ok (.aload_n 0, 1) := by decide +kernel
theorem dX10_colourTo_78 : decode cX10_colourTo 78 = .ok (.getfield 84, 3) := by decide +kernel
theorem dX10_colourTo_81 : decode cX10_colourTo 81 = .ok (.iload 6, 2) := by decide +kernel
theorem dX10_colourTo_83 : decode cX10_colourTo 83 = .ok (.iaload, 1) := by decide +kernel
theorem dX10_colourTo_84 : decode cX10_colourTo 84 = .ok (.iload_n 2, 1) := by decide +kernel
theorem dX10_colourTo_85 : decode cX10_colourTo 85 = .ok (.if_icmp .ne 7, 3) := by decide +kernel
theorem dX10_colourTo_88 : decode cX10_colourTo 88 = .ok (.iconst 1, 1) := by decide +kernel
theorem dX10_colourTo_89 : decode cX10_colourTo 89 = .ok (.goto 4, 3) := by decide +kernel
theorem dX10_colourTo_92 : decode cX10_colourTo 92 = .ok (.iconst 0, 1) := by decide +kernel
theorem dX10_colourTo_93 : decode cX10_colourTo 93 = .ok (.istore 5, 2) := by decide +kernel
theorem dX10_colourTo_95 : decode cX10_colourTo 95 = .ok (.iinc 6 1, 3) := by decide +kernel
theorem dX10_colourTo_98 : decode cX10_colourTo 98 = .ok (.goto (-89), 3) := by decide +kernel
theorem dX10_colourTo_101 : decode cX10_colourTo 101 = .ok (.iload 4, 2) := by decide +kernel
theorem dX10_colourTo_103 : decode cX10_colourTo 103 = .ok (.iconst (-1), 1) := by decide +kernel
theorem dX10_colourTo_104 : decode cX10_colourTo 104 = .ok (.if_icmp .eq 18, 3) := by decide +kernel
theorem dX10_colourTo_107 : decode cX10_colourTo 107 = .ok (.aload_n 0, 1) := by decide +kernel
theorem dX10_colourTo_108 : decode cX10_colourTo 108 = .ok (.getfield 84, 3) := by decide +kernel
theorem dX10_colourTo_111 : decode cX10_colourTo 111 = .ok (.iload 4, 2) := by decide +kernel
theorem dX10_colourTo_113 : decode cX10_colourTo 113 = .ok (.iaload, 1) := by decide +kernel
theorem dX10_colourTo_114 : decode cX10_colourTo 114 = .ok (.iload_n 2, 1) := by decide +kernel
theorem dX10_colourTo_115 : decode cX10_colourTo 115 = .ok (.if_icmp .ne 7, 3) := by decide +kernel
theorem dX10_colourTo_118 : decode cX10_colourTo 118 = .ok (.iconst 2, 1) := by decide +kernel
theorem dX10_colourTo_119 : decode cX10_colourTo 119 = .ok (.goto 13, 3) := by decide +kernel
theorem dX10_colourTo_122 : decode cX10_colourTo 122 = .ok (.iload 5, 2) := by decide +kernel
theorem dX10_colourTo_124 : decode cX10_colourTo 124 = .ok (.ifCond .eq 7, 3) := by decide +kernel
theorem dX10_colourTo_127 : decode cX10_colourTo 127 = .ok (.iconst 1, 1) := by decide +kernel
theorem dX10_colourTo_128 : decode cX10_colourTo 128 = .ok (.goto 4, 3) := by decide +kernel
theorem dX10_colourTo_131 : decode cX10_colourTo 131 = .ok (.iconst 0, 1) := by decide +kernel
theorem dX10_colourTo_132 : decode cX10_colourTo 132 = .ok (.ireturn, 1) := by decide +kernel
theorem dX10_whose_0 : decode cX10_whose 0 = .ok (.iload_n 1, 1) := by decide +kernel
theorem dX10_whose_1 : decode cX10_whose 1 = .ok (.iconst 0, 1) := by decide +kernel
theorem dX10_whose_2 : decode cX10_whose 2 = .ok (.aload_n 0, 1) := by decide +kernel
theorem dX10_whose_3 : decode cX10_whose 3 = .ok (.getfield 94, 3) := by decide +kernel
theorem dX10_whose_6 : decode cX10_whose 6 = .ok (.iconst 1, 1) := by decide +kernel
theorem dX10_whose_7 : decode cX10_whose 7 = .ok (.isub, 1) := by decide +kernel
theorem dX10_whose_8 : decode cX10_whose 8 = .ok (.invokestatic 90, 3) := by decide +kernel
theorem dX10_whose_11 : decode cX10_whose 11 = .ok (.ifCond .ne 6, 3) := by decide +kernel
theorem dX10_whose_14 : decode cX10_whose 14 = .ok (.bipush (-2), 2) := by decide +kernel
theorem dX10_whose_16 : decode cX10_whose 16 = .ok (.ireturn, 1) := by decide +kernel
theorem dX10_whose_17 : decode cX10_whose 17 = .ok (.iload_n 2, 1) := by decide +kernel
theorem dX10_whose_18 : decode cX10_whose 18 = .ok (.iconst 0, 1) := by decide +kernel
theorem dX10_whose_19 : decode cX10_whose 19 = .ok (.iconst 5, 1) := by decide +kernel
theorem dX10_whose_20 : decode cX10_whose 20 = .ok (.invokestatic 90, 3) := by decide +kernel
theorem dX10_whose_23 : decode cX10_whose 23 = .ok (.ifCond .eq 24, 3) := by decide +kernel
theorem dX10_whose_26 : decode cX10_whose 26 = .ok (.iload_n 3, 1) := by decide +kernel
theorem dX10_whose_27 : decode cX10_whose 27 = .ok (.iconst 0, 1) := by decide +kernel
theorem dX10_whose_28 : decode cX10_whose 28 = .ok (.sipush 400, 3) := by decide +kernel
theorem dX10_whose_31 : decode cX10_whose 31 = .ok (.invokestatic 90, 3) := by decide +kernel
theorem dX10_whose_34 : decode cX10_whose 34 = .ok (.ifCond .eq 13, 3) := by decide +kernel
theorem dX10_whose_37 : decode cX10_whose 37 = .ok (.iload 4, 2) := by decide +kernel
theorem dX10_whose_39 : decode cX10_whose 39 = .ok (.iconst 0, 1) := by decide +kernel
theorem dX10_whose_40 : decode cX10_whose 40 = .ok (.iconst 1, 1) := by decide +kernel
theorem dX10_whose_41 : decode cX10_whose 41 = .ok (.invokestatic 90, 3) := by decide +kernel
theorem dX10_whose_44 : decode cX10_whose 44 = .ok (.ifCond .ne 6, 3) := by decide +kernel
theorem dX10_whose_47 : decode cX10_whose 47 = .ok (.bipush (-3), 2) := by decide +kernel
theorem dX10_whose_49 : decode cX10_whose 49 = .ok (.ireturn, 1) := by decide +kernel
theorem dX10_whose_50 : decode cX10_whose 50 = .ok (.iconst 0, 1) := by decide +kernel
theorem dX10_whose_51 : decode cX10_whose 51 = .ok (.istore 5, 2) := by decide +kernel
theorem dX10_whose_53 : decode cX10_whose 53 = .ok (.iconst 0, 1) := by decide +kernel
theorem dX10_whose_54 : decode cX10_whose 54 = .ok (.istore 6, 2) := by decide +kernel
theorem dX10_whose_56 : decode cX10_whose 56 = .ok (.iload 6, 2) := by decide +kernel
theorem dX10_whose_58 : decode cX10_whose 58 = .ok (.iconst 4, 1) := by decide +kernel
theorem dX10_whose_59 : decode cX10_whose 59 = .ok (.if_icmp .ge 64, 3) := by decide +kernel
theorem dX10_whose_62 : decode cX10_whose 62 = .ok (.aload_n 0, 1) := by decide +kernel
theorem dX10_whose_63 : decode cX10_whose 63 = .ok (.getfield 78, 3) := by decide +kernel
theorem dX10_whose_66 : decode cX10_whose 66 = .ok (.iload 6, 2) := by decide +kernel
theorem dX10_whose_68 : decode cX10_whose 68 = .ok (.iaload, 1) := by decide +kernel
theorem dX10_whose_69 : decode cX10_whose 69 = .ok (.iload_n 1, 1) := by decide +kernel
theorem dX10_whose_70 : decode cX10_whose 70 = .ok (.ishr, 1) := by decide +kernel
theorem dX10_whose_71 : decode cX10_whose 71 = .ok (.iconst 1, 1) := by decide +kernel
theorem dX10_whose_72 : decode cX10_whose 72 = .ok (.iand, 1) := by decide +kernel
theorem dX10_whose_73 : decode cX10_whose 73 = .ok (.iconst 1, 1) := by decide +kernel
theorem dX10_whose_74 : decode cX10_whose 74 = .ok (.if_icmp .ne 22, 3) := by decide +kernel
theorem dX10_whose_77 : decode cX10_whose 77 = .ok (.aload_n 0, 1) := by decide +kernel
theorem dX10_whose_78 : decode cX10_whose 78 = .ok (.iload 6, 2) := by decide +kernel
theorem dX10_whose_80 : decode cX10_whose 80 = .ok (.iload_n 2, 1) := by decide +kernel
theorem dX10_whose_81 : decode cX10_whose 81 = .ok (.iload_n 3, 1) := by decide +kernel
theorem dX10_whose_82 : decode cX10_whose 82 = .ok (.invokevirtual 199, 3) := by decide +kernel
theorem dX10_whose_85 : decode cX10_whose 85 = .ok (.iconst 2, 1) := by decide +kernel
theorem dX10_whose_86 : decode cX10_whose 86 = .ok (.iload 4, 2) := by decide +kernel
theorem dX10_whose_88 : decode cX10_whose 88 = .ok (.isub, 1) := by decide +kernel
theorem dX10_whose_89 : decode cX10_whose 89 = .ok (.if_icmp .ne 7, 3) := by decide +kernel
theorem dX10_whose_92 : decode cX10_whose 92 = .ok (.iconst 1, 1) := by decide +kernel
theorem dX10_whose_93 : decode cX10_whose 93 = .ok (.goto 4, 3) := by decide +kernel
theorem dX10_whose_96 : decode cX10_whose 96 = .ok (.iconst 0, 1) := by decide +kernel
theorem dX10_whose_97 : decode cX10_whose 97 = .ok (.istore 7, 2) := by decide +kernel
theorem dX10_whose_99 : decode cX10_whose 99 = .ok (.iload 5, 2) := by decide +kernel
theorem dX10_whose_101 : decode cX10_whose 101 = .ok (.iload 7, 2) := by decide +kernel
theorem dX10_whose_103 : decode cX10_whose 103 = .ok (.ifCond .eq 10, 3) := by decide +kernel
theorem dX10_whose_106 : decode cX10_whose 106 = .ok (.iconst 1, 1) := by decide +kernel
theorem dX10_whose_107 : decode cX10_whose 107 = .ok (.iload 6, 2) := by decide +kernel
theorem dX10_whose_109 : decode cX10_whose 109 = .ok (.ishl, 1) := by decide +kernel
theorem dX10_whose_110 : decode cX10_whose 110 = .ok (.goto 4, 3) := by decide +kernel
theorem dX10_whose_113 : decode cX10_whose 113 = .ok (.iconst 0, 1) := by decide +kernel
theorem dX10_whose_114 : decode cX10_whose 114 = .ok (.ior, 1) := by decide +kernel
theorem dX10_whose_115 : decode cX10_whose 115 = .ok (.istore 5, 2) := by decide +kernel
theorem dX10_whose_117 : decode cX10_whose 117 = .ok (.iinc 6 1, 3) := by decide +kernel
theorem dX10_whose_120 : decode cX10_whose 120 = .ok (.goto (-64), 3) := by decide +kernel
theorem dX10_whose_123 : decode cX10_whose 123 = .ok (.iload 5, 2) := by decide +kernel
theorem dX10_whose_125 : decode cX10_whose 125 = .ok (.ireturn, 1) := by decide +kernel
theorem dX10_count_0 : decode cX10_count 0 = .ok (.iconst 0, 1) := by decide +kernel
theorem dX10_count_1 : decode cX10_count 1 = .ok (.istore_n 2, 1) := by decide +kernel
theorem dX10_count_2 : decode cX10_count 2 = .ok (.iload_n 1, 1) := by decide +kernel
theorem dX10_count_3 : decode cX10_count 3 = .ok (.tableswitch 115 0 7 #[45, 50, 55, 90, 95, 100, 105, 110], 45) := by decide +kernel
theorem dX10_count_48 : decode cX10_count 48 = .ok (.aload_n 0, 1) := by decide +kernel
theorem dX10_count_49 : decode cX10_count 49 = .ok (.getfield 94, 3) := by decide +kernel
theorem dX10_count_52 : decode cX10_count 52 = .ok (.ireturn, 1) := by decide +kernel
theorem dX10_count_53 : decode cX10_count 53 = .ok (.aload_n 0, 1) := by decide +kernel
theorem dX10_count_54 : decode cX10_count 54 = .ok (.getfield 115, 3) := by decide +kernel
theorem dX10_count_57 : decode cX10_count 57 = .ok (.ireturn, 1) := by decide +kernel
theorem dX10_count_58 : decode cX10_count 58 = .ok (.iconst 0, 1) := by decide +kernel
theorem dX10_count_59 : decode cX10_count 59 = .ok (.istore_n 3, 1) := by decide +kernel
theorem dX10_count_60 : decode cX10_count 60 = .ok (.iload_n 3, 1) := by decide +kernel
theorem dX10_count_61 : decode cX10_count 61 = .ok (.aload_n 0, 1) := by decide +kernel
theorem dX10_count_62 : decode cX10_count 62 = .ok (.getfield 115, 3) := by decide +kernel
theorem dX10_count_65 : decode cX10_count 65 = .ok (.if_icmp .ge 26, 3) := by decide +kernel
theorem dX10_count_68 : decode cX10_count 68 = .ok (.iload_n 2, 1) := by decide +kernel
theorem dX10_count_69 : decode cX10_count 69 = .ok (.aload_n 0, 1) := by decide +kernel
theorem dX10_count_70 : decode cX10_count 70 = .ok (.getfield 28, 3) := by decide +kernel
theorem dX10_count_73 : decode cX10_count 73 = .ok (.iload_n 3, 1) := by decide +kernel
theorem dX10_count_74 : decode cX10_count 74 = .ok (.iaload, 1) := by decide +kernel
theorem dX10_count_75 : decode cX10_count 75 = .ok (.ifCond .le 7, 3) := by decide +kernel
theorem dX10_count_78 : decode cX10_count 78 = .ok (.iconst 1, 1) := by decide +kernel
theorem dX10_count_79 : decode cX10_count 79 = .ok (.goto 4, 3) := by decide +kernel
theorem dX10_count_82 : decode cX10_count 82 = .ok (.iconst 0, 1) := by decide +kernel
theorem dX10_count_83 : decode cX10_count 83 = .ok (.iadd, 1) := by decide +kernel
theorem dX10_count_84 : decode cX10_count 84 = .ok (.istore_n 2, 1) := by decide +kernel
theorem dX10_count_85 : decode cX10_count 85 = .ok (.iinc 3 1, 3) := by decide +kernel
theorem dX10_count_88 : decode cX10_count 88 = .ok (.goto (-28), 3) := by decide +kernel
theorem dX10_count_91 : decode cX10_count 91 = .ok (.iload_n 2, 1) := by decide +kernel
theorem dX10_count_92 : decode cX10_count 92 = .ok (.ireturn, 1) := by decide +kernel
theorem dX10_count_93 : decode cX10_count 93 = .ok (.aload_n 0, 1) := by decide +kernel
theorem dX10_count_94 : decode cX10_count 94 = .ok (.getfield 112, 3) := by decide +kernel
theorem dX10_count_97 : decode cX10_count 97 = .ok (.ireturn, 1) := by decide +kernel
theorem dX10_count_98 : decode cX10_count 98 = .ok (.aload_n 0, 1) := by decide +kernel
theorem dX10_count_99 : decode cX10_count 99 = .ok (.getfield 150, 3) := by decide +kernel
theorem dX10_count_102 : decode cX10_count 102 = .ok (.ireturn, 1) := by decide +kernel
theorem dX10_count_103 : decode cX10_count 103 = .ok (.aload_n 0, 1) := by decide +kernel
theorem dX10_count_104 : decode cX10_count 104 = .ok (.getfield 162, 3) := by decide +kernel
theorem dX10_count_107 : decode cX10_count 107 = .ok (.ireturn, 1) := by decide +kernel
theorem dX10_count_108 : decode cX10_count 108 = .ok (.aload_n 0, 1) := by decide +kernel
theorem dX10_count_109 : decode cX10_count 109 = .ok (.getfield 171, 3) := by decide +kernel
theorem dX10_count_112 : decode cX10_count 112 = .ok (.ireturn, 1) := by decide +kernel
theorem dX10_count_113 : decode cX10_count 113 = .ok (.aload_n 0, 1) := by decide +kernel
theorem dX10_count_114 : decode cX10_count 114 = .ok (.getfield 180, 3) := by decide +kernel
theorem dX10_count_117 : decode cX10_count 117 = .ok (.ireturn, 1) := by decide +kernel
theorem dX10_count_118 : decode cX10_count 118 = .ok (.bipush (-3), 2) := by decide +kernel
theorem dX10_count_120 : decode cX10_count 120 = .ok (.ireturn, 1) := by decide +kernel
theorem dX2_init_0 : decode cX2_init 0 = .ok (.aload_n 0, 1) := by decide +kernel
theorem dX2_init_1 : decode cX2_init 1 = .ok (.invokespecial 3, 3) := by decide +kernel
theorem dX2_init_4 : decode cX2_init 4 = .ok (.aload_n 0, 1) := by decide +kernel
theorem dX2_init_5 : decode cX2_init 5 = .ok (.new 9, 3) := by decide +kernel
theorem dX2_init_8 : decode cX2_init 8 = .ok (.dup, 1) := by decide +kernel
theorem dX2_init_9 : decode cX2_init 9 = .ok (.bipush 16, 2) := by decide +kernel
theorem dX2_init_11 : decode cX2_init 11 = .ok (.invokespecial 11, 3) := by decide +kernel
theorem dX2_init_14 : decode cX2_init 14 = .ok (.putfield 14, 3) := by decide +kernel
theorem dX2_init_17 : decode cX2_init 17 = .ok (.aload_n 0, 1) := by decide +kernel
theorem dX2_init_18 : decode cX2_init 18 = .ok (.new 9, 3) := by decide +kernel
theorem dX2_init_21 : decode cX2_init 21 = .ok (.dup, 1) := by decide +kernel
theorem dX2_init_22 : decode cX2_init 22 = .ok (.bipush 16, 2) := by decide +kernel
theorem dX2_init_24 : decode cX2_init 24 = .ok (.invokespecial 11, 3) := by decide +kernel
theorem dX2_init_27 : decode cX2_init 27 = .ok (.putfield 20, 3) := by decide +kernel
theorem dX2_init_30 : decode cX2_init 30 = .ok (.aload_n 0, 1) := by decide +kernel
theorem dX2_init_31 : decode cX2_init 31 = .ok (.new 9, 3) := by decide +kernel
theorem dX2_init_34 : decode cX2_init 34 = .ok (.dup, 1) := by decide +kernel
theorem dX2_init_35 : decode cX2_init 35 = .ok (.bipush 16, 2) := by decide +kernel
theorem dX2_init_37 : decode cX2_init 37 = .ok (.invokespecial 11, 3) := by decide +kernel
theorem dX2_init_40 : decode cX2_init 40 = .ok (.putfield 23, 3) := by decide +kernel
theorem dX2_init_43 : decode cX2_init 43 = .ok (.aload_n 0, 1) := by decide +kernel
theorem dX2_init_44 : decode cX2_init 44 = .ok (.new 9, 3) := by decide +kernel
theorem dX2_init_47 : decode cX2_init 47 = .ok (.dup, 1) := by decide +kernel
theorem dX2_init_48 : decode cX2_init 48 = .ok (.bipush 10, 2) := by decide +kernel
theorem dX2_init_50 : decode cX2_init 50 = .ok (.invokespecial 11, 3) := by decide +kernel
theorem dX2_init_53 : decode cX2_init 53 = .ok (.invokevirtual 26, 3) := by decide +kernel
theorem dX2_init_56 : decode cX2_init 56 = .ok (.putfield 30, 3) := by decide +kernel
theorem dX2_init_59 : decode cX2_init 59 = .ok (.return_, 1) := by decide +kernel
theorem dX2_pathCount_0 : decode cX2_pathCount 0 = .ok (.aload_n 0, 1) := by decide +kernel
theorem dX2_pathCount_1 : decode cX2_pathCount 1 = .ok (.getfield 23, 3) := by decide +kernel
theorem dX2_pathCount_4 : decode cX2_pathCount 4 = .ok (.invokevirtual 33, 3) := by decide +kernel
theorem dX2_pathCount_7 : decode cX2_pathCount 7 = .ok (.ireturn, 1) := by decide +kernel
theorem dX2_join_0 : decode cX2_join 0 = .ok (.aload_n 0, 1) := by decide +kernel
theorem dX2_join_1 : decode cX2_join 1 = .ok (.invokevirtual 37, 3) := by decide +kernel
theorem dX2_join_4 : decode cX2_join 4 = .ok (.istore 4, 2) := by decide +kernel
theorem dX2_join_6 : decode cX2_join 6 = .ok (.aload_n 0, 1) := by decide +kernel
theorem dX2_join_7 : decode cX2_join 7 = .ok (.getfield 14, 3) := by decide +kernel
theorem dX2_join_10 : decode cX2_join 10 = .ok (.iload_n 1, 1) := by decide +kernel
theorem dX2_join_11 : decode cX2_join 11 = .ok (.invokevirtual 40, 3) := by decide +kernel
theorem dX2_join_14 : decode cX2_join 14 = .ok (.pop, 1) := by decide +kernel
theorem dX2_join_15 : decode cX2_join 15 = .ok (.aload_n 0, 1) := by decide +kernel
theorem dX2_join_16 : decode cX2_join 16 = .ok (.getfield 20, 3) := by decide +kernel
theorem dX2_join_19 : decode cX2_join 19 = .ok (.iload_n 2, 1) := by decide +kernel
theorem dX2_join_20 : decode cX2_join 20 = .ok (.invokevirtual 40, 3) := by decide +kernel
theorem dX2_join_23 : decode cX2_join 23 = .ok (.pop, 1) := by decide +kernel
theorem dX2_join_24 : decode cX2_join 24 = .ok (.aload_n 0, 1) := by decide +kernel
theorem dX2_join_25 : decode cX2_join 25 = .ok (.getfield 23, 3) := by decide +kernel
theorem dX2_join_28 : decode cX2_join 28 = .ok (.iload_n 3, 1) := by decide +kernel
theorem dX2_join_29 : decode cX2_join 29 = .ok (.invokevirtual 40, 3) := by decide +kernel
theorem dX2_join_32 : decode cX2_join 32 = .ok (.pop, 1) := by decide +kernel
theorem dX2_join_33 : decode cX2_join 33 = .ok (.aload_n 0, 1) := by decide +kernel
theorem dX2_join_34 : decode cX2_join 34 = .ok (.getfield 30, 3) := by decide +kernel
theorem dX2_join_37 : decode cX2_join 37 = .ok (.iload_n 1, 1) := by decide +kernel
theorem dX2_join_38 : decode cX2_join 38 = .ok (.aload_n 0, 1) := by decide +kernel
theorem dX2_join_39 : decode cX2_join 39 = .ok (.iload_n 1, 1) := by decide +kernel
theorem dX2_join_40 : decode cX2_join 40 = .ok (.invokevirtual 44, 3) := by decide +kernel
theorem dX2_join_43 : decode cX2_join 43 = .ok (.iload 4, 2) := by decide +kernel
theorem dX2_join_45 : decode cX2_join 45 = .ok (.invokestatic 47, 3) := by decide +kernel
theorem dX2_join_48 : decode cX2_join 48 = .ok (.ior, 1) := by decide +kernel
theorem dX2_join_49 : decode cX2_join 49 = .ok (.invokevirtual 50, 3) := by decide +kernel
theorem dX2_join_52 : decode cX2_join 52 = .ok (.aload_n 0, 1) := by decide +kernel
theorem dX2_join_53 : decode cX2_join 53 = .ok (.getfield 30, 3) := by decide +kernel
theorem dX2_join_56 : decode cX2_join 56 = .ok (.iload_n 2, 1) := by decide +kernel
theorem dX2_join_57 : decode cX2_join 57 = .ok (.aload_n 0, 1) := by decide +kernel
theorem dX2_join_58 : decode cX2_join 58 = .ok (.iload_n 2, 1) := by decide +kernel
theorem dX2_join_59 : decode cX2_join 59 = .ok (.invokevirtual 44, 3) := by decide +kernel
theorem dX2_join_62 : decode cX2_join 62 = .ok (.iload 4, 2) := by decide +kernel
theorem dX2_join_64 : decode cX2_join 64 = .ok (.invokestatic 47, 3) := by decide +kernel
theorem dX2_join_67 : decode cX2_join 67 = .ok (.ior, 1) := by decide +kernel
theorem dX2_join_68 : decode cX2_join 68 = .ok (.invokevirtual 50, 3) := by decide +kernel
theorem dX2_join_71 : decode cX2_join 71 = .ok (.iload 4, 2) := by decide +kernel
theorem dX2_join_73 : decode cX2_join 73 = .ok (.ireturn, 1) := by decide +kernel
theorem dX2_pathsAt_0 : decode cX2_pathsAt 0 = .ok (.iload_n 1, 1) := by decide +kernel
theorem dX2_pathsAt_1 : decode cX2_pathsAt 1 = .ok (.invokestatic 54, 3) := by decide +kernel
theorem dX2_pathsAt_4 : decode cX2_pathsAt 4 = .ok (.ifCond .eq 14, 3) := by decide +kernel
theorem dX2_pathsAt_7 : decode cX2_pathsAt 7 = .ok (.aload_n 0, 1) := by decide +kernel
theorem dX2_pathsAt_8 : decode cX2_pathsAt 8 = .ok (.getfield 30, 3) := by decide +kernel
theorem dX2_pathsAt_11 : decode cX2_pathsAt 11 = .ok (.iload_n 1, 1) := by decide +kernel
theorem dX2_pathsAt_12 : decode cX2_pathsAt 12 = .ok (.invokevirtual 58, 3) := by decide +kernel
theorem dX2_pathsAt_15 : decode cX2_pathsAt 15 = .ok (.goto 4, 3) := by decide +kernel
theorem dX2_pathsAt_18 : decode cX2_pathsAt 18 = .ok (.iconst 0, 1) := by decide +kernel
theorem dX2_pathsAt_19 : decode cX2_pathsAt 19 = .ok (.ireturn, 1) := by decide +kernel
theorem dX2_allPaths_0 : decode cX2_allPaths 0 = .ok (.iconst 1, 1) := by decide +kernel
theorem dX2_allPaths_1 : decode cX2_allPaths 1 = .ok (.aload_n 0, 1) := by decide +kernel
theorem dX2_allPaths_2 : decode cX2_allPaths 2 = .ok (.invokevirtual 37, 3) := by decide +kernel
theorem dX2_allPaths_5 : decode cX2_allPaths 5 = .ok (.ishl, 1) := by decide +kernel
theorem dX2_allPaths_6 : decode cX2_allPaths 6 = .ok (.iconst 1, 1) := by decide +kernel
theorem dX2_allPaths_7 : decode cX2_allPaths 7 = .ok (.isub, 1) := by decide +kernel
theorem dX2_allPaths_8 : decode cX2_allPaths 8 = .ok (.ireturn, 1) := by decide +kernel
theorem dX2_touches_0 : decode cX2_touches 0 = .ok (.aload_n 0, 1) := by decide +kernel
theorem dX2_touches_1 : decode cX2_touches 1 = .ok (.iload_n 2, 1) := by decide +kernel
theorem dX2_touches_2 : decode cX2_touches 2 = .ok (.invokevirtual 44, 3) := by decide +kernel
theorem dX2_touches_5 : decode cX2_touches 5 = .ok (.iload_n 1, 1) := by decide +kernel
theorem dX2_touches_6 : decode cX2_touches 6 = .ok (.invokestatic 47, 3) := by decide +kernel
theorem dX2_touches_9 : decode cX2_touches 9 = .ok (.iand, 1) := by decide +kernel
theorem dX2_touches_10 : decode cX2_touches 10 = .ok (.ifCond .eq 7, 3) := by decide +kernel
theorem dX2_touches_13 : decode cX2_touches 13 = .ok (.iconst 1, 1) := by decide +kernel
theorem dX2_touches_14 : decode cX2_touches 14 = .ok (.goto 4, 3) := by decide +kernel
theorem dX2_touches_17 : decode cX2_touches 17 = .ok (.iconst 0, 1) := by decide +kernel
theorem dX2_touches_18 : decode cX2_touches 18 = .ok (.ireturn, 1) := by decide +kernel
theorem dX2_joining_0 : decode cX2_joining 0 = .ok (.iload_n 1, 1) := by decide +kernel
theorem dX2_joining_1 : decode cX2_joining 1 = .ok (.iload_n 2, 1) := by decide +kernel
theorem dX2_joining_2 : decode cX2_joining 2 = .ok (.if_icmp .ne 7, 3) := by decide +kernel
theorem dX2_joining_5 : decode cX2_joining 5 = .ok (.iconst 0, 1) := by decide +kernel
theorem dX2_joining_6 : decode cX2_joining 6 = .ok (.goto 14, 3) := by decide +kernel
theorem dX2_joining_9 : decode cX2_joining 9 = .ok (.aload_n 0, 1) := by decide +kernel
theorem dX2_joining_10 : decode cX2_joining 10 = .ok (.iload_n 1, 1) := by decide +kernel
theorem dX2_joining_11 : decode cX2_joining 11 = .ok (.invokevirtual 44, 3) := by decide +kernel
theorem dX2_joining_14 : decode cX2_joining 14 = .ok (.aload_n 0, 1) := by decide +kernel
theorem dX2_joining_15 : decode cX2_joining 15 = .ok (.iload_n 2, 1) := by decide +kernel
theorem dX2_joining_16 : decode cX2_joining 16 = .ok (.invokevirtual 44, 3) := by decide +kernel
theorem dX2_joining_19 : decode cX2_joining 19 = .ok (.iand, 1) := by decide +kernel
theorem dX2_joining_20 : decode cX2_joining 20 = .ok (.istore_n 3, 1) := by decide +kernel
theorem dX2_joining_21 : decode cX2_joining 21 = .ok (.iload_n 3, 1) := by decide +kernel
theorem dX2_joining_22 : decode cX2_joining 22 = .ok (.ifCond .ne 7, 3) := by decide +kernel
theorem dX2_joining_25 : decode cX2_joining 25 = .ok (.iconst (-1), 1) := by decide +kernel
theorem dX2_joining_26 : decode cX2_joining 26 = .ok (.goto 9, 3) := by decide +kernel
theorem dX2_joining_29 : decode cX2_joining 29 = .ok (.iload_n 3, 1) := by decide +kernel
theorem dX2_joining_30 : decode cX2_joining 30 = .ok (.iconst 1, 1) := by decide +kernel
theorem dX2_joining_31 : decode cX2_joining 31 = .ok (.isub, 1) := by decide +kernel
theorem dX2_joining_32 : decode cX2_joining 32 = .ok (.invokestatic 61, 3) := by decide +kernel
theorem dX2_joining_35 : decode cX2_joining 35 = .ok (.ireturn, 1) := by decide +kernel
theorem dX2_lengthOf_0 : decode cX2_lengthOf 0 = .ok (.aload_n 0, 1) := by decide +kernel
theorem dX2_lengthOf_1 : decode cX2_lengthOf 1 = .ok (.getfield 23, 3) := by decide +kernel
theorem dX2_lengthOf_4 : decode cX2_lengthOf 4 = .ok (.iload_n 1, 1) := by decide +kernel
theorem dX2_lengthOf_5 : decode cX2_lengthOf 5 = .ok (.invokevirtual 58, 3) := by decide +kernel
theorem dX2_lengthOf_8 : decode cX2_lengthOf 8 = .ok (.ireturn, 1) := by decide +kernel
theorem dX2_arcFrom_0 : decode cX2_arcFrom 0 = .ok (.iconst 2, 1) := by decide +kernel
theorem dX2_arcFrom_1 : decode cX2_arcFrom 1 = .ok (.iload_n 2, 1) := by decide +kernel
theorem dX2_arcFrom_2 : decode cX2_arcFrom 2 = .ok (.imul, 1) := by decide +kernel
theorem dX2_arcFrom_3 : decode cX2_arcFrom 3 = .ok (.aload_n 0, 1) := by decide +kernel
theorem dX2_arcFrom_4 : decode cX2_arcFrom 4 = .ok (.getfield 14, 3) := by decide +kernel
theorem dX2_arcFrom_7 : decode cX2_arcFrom 7 = .ok (.iload_n 2, 1) := by decide +kernel
theorem dX2_arcFrom_8 : decode cX2_arcFrom 8 = .ok (.invokevirtual 58, 3) := by decide +kernel
theorem dX2_arcFrom_11 : decode cX2_arcFrom 11 = .ok (.iload_n 1, 1) := by decide +kernel
theorem dX2_arcFrom_12 : decode cX2_arcFrom 12 = .ok (.if_icmp .ne 7, 3) := by decide +kernel
theorem dX2_arcFrom_15 : decode cX2_arcFrom 15 = .ok (.iconst 1, 1) := by decide +kernel
theorem dX2_arcFrom_16 : decode cX2_arcFrom 16 = .ok (.goto 4, 3) := by decide +kernel
theorem dX2_arcFrom_19 : decode cX2_arcFrom 19 = .ok (.iconst 0, 1) := by decide +kernel
theorem dX2_arcFrom_20 : decode cX2_arcFrom 20 = .ok (.iadd, 1) := by decide +kernel
theorem dX2_arcFrom_21 : decode cX2_arcFrom 21 = .ok (.ireturn, 1) := by decide +kernel
theorem dX2_endOf_0 : decode cX2_endOf 0 = .ok (.iload_n 1, 1) := by decide +kernel
theorem dX2_endOf_1 : decode cX2_endOf 1 = .ok (.iconst 1, 1) := by decide +kernel
theorem dX2_endOf_2 : decode cX2_endOf 2 = .ok (.iand, 1) := by decide +kernel
theorem dX2_endOf_3 : decode cX2_endOf 3 = .ok (.ifCond .ne 16, 3) := by decide +kernel
theorem dX2_endOf_6 : decode cX2_endOf 6 = .ok (.aload_n 0, 1) := by decide +kernel
theorem dX2_endOf_7 : decode cX2_endOf 7 = .ok (.getfield 14, 3) := by decide +kernel
theorem dX2_endOf_10 : decode cX2_endOf 10 = .ok (.iload_n 1, 1) := by decide +kernel
theorem dX2_endOf_11 : decode cX2_endOf 11 = .ok (.iconst 1, 1) := by decide +kernel
theorem dX2_endOf_12 : decode cX2_endOf 12 = .ok (.ishr, 1) := by decide +kernel
theorem dX2_endOf_13 : decode cX2_endOf 13 = .ok (.invokevirtual 58, 3) := by decide +kernel
theorem dX2_endOf_16 : decode cX2_endOf 16 = .ok (.goto 13, 3) := by decide +kernel
theorem dX2_endOf_19 : decode cX2_endOf 19 = .ok (.aload_n 0, 1) := by decide +kernel
theorem dX2_endOf_20 : decode cX2_endOf 20 = .ok (.getfield 20, 3) := by decide +kernel
theorem dX2_endOf_23 : decode cX2_endOf 23 = .ok (.iload_n 1, 1) := by decide +kernel
theorem dX2_endOf_24 : decode cX2_endOf 24 = .ok (.iconst 1, 1) := by decide +kernel
theorem dX2_endOf_25 : decode cX2_endOf 25 = .ok (.ishr, 1) := by decide +kernel
theorem dX2_endOf_26 : decode cX2_endOf 26 = .ok (.invokevirtual 58, 3) := by decide +kernel
theorem dX2_endOf_29 : decode cX2_endOf 29 = .ok (.ireturn, 1) := by decide +kernel
theorem dX2_otherEnd_0 : decode cX2_otherEnd 0 = .ok (.aload_n 0, 1) := by decide +kernel
theorem dX2_otherEnd_1 : decode cX2_otherEnd 1 = .ok (.aload_n 0, 1) := by decide +kernel
theorem dX2_otherEnd_2 : decode cX2_otherEnd 2 = .ok (.iload_n 1, 1) := by decide +kernel
theorem dX2_otherEnd_3 : decode cX2_otherEnd 3 = .ok (.iload_n 2, 1) := by decide +kernel
theorem dX2_otherEnd_4 : decode cX2_otherEnd 4 = .ok (.invokevirtual 66, 3) := by decide +kernel
theorem dX2_otherEnd_7 : decode cX2_otherEnd 7 = .ok (.invokevirtual 70, 3) := by decide +kernel
theorem dX2_otherEnd_10 : decode cX2_otherEnd 10 = .ok (.ireturn, 1) := by decide +kernel
theorem dX3_init_0 : decode cX3_init 0 = .ok (.aload_n 0, 1) := by decide +kernel
theorem dX3_init_1 : decode cX3_init 1 = .ok (.invokespecial 3, 3) := by decide +kernel
theorem dX3_init_4 : decode cX3_init 4 = .ok (.aload_n 0, 1) := by decide +kernel
theorem dX3_init_5 : decode cX3_init 5 = .ok (.new 9, 3) := by decide +kernel
theorem dX3_init_8 : decode cX3_init 8 = .ok (.dup, 1) := by decide +kernel
theorem dX3_init_9 : decode cX3_init 9 = .ok (.bipush 8, 2) := by decide +kernel
theorem dX3_init_11 : decode cX3_init 11 = .ok (.invokespecial 13, 3) := by decide +kernel
theorem dX3_init_14 : decode cX3_init 14 = .ok (.putfield 16, 3) := by decide +kernel
theorem dX3_init_17 : decode cX3_init 17 = .ok (.aload_n 0, 1) := by decide +kernel
theorem dX3_init_18 : decode cX3_init 18 = .ok (.new 9, 3) := by decide +kernel
theorem dX3_init_21 : decode cX3_init 21 = .ok (.dup, 1) := by decide +kernel
theorem dX3_init_22 : decode cX3_init 22 = .ok (.sipush 256, 3) := by decide +kernel
theorem dX3_init_25 : decode cX3_init 25 = .ok (.invokespecial 13, 3) := by decide +kernel
theorem dX3_init_28 : decode cX3_init 28 = .ok (.invokevirtual 22, 3) := by decide +kernel
theorem dX3_init_31 : decode cX3_init 31 = .ok (.putfield 26, 3) := by decide +kernel
theorem dX3_init_34 : decode cX3_init 34 = .ok (.aload_n 0, 1) := by decide +kernel
theorem dX3_init_35 : decode cX3_init 35 = .ok (.aload_n 1, 1) := by decide +kernel
theorem dX3_init_36 : decode cX3_init 36 = .ok (.putfield 29, 3) := by decide +kernel
theorem dX3_init_39 : decode cX3_init 39 = .ok (.aload_n 0, 1) := by decide +kernel
theorem dX3_init_40 : decode cX3_init 40 = .ok (.aload_n 2, 1) := by decide +kernel
theorem dX3_init_41 : decode cX3_init 41 = .ok (.putfield 33, 3) := by decide +kernel
theorem dX3_init_44 : decode cX3_init 44 = .ok (.return_, 1) := by decide +kernel
theorem dX3_noteCount_0 : decode cX3_noteCount 0 = .ok (.aload_n 0, 1) := by decide +kernel
theorem dX3_noteCount_1 : decode cX3_noteCount 1 = .ok (.getfield 16, 3) := by decide +kernel
theorem dX3_noteCount_4 : decode cX3_noteCount 4 = .ok (.invokevirtual 37, 3) := by decide +kernel
theorem dX3_noteCount_7 : decode cX3_noteCount 7 = .ok (.ireturn, 1) := by decide +kernel
theorem dX3_takeDown_0 : decode cX3_takeDown 0 = .ok (.aload_n 0, 1) := by decide +kernel
theorem dX3_takeDown_1 : decode cX3_takeDown 1 = .ok (.getfield 16, 3) := by decide +kernel
theorem dX3_takeDown_4 : decode cX3_takeDown 4 = .ok (.iload_n 1, 1) := by decide +kernel
theorem dX3_takeDown_5 : decode cX3_takeDown 5 = .ok (.invokevirtual 41, 3) := by decide +kernel
theorem dX3_takeDown_8 : decode cX3_takeDown 8 = .ok (.ireturn, 1) := by decide +kernel
theorem dX3_dropAll_0 : decode cX3_dropAll 0 = .ok (.aload_n 0, 1) := by decide +kernel
theorem dX3_dropAll_1 : decode cX3_dropAll 1 = .ok (.getfield 16, 3) := by decide +kernel
theorem dX3_dropAll_4 : decode cX3_dropAll 4 = .ok (.invokevirtual 45, 3) := by decide +kernel
theorem dX3_dropAll_7 : decode cX3_dropAll 7 = .ok (.ireturn, 1) := by decide +kernel
theorem dX3_waysFrom_0 : decode cX3_waysFrom 0 = .ok (.aload_n 0, 1) := by decide +kernel
theorem dX3_waysFrom_1 : decode cX3_waysFrom 1 = .ok (.invokevirtual 48, 3) := by decide +kernel
theorem dX3_waysFrom_4 : decode cX3_waysFrom 4 = .ok (.ifCond .ne 5, 3) := by decide +kernel
theorem dX3_waysFrom_7 : decode cX3_waysFrom 7 = .ok (.iconst 1, 1) := by decide +kernel
theorem dX3_waysFrom_8 : decode cX3_waysFrom 8 = .ok (.ireturn, 1) := by decide +kernel
theorem dX3_waysFrom_9 : decode cX3_waysFrom 9 = .ok (.aload_n 0, 1) := by decide +kernel
theorem dX3_waysFrom_10 : decode cX3_waysFrom 10 = .ok (.invokevirtual 48, 3) := by decide +kernel
theorem dX3_waysFrom_13 : decode cX3_waysFrom 13 = .ok (.iconst 1, 1) := by decide +kernel
theorem dX3_waysFrom_14 : decode cX3_waysFrom 14 = .ok (.isub, 1) := by decide +kernel
theorem dX3_waysFrom_15 : decode cX3_waysFrom 15 = .ok (.istore_n 2, 1) := by decide +kernel
theorem dX3_waysFrom_16 : decode cX3_waysFrom 16 = .ok (.iload_n 2, 1) := by decide +kernel
theorem dX3_waysFrom_17 : decode cX3_waysFrom 17 = .ok (.iconst 1, 1) := by decide +kernel
theorem dX3_waysFrom_18 : decode cX3_waysFrom 18 = .ok (.if_icmp .lt 59, 3) := by decide +kernel
theorem dX3_waysFrom_21 : decode cX3_waysFrom 21 = .ok (.iconst 0, 1) := by decide +kernel
theorem dX3_waysFrom_22 : decode cX3_waysFrom 22 = .ok (.istore_n 3, 1) := by decide +kernel
theorem dX3_waysFrom_23 : decode cX3_waysFrom 23 = .ok (.iload_n 3, 1) := by decide +kernel
theorem dX3_waysFrom_24 : decode cX3_waysFrom 24 = .ok (.iconst 2, 1) := by decide +kernel
theorem dX3_waysFrom_25 : decode cX3_waysFrom 25 = .ok (.aload_n 0, 1) := by decide +kernel
theorem dX3_waysFrom_26 : decode cX3_waysFrom 26 = .ok (.getfield 29, 3) := by decide +kernel
theorem dX3_waysFrom_29 : decode cX3_waysFrom 29 = .ok (.invokevirtual 51, 3) := by decide +kernel
theorem dX3_waysFrom_32 : decode cX3_waysFrom 32 = .ok (.imul, 1) := by decide +kernel
theorem dX3_waysFrom_33 : decode cX3_waysFrom 33 = .ok (.if_icmp .ge 38, 3) := by decide +kernel
theorem dX3_waysFrom_36 : decode cX3_waysFrom 36 = .ok (.aload_n 0, 1) := by decide +kernel
theorem dX3_waysFrom_37 : decode cX3_waysFrom 37 = .ok (.getfield 26, 3) := by decide +kernel
theorem dX3_waysFrom_40 : decode cX3_waysFrom 40 = .ok (.iload_n 2, 1) := by decide +kernel
theorem dX3_waysFrom_41 : decode cX3_waysFrom 41 = .ok (.bipush 32, 2) := by decide +kernel
theorem dX3_waysFrom_43 : decode cX3_waysFrom 43 = .ok (.imul, 1) := by decide +kernel
theorem dX3_waysFrom_44 : decode cX3_waysFrom 44 = .ok (.iload_n 3, 1) := by decide +kernel
theorem dX3_waysFrom_45 : decode cX3_waysFrom 45 = .ok (.iadd, 1) := by decide +kernel
theorem dX3_waysFrom_46 : decode cX3_waysFrom 46 = .ok (.aload_n 0, 1) := by decide +kernel
theorem dX3_waysFrom_47 : decode cX3_waysFrom 47 = .ok (.iload_n 2, 1) := by decide +kernel
theorem dX3_waysFrom_48 : decode cX3_waysFrom 48 = .ok (.aload_n 0, 1) := by decide +kernel
theorem dX3_waysFrom_49 : decode cX3_waysFrom 49 = .ok (.getfield 29, 3) := by decide +kernel
theorem dX3_waysFrom_52 : decode cX3_waysFrom 52 = .ok (.iload_n 3, 1) := by decide +kernel
theorem dX3_waysFrom_53 : decode cX3_waysFrom 53 = .ok (.invokevirtual 54, 3) := by decide +kernel
theorem dX3_waysFrom_56 : decode cX3_waysFrom 56 = .ok (.iload_n 3, 1) := by decide +kernel
theorem dX3_waysFrom_57 : decode cX3_waysFrom 57 = .ok (.iconst 1, 1) := by decide +kernel
theorem dX3_waysFrom_58 : decode cX3_waysFrom 58 = .ok (.ishr, 1) := by decide +kernel
theorem dX3_waysFrom_59 : decode cX3_waysFrom 59 = .ok (.invokevirtual 57, 3) := by decide +kernel
theorem dX3_waysFrom_62 : decode cX3_waysFrom 62 = .ok (.invokevirtual 61, 3) := by decide +kernel
theorem dX3_waysFrom_65 : decode cX3_waysFrom 65 = .ok (.iinc 3 1, 3) := by decide +kernel
theorem dX3_waysFrom_68 : decode cX3_waysFrom 68 = .ok (.goto (-45), 3) := by decide +kernel
theorem dX3_waysFrom_71 : decode cX3_waysFrom 71 = .ok (.iinc 2 (-1), 3) := by decide +kernel
theorem dX3_waysFrom_74 : decode cX3_waysFrom 74 = .ok (.goto (-58), 3) := by decide +kernel
theorem dX3_waysFrom_77 : decode cX3_waysFrom 77 = .ok (.aload_n 0, 1) := by decide +kernel
theorem dX3_waysFrom_78 : decode cX3_waysFrom 78 = .ok (.iconst 0, 1) := by decide +kernel
theorem dX3_waysFrom_79 : decode cX3_waysFrom 79 = .ok (.iload_n 1, 1) := by decide +kernel
theorem dX3_waysFrom_80 : decode cX3_waysFrom 80 = .ok (.iconst (-1), 1) := by decide +kernel
theorem dX3_waysFrom_81 : decode cX3_waysFrom 81 = .ok (.invokevirtual 57, 3) := by decide +kernel
theorem dX3_waysFrom_84 : decode cX3_waysFrom 84 = .ok (.ireturn, 1) := by decide +kernel
