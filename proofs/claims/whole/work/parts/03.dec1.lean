theorem dX10_init_198 : decode cX10_init 198 = .ok (.putfield 84, 3) := by decide +kernel
theorem dX10_init_201 : decode cX10_init 201 = .ok (.aload_n 0, 1) := by decide +kernel
theorem dX10_init_202 : decode cX10_init 202 = .ok (.bipush 8, 2) := by decide +kernel
theorem dX10_init_204 : decode cX10_init 204 = .ok (.newarray .int, 2) := by decide +kernel
theorem dX10_init_206 : decode cX10_init 206 = .ok (.putfield 87, 3) := by decide +kernel
theorem dX10_init_209 : decode cX10_init 209 = .ok (.return_, 1) := by decide +kernel
theorem dX10_in_0 : decode cX10_in 0 = .ok (.iload_n 0, 1) := by decide +kernel
theorem dX10_in_1 : decode cX10_in 1 = .ok (.iload_n 1, 1) := by decide +kernel
theorem dX10_in_2 : decode cX10_in 2 = .ok (.if_icmp .lt 12, 3) := by decide +kernel
theorem dX10_in_5 : decode cX10_in 5 = .ok (.iload_n 0, 1) := by decide +kernel
theorem dX10_in_6 : decode cX10_in 6 = .ok (.iload_n 2, 1) := by decide +kernel
theorem dX10_in_7 : decode cX10_in 7 = .ok (.if_icmp .gt 7, 3) := by decide +kernel
theorem dX10_in_10 : decode cX10_in 10 = .ok (.iconst 1, 1) := by decide +kernel
theorem dX10_in_11 : decode cX10_in 11 = .ok (.goto 4, 3) := by decide +kernel
theorem dX10_in_14 : decode cX10_in 14 = .ok (.iconst 0, 1) := by decide +kernel
theorem dX10_in_15 : decode cX10_in 15 = .ok (.ireturn, 1) := by decide +kernel
theorem dX10_isPlace_0 : decode cX10_isPlace 0 = .ok (.iload_n 0, 1) := by decide +kernel
theorem dX10_isPlace_1 : decode cX10_isPlace 1 = .ok (.iconst 0, 1) := by decide +kernel
theorem dX10_isPlace_2 : decode cX10_isPlace 2 = .ok (.bipush 9, 2) := by decide +kernel
theorem dX10_isPlace_4 : decode cX10_isPlace 4 = .ok (.invokestatic 90, 3) := by decide +kernel
theorem dX10_isPlace_7 : decode cX10_isPlace 7 = .ok (.ireturn, 1) := by decide +kernel
theorem dX10_isAt_0 : decode cX10_isAt 0 = .ok (.iload_n 1, 1) := by decide +kernel
theorem dX10_isAt_1 : decode cX10_isAt 1 = .ok (.iconst 0, 1) := by decide +kernel
theorem dX10_isAt_2 : decode cX10_isAt 2 = .ok (.aload_n 0, 1) := by decide +kernel
theorem dX10_isAt_3 : decode cX10_isAt 3 = .ok (.getfield 94, 3) := by decide +kernel
theorem dX10_isAt_6 : decode cX10_isAt 6 = .ok (.iconst 1, 1) := by decide +kernel
theorem dX10_isAt_7 : decode cX10_isAt 7 = .ok (.isub, 1) := by decide +kernel
theorem dX10_isAt_8 : decode cX10_isAt 8 = .ok (.invokestatic 90, 3) := by decide +kernel
theorem dX10_isAt_11 : decode cX10_isAt 11 = .ok (.ifCond .eq 27, 3) := by decide +kernel
theorem dX10_isAt_14 : decode cX10_isAt 14 = .ok (.aload_n 0, 1) := by decide +kernel
theorem dX10_isAt_15 : decode cX10_isAt 15 = .ok (.getfield 7, 3) := by decide +kernel
theorem dX10_isAt_18 : decode cX10_isAt 18 = .ok (.iload_n 1, 1) := by decide +kernel
theorem dX10_isAt_19 : decode cX10_isAt 19 = .ok (.iaload, 1) := by decide +kernel
theorem dX10_isAt_20 : decode cX10_isAt 20 = .ok (.iload_n 2, 1) := by decide +kernel
theorem dX10_isAt_21 : decode cX10_isAt 21 = .ok (.if_icmp .eq 13, 3) := by decide +kernel
theorem dX10_isAt_24 : decode cX10_isAt 24 = .ok (.aload_n 0, 1) := by decide +kernel
theorem dX10_isAt_25 : decode cX10_isAt 25 = .ok (.getfield 13, 3) := by decide +kernel
theorem dX10_isAt_28 : decode cX10_isAt 28 = .ok (.iload_n 1, 1) := by decide +kernel
theorem dX10_isAt_29 : decode cX10_isAt 29 = .ok (.iaload, 1) := by decide +kernel
theorem dX10_isAt_30 : decode cX10_isAt 30 = .ok (.iload_n 2, 1) := by decide +kernel
theorem dX10_isAt_31 : decode cX10_isAt 31 = .ok (.if_icmp .ne 7, 3) := by decide +kernel
theorem dX10_isAt_34 : decode cX10_isAt 34 = .ok (.iconst 1, 1) := by decide +kernel
theorem dX10_isAt_35 : decode cX10_isAt 35 = .ok (.goto 4, 3) := by decide +kernel
theorem dX10_isAt_38 : decode cX10_isAt 38 = .ok (.iconst 0, 1) := by decide +kernel
theorem dX10_isAt_39 : decode cX10_isAt 39 = .ok (.ireturn, 1) := by decide +kernel
theorem dX10_otherEnd_0 : decode cX10_otherEnd 0 = .ok (.aload_n 0, 1) := by decide +kernel
theorem dX10_otherEnd_1 : decode cX10_otherEnd 1 = .ok (.getfield 7, 3) := by decide +kernel
theorem dX10_otherEnd_4 : decode cX10_otherEnd 4 = .ok (.iload_n 1, 1) := by decide +kernel
theorem dX10_otherEnd_5 : decode cX10_otherEnd 5 = .ok (.iaload, 1) := by decide +kernel
theorem dX10_otherEnd_6 : decode cX10_otherEnd 6 = .ok (.iload_n 2, 1) := by decide +kernel
theorem dX10_otherEnd_7 : decode cX10_otherEnd 7 = .ok (.if_icmp .ne 12, 3) := by decide +kernel
theorem dX10_otherEnd_10 : decode cX10_otherEnd 10 = .ok (.aload_n 0, 1) := by decide +kernel
theorem dX10_otherEnd_11 : decode cX10_otherEnd 11 = .ok (.getfield 13, 3) := by decide +kernel
theorem dX10_otherEnd_14 : decode cX10_otherEnd 14 = .ok (.iload_n 1, 1) := by decide +kernel
theorem dX10_otherEnd_15 : decode cX10_otherEnd 15 = .ok (.iaload, 1) := by decide +kernel
theorem dX10_otherEnd_16 : decode cX10_otherEnd 16 = .ok (.goto 9, 3) := by decide +kernel
theorem dX10_otherEnd_19 : decode cX10_otherEnd 19 = .ok (.aload_n 0, 1) := by decide +kernel
theorem dX10_otherEnd_20 : decode cX10_otherEnd 20 = .ok (.getfield 7, 3) := by decide +kernel
theorem dX10_otherEnd_23 : decode cX10_otherEnd 23 = .ok (.iload_n 1, 1) := by decide +kernel
theorem dX10_otherEnd_24 : decode cX10_otherEnd 24 = .ok (.iaload, 1) := by decide +kernel
theorem dX10_otherEnd_25 : decode cX10_otherEnd 25 = .ok (.ireturn, 1) := by decide +kernel
theorem dX10_joins_0 : decode cX10_joins 0 = .ok (.iconst (-1), 1) := by decide +kernel
theorem dX10_joins_1 : decode cX10_joins 1 = .ok (.istore_n 3, 1) := by decide +kernel
theorem dX10_joins_2 : decode cX10_joins 2 = .ok (.iconst 0, 1) := by decide +kernel
theorem dX10_joins_3 : decode cX10_joins 3 = .ok (.istore 4, 2) := by decide +kernel
theorem dX10_joins_5 : decode cX10_joins 5 = .ok (.iload 4, 2) := by decide +kernel
theorem dX10_joins_7 : decode cX10_joins 7 = .ok (.aload_n 0, 1) := by decide +kernel
theorem dX10_joins_8 : decode cX10_joins 8 = .ok (.getfield 94, 3) := by decide +kernel
theorem dX10_joins_11 : decode cX10_joins 11 = .ok (.if_icmp .ge 41, 3) := by decide +kernel
theorem dX10_joins_14 : decode cX10_joins 14 = .ok (.aload_n 0, 1) := by decide +kernel
theorem dX10_joins_15 : decode cX10_joins 15 = .ok (.iload 4, 2) := by decide +kernel
theorem dX10_joins_17 : decode cX10_joins 17 = .ok (.iload_n 1, 1) := by decide +kernel
theorem dX10_joins_18 : decode cX10_joins 18 = .ok (.invokevirtual 97, 3) := by decide +kernel
theorem dX10_joins_21 : decode cX10_joins 21 = .ok (.ifCond .eq 23, 3) := by decide +kernel
theorem dX10_joins_24 : decode cX10_joins 24 = .ok (.aload_n 0, 1) := by decide +kernel
theorem dX10_joins_25 : decode cX10_joins 25 = .ok (.iload 4, 2) := by decide +kernel
theorem dX10_joins_27 : decode cX10_joins 27 = .ok (.iload_n 2, 1) := by decide +kernel
theorem dX10_joins_28 : decode cX10_joins 28 = .ok (.invokevirtual 97, 3) := by decide +kernel
theorem dX10_joins_31 : decode cX10_joins 31 = .ok (.ifCond .eq 13, 3) := by decide +kernel
theorem dX10_joins_34 : decode cX10_joins 34 = .ok (.iload_n 1, 1) := by decide +kernel
theorem dX10_joins_35 : decode cX10_joins 35 = .ok (.iload_n 2, 1) := by decide +kernel
theorem dX10_joins_36 : decode cX10_joins 36 = .ok (.if_icmp .eq 8, 3) := by decide +kernel
theorem dX10_joins_39 : decode cX10_joins 39 = .ok (.iload 4, 2) := by decide +kernel
theorem dX10_joins_41 : decode cX10_joins 41 = .ok (.goto 4, 3) := by decide +kernel
theorem dX10_joins_44 : decode cX10_joins 44 = .ok (.iload_n 3, 1) := by decide +kernel
theorem dX10_joins_45 : decode cX10_joins 45 = .ok (.istore_n 3, 1) := by decide +kernel
theorem dX10_joins_46 : decode cX10_joins 46 = .ok (.iinc 4 1, 3) := by decide +kernel
theorem dX10_joins_49 : decode cX10_joins 49 = .ok (.goto (-44), 3) := by decide +kernel
theorem dX10_joins_52 : decode cX10_joins 52 = .ok (.iload_n 3, 1) := by decide +kernel
theorem dX10_joins_53 : decode cX10_joins 53 = .ok (.ireturn, 1) := by decide +kernel
theorem dX10_pathsAt_0 : decode cX10_pathsAt 0 = .ok (.iconst 0, 1) := by decide +kernel
theorem dX10_pathsAt_1 : decode cX10_pathsAt 1 = .ok (.istore_n 2, 1) := by decide +kernel
theorem dX10_pathsAt_2 : decode cX10_pathsAt 2 = .ok (.iconst 0, 1) := by decide +kernel
theorem dX10_pathsAt_3 : decode cX10_pathsAt 3 = .ok (.istore_n 3, 1) := by decide +kernel
theorem dX10_pathsAt_4 : decode cX10_pathsAt 4 = .ok (.iload_n 3, 1) := by decide +kernel
theorem dX10_pathsAt_5 : decode cX10_pathsAt 5 = .ok (.aload_n 0, 1) := by decide +kernel
theorem dX10_pathsAt_6 : decode cX10_pathsAt 6 = .ok (.getfield 94, 3) := by decide +kernel
theorem dX10_pathsAt_9 : decode cX10_pathsAt 9 = .ok (.if_icmp .ge 28, 3) := by decide +kernel
theorem dX10_pathsAt_12 : decode cX10_pathsAt 12 = .ok (.iload_n 2, 1) := by decide +kernel
theorem dX10_pathsAt_13 : decode cX10_pathsAt 13 = .ok (.aload_n 0, 1) := by decide +kernel
theorem dX10_pathsAt_14 : decode cX10_pathsAt 14 = .ok (.iload_n 3, 1) := by decide +kernel
theorem dX10_pathsAt_15 : decode cX10_pathsAt 15 = .ok (.iload_n 1, 1) := by decide +kernel
theorem dX10_pathsAt_16 : decode cX10_pathsAt 16 = .ok (.invokevirtual 97, 3) := by decide +kernel
theorem dX10_pathsAt_19 : decode cX10_pathsAt 19 = .ok (.ifCond .eq 9, 3) := by decide +kernel
theorem dX10_pathsAt_22 : decode cX10_pathsAt 22 = .ok (.iconst 1, 1) := by decide +kernel
theorem dX10_pathsAt_23 : decode cX10_pathsAt 23 = .ok (.iload_n 3, 1) := by decide +kernel
theorem dX10_pathsAt_24 : decode cX10_pathsAt 24 = .ok (.ishl, 1) := by decide +kernel
theorem dX10_pathsAt_25 : decode cX10_pathsAt 25 = .ok (.goto 4, 3) := by decide +kernel
theorem dX10_pathsAt_28 : decode cX10_pathsAt 28 = .ok (.iconst 0, 1) := by decide +kernel
theorem dX10_pathsAt_29 : decode cX10_pathsAt 29 = .ok (.ior, 1) := by decide +kernel
theorem dX10_pathsAt_30 : decode cX10_pathsAt 30 = .ok (.istore_n 2, 1) := by decide +kernel
theorem dX10_pathsAt_31 : decode cX10_pathsAt 31 = .ok (.iinc 3 1, 3) := by decide +kernel
theorem dX10_pathsAt_34 : decode cX10_pathsAt 34 = .ok (.goto (-30), 3) := by decide +kernel
theorem dX10_pathsAt_37 : decode cX10_pathsAt 37 = .ok (.iload_n 2, 1) := by decide +kernel
theorem dX10_pathsAt_38 : decode cX10_pathsAt 38 = .ok (.ireturn, 1) := by decide +kernel
theorem dX10_path_0 : decode cX10_path 0 = .ok (.iload_n 1, 1) := by decide +kernel
theorem dX10_path_1 : decode cX10_path 1 = .ok (.invokestatic 101, 3) := by decide +kernel
theorem dX10_path_4 : decode cX10_path 4 = .ok (.ifCond .eq 10, 3) := by decide +kernel
theorem dX10_path_7 : decode cX10_path 7 = .ok (.iload_n 2, 1) := by decide +kernel
theorem dX10_path_8 : decode cX10_path 8 = .ok (.invokestatic 101, 3) := by decide +kernel
theorem dX10_path_11 : decode cX10_path 11 = .ok (.ifCond .ne 6, 3) := by decide +kernel
theorem dX10_path_14 : decode cX10_path 14 = .ok (.bipush (-2), 2) := by decide +kernel
theorem dX10_path_16 : decode cX10_path 16 = .ok (.ireturn, 1) := by decide +kernel
theorem dX10_path_17 : decode cX10_path 17 = .ok (.iload_n 1, 1) := by decide +kernel
theorem dX10_path_18 : decode cX10_path 18 = .ok (.iload_n 2, 1) := by decide +kernel
theorem dX10_path_19 : decode cX10_path 19 = .ok (.if_icmp .eq 13, 3) := by decide +kernel
theorem dX10_path_22 : decode cX10_path 22 = .ok (.iload_n 3, 1) := by decide +kernel
theorem dX10_path_23 : decode cX10_path 23 = .ok (.iconst 1, 1) := by decide +kernel
theorem dX10_path_24 : decode cX10_path 24 = .ok (.bipush 9, 2) := by decide +kernel
theorem dX10_path_26 : decode cX10_path 26 = .ok (.invokestatic 90, 3) := by decide +kernel
theorem dX10_path_29 : decode cX10_path 29 = .ok (.ifCond .ne 6, 3) := by decide +kernel
theorem dX10_path_32 : decode cX10_path 32 = .ok (.bipush (-3), 2) := by decide +kernel
theorem dX10_path_34 : decode cX10_path 34 = .ok (.ireturn, 1) := by decide +kernel
theorem dX10_path_35 : decode cX10_path 35 = .ok (.aload_n 0, 1) := by decide +kernel
theorem dX10_path_36 : decode cX10_path 36 = .ok (.iload_n 1, 1) := by decide +kernel
theorem dX10_path_37 : decode cX10_path 37 = .ok (.iload_n 2, 1) := by decide +kernel
theorem dX10_path_38 : decode cX10_path 38 = .ok (.invokevirtual 105, 3) := by decide +kernel
theorem dX10_path_41 : decode cX10_path 41 = .ok (.iconst (-1), 1) := by decide +kernel
theorem dX10_path_42 : decode cX10_path 42 = .ok (.if_icmp .eq 6, 3) := by decide +kernel
theorem dX10_path_45 : decode cX10_path 45 = .ok (.bipush (-4), 2) := by decide +kernel
theorem dX10_path_47 : decode cX10_path 47 = .ok (.ireturn, 1) := by decide +kernel
theorem dX10_path_48 : decode cX10_path 48 = .ok (.aload_n 0, 1) := by decide +kernel
theorem dX10_path_49 : decode cX10_path 49 = .ok (.getfield 94, 3) := by decide +kernel
theorem dX10_path_52 : decode cX10_path 52 = .ok (.bipush 16, 2) := by decide +kernel
theorem dX10_path_54 : decode cX10_path 54 = .ok (.if_icmp .ne 6, 3) := by decide +kernel
theorem dX10_path_57 : decode cX10_path 57 = .ok (.bipush (-5), 2) := by decide +kernel
theorem dX10_path_59 : decode cX10_path 59 = .ok (.ireturn, 1) := by decide +kernel
theorem dX10_path_60 : decode cX10_path 60 = .ok (.aload_n 0, 1) := by decide +kernel
theorem dX10_path_61 : decode cX10_path 61 = .ok (.getfield 7, 3) := by decide +kernel
theorem dX10_path_64 : decode cX10_path 64 = .ok (.aload_n 0, 1) := by decide +kernel
theorem dX10_path_65 : decode cX10_path 65 = .ok (.getfield 94, 3) := by decide +kernel
theorem dX10_path_68 : decode cX10_path 68 = .ok (.iload_n 1, 1) := by decide +kernel
theorem dX10_path_69 : decode cX10_path 69 = .ok (.iastore, 1) := by decide +kernel
theorem dX10_path_70 : decode cX10_path 70 = .ok (.aload_n 0, 1) := by decide +kernel
theorem dX10_path_71 : decode cX10_path 71 = .ok (.getfield 13, 3) := by decide +kernel
theorem dX10_path_74 : decode cX10_path 74 = .ok (.aload_n 0, 1) := by decide +kernel
theorem dX10_path_75 : decode cX10_path 75 = .ok (.getfield 94, 3) := by decide +kernel
theorem dX10_path_78 : decode cX10_path 78 = .ok (.iload_n 2, 1) := by decide +kernel
theorem dX10_path_79 : decode cX10_path 79 = .ok (.iastore, 1) := by decide +kernel
theorem dX10_path_80 : decode cX10_path 80 = .ok (.aload_n 0, 1) := by decide +kernel
theorem dX10_path_81 : decode cX10_path 81 = .ok (.getfield 16, 3) := by decide +kernel
theorem dX10_path_84 : decode cX10_path 84 = .ok (.aload_n 0, 1) := by decide +kernel
theorem dX10_path_85 : decode cX10_path 85 = .ok (.getfield 94, 3) := by decide +kernel
theorem dX10_path_88 : decode cX10_path 88 = .ok (.iload_n 3, 1) := by decide +kernel
theorem dX10_path_89 : decode cX10_path 89 = .ok (.iastore, 1) := by decide +kernel
theorem dX10_path_90 : decode cX10_path 90 = .ok (.aload_n 0, 1) := by decide +kernel
theorem dX10_path_91 : decode cX10_path 91 = .ok (.dup, 1) := by decide +kernel
theorem dX10_path_92 : decode cX10_path 92 = .ok (.getfield 94, 3) := by decide +kernel
theorem dX10_path_95 : decode cX10_path 95 = .ok (.iconst 1, 1) := by decide +kernel
theorem dX10_path_96 : decode cX10_path 96 = .ok (.iadd, 1) := by decide +kernel
theorem dX10_path_97 : decode cX10_path 97 = .ok (.putfield 94, 3) := by decide +kernel
theorem dX10_path_100 : decode cX10_path 100 = .ok (.aload_n 0, 1) := by decide +kernel
theorem dX10_path_101 : decode cX10_path 101 = .ok (.getfield 94, 3) := by decide +kernel
theorem dX10_path_104 : decode cX10_path 104 = .ok (.iconst 1, 1) := by decide +kernel
theorem dX10_path_105 : decode cX10_path 105 = .ok (.isub, 1) := by decide +kernel
theorem dX10_path_106 : decode cX10_path 106 = .ok (.ireturn, 1) := by decide +kernel
theorem dX10_weather_0 : decode cX10_weather 0 = .ok (.iload_n 1, 1) := by decide +kernel
theorem dX10_weather_1 : decode cX10_weather 1 = .ok (.iconst 0, 1) := by decide +kernel
theorem dX10_weather_2 : decode cX10_weather 2 = .ok (.iconst 2, 1) := by decide +kernel
theorem dX10_weather_3 : decode cX10_weather 3 = .ok (.invokestatic 90, 3) := by decide +kernel
theorem dX10_weather_6 : decode cX10_weather 6 = .ok (.ifCond .ne 6, 3) := by decide +kernel
theorem dX10_weather_9 : decode cX10_weather 9 = .ok (.bipush (-3), 2) := by decide +kernel
theorem dX10_weather_11 : decode cX10_weather 11 = .ok (.ireturn, 1) := by decide +kernel
theorem dX10_weather_12 : decode cX10_weather 12 = .ok (.aload_n 0, 1) := by decide +kernel
theorem dX10_weather_13 : decode cX10_weather 13 = .ok (.getfield 109, 3) := by decide +kernel
theorem dX10_weather_16 : decode cX10_weather 16 = .ok (.istore_n 2, 1) := by decide +kernel
theorem dX10_weather_17 : decode cX10_weather 17 = .ok (.aload_n 0, 1) := by decide +kernel
theorem dX10_weather_18 : decode cX10_weather 18 = .ok (.iload_n 1, 1) := by decide +kernel
theorem dX10_weather_19 : decode cX10_weather 19 = .ok (.putfield 109, 3) := by decide +kernel
theorem dX10_weather_22 : decode cX10_weather 22 = .ok (.iload_n 2, 1) := by decide +kernel
theorem dX10_weather_23 : decode cX10_weather 23 = .ok (.ireturn, 1) := by decide +kernel
theorem dX10_days_0 : decode cX10_days 0 = .ok (.iload_n 1, 1) := by decide +kernel
theorem dX10_days_1 : decode cX10_days 1 = .ok (.iconst 1, 1) := by decide +kernel
theorem dX10_days_2 : decode cX10_days 2 = .ok (.bipush 30, 2) := by decide +kernel
theorem dX10_days_4 : decode cX10_days 4 = .ok (.invokestatic 90, 3) := by decide +kernel
theorem dX10_days_7 : decode cX10_days 7 = .ok (.ifCond .eq 15, 3) := by decide +kernel
theorem dX10_days_10 : decode cX10_days 10 = .ok (.aload_n 0, 1) := by decide +kernel
theorem dX10_days_11 : decode cX10_days 11 = .ok (.getfield 112, 3) := by decide +kernel
theorem dX10_days_14 : decode cX10_days 14 = .ok (.iload_n 1, 1) := by decide +kernel
theorem dX10_days_15 : decode cX10_days 15 = .ok (.iadd, 1) := by decide +kernel
theorem dX10_days_16 : decode cX10_days 16 = .ok (.sipush 400, 3) := by decide +kernel
theorem dX10_days_19 : decode cX10_days 19 = .ok (.if_icmp .le 6, 3) := by decide +kernel
theorem dX10_days_22 : decode cX10_days 22 = .ok (.bipush (-3), 2) := by decide +kernel
theorem dX10_days_24 : decode cX10_days 24 = .ok (.ireturn, 1) := by decide +kernel
theorem dX10_days_25 : decode cX10_days 25 = .ok (.aload_n 0, 1) := by decide +kernel
theorem dX10_days_26 : decode cX10_days 26 = .ok (.dup, 1) := by decide +kernel
theorem dX10_days_27 : decode cX10_days 27 = .ok (.getfield 112, 3) := by decide +kernel
theorem dX10_days_30 : decode cX10_days 30 = .ok (.iload_n 1, 1) := by decide +kernel
theorem dX10_days_31 : decode cX10_days 31 = .ok (.iadd, 1) := by decide +kernel
theorem dX10_days_32 : decode cX10_days 32 = .ok (.putfield 112, 3) := by decide +kernel
theorem dX10_days_35 : decode cX10_days 35 = .ok (.iconst 0, 1) := by decide +kernel
theorem dX10_days_36 : decode cX10_days 36 = .ok (.istore_n 2, 1) := by decide +kernel
theorem dX10_days_37 : decode cX10_days 37 = .ok (.iload_n 2, 1) := by decide +kernel
theorem dX10_days_38 : decode cX10_days 38 = .ok (.aload_n 0, 1) := by decide +kernel
theorem dX10_days_39 : decode cX10_days 39 = .ok (.getfield 115, 3) := by decide +kernel
theorem dX10_days_42 : decode cX10_days 42 = .ok (.if_icmp .ge 67, 3) := by decide +kernel
theorem dX10_days_45 : decode cX10_days 45 = .ok (.iload_n 1, 1) := by decide +kernel
theorem dX10_days_46 : decode cX10_days 46 = .ok (.aload_n 0, 1) := by decide +kernel
theorem dX10_days_47 : decode cX10_days 47 = .ok (.getfield 22, 3) := by decide +kernel
theorem dX10_days_50 : decode cX10_days 50 = .ok (.iload_n 2, 1) := by decide +kernel
theorem dX10_days_51 : decode cX10_days 51 = .ok (.iaload, 1) := by decide +kernel
theorem dX10_days_52 : decode cX10_days 52 = .ok (.iconst 2, 1) := by decide +kernel
theorem dX10_days_53 : decode cX10_days 53 = .ok (.if_icmp .eq 10, 3) := by decide +kernel
theorem dX10_days_56 : decode cX10_days 56 = .ok (.aload_n 0, 1) := by decide +kernel
theorem dX10_days_57 : decode cX10_days 57 = .ok (.getfield 109, 3) := by decide +kernel
theorem dX10_days_60 : decode cX10_days 60 = .ok (.ifCond .ne 7, 3) := by decide +kernel
theorem dX10_days_63 : decode cX10_days 63 = .ok (.iconst 1, 1) := by decide +kernel
theorem dX10_days_64 : decode cX10_days 64 = .ok (.goto 9, 3) := by decide +kernel
theorem dX10_days_67 : decode cX10_days 67 = .ok (.iconst 2, 1) := by decide +kernel
theorem dX10_days_68 : decode cX10_days 68 = .ok (.aload_n 0, 1) := by decide +kernel
theorem dX10_days_69 : decode cX10_days 69 = .ok (.getfield 109, 3) := by decide +kernel
theorem dX10_days_72 : decode cX10_days 72 = .ok (.imul, 1) := by decide +kernel
theorem dX10_days_73 : decode cX10_days 73 = .ok (.imul, 1) := by decide +kernel
theorem dX10_days_74 : decode cX10_days 74 = .ok (.istore_n 3, 1) := by decide +kernel
theorem dX10_days_75 : decode cX10_days 75 = .ok (.aload_n 0, 1) := by decide +kernel
theorem dX10_days_76 : decode cX10_days 76 = .ok (.getfield 28, 3) := by decide +kernel
theorem dX10_days_79 : decode cX10_days 79 = .ok (.iload_n 2, 1) := by decide +kernel
theorem dX10_days_80 : decode cX10_days 80 = .ok (.aload_n 0, 1) := by decide +kernel
theorem dX10_days_81 : decode cX10_days 81 = .ok (.getfield 28, 3) := by decide +kernel
theorem dX10_days_84 : decode cX10_days 84 = .ok (.iload_n 2, 1) := by decide +kernel
theorem dX10_days_85 : decode cX10_days 85 = .ok (.iaload, 1) := by decide +kernel
theorem dX10_days_86 : decode cX10_days 86 = .ok (.iload_n 3, 1) := by decide +kernel
theorem dX10_days_87 : decode cX10_days 87 = .ok (.if_icmp .ge 7, 3) := by decide +kernel
theorem dX10_days_90 : decode cX10_days 90 = .ok (.iconst 0, 1) := by decide +kernel
theorem dX10_days_91 : decode cX10_days 91 = .ok (.goto 11, 3) := by decide +kernel
theorem dX10_days_94 : decode cX10_days 94 = .ok (.aload_n 0, 1) := by decide +kernel
theorem dX10_days_95 : decode cX10_days 95 = .ok (.getfield 28, 3) := by decide +kernel
theorem dX10_days_98 : decode cX10_days 98 = .ok (.iload_n 2, 1) := by decide +kernel
theorem dX10_days_99 : decode cX10_days 99 = .ok (.iaload, 1) := by decide +kernel
theorem dX10_days_100 : decode cX10_days 100 = .ok (.iload_n 3, 1) := by decide +kernel
theorem dX10_days_101 : decode cX10_days 101 = .ok (.isub, 1) := by decide +kernel
theorem dX10_days_102 : decode cX10_days 102 = .ok (.iastore, 1) := by decide +kernel
theorem dX10_days_103 : decode cX10_days 103 = .ok (.iinc 2 1, 3) := by decide +kernel
theorem dX10_days_106 : decode cX10_days 106 = .ok (.goto (-69), 3) := by decide +kernel
theorem dX10_days_109 : decode cX10_days 109 = .ok (.aload_n 0, 1) := by decide +kernel
theorem dX10_days_110 : decode cX10_days 110 = .ok (.getfield 112, 3) := by decide +kernel
theorem dX10_days_113 : decode cX10_days 113 = .ok (.ireturn, 1) := by decide +kernel
theorem dX10_sign_0 : decode cX10_sign 0 = .ok (.iload_n 1, 1) := by decide +kernel
theorem dX10_sign_1 : decode cX10_sign 1 = .ok (.invokestatic 101, 3) := by decide +kernel
theorem dX10_sign_4 : decode cX10_sign 4 = .ok (.ifCond .eq 21, 3) := by decide +kernel
theorem dX10_sign_7 : decode cX10_sign 7 = .ok (.iload_n 2, 1) := by decide +kernel
theorem dX10_sign_8 : decode cX10_sign 8 = .ok (.iconst 0, 1) := by decide +kernel
theorem dX10_sign_9 : decode cX10_sign 9 = .ok (.iconst 1, 1) := by decide +kernel
theorem dX10_sign_10 : decode cX10_sign 10 = .ok (.invokestatic 90, 3) := by decide +kernel
theorem dX10_sign_13 : decode cX10_sign 13 = .ok (.ifCond .eq 15, 3) := by decide +kernel
theorem dX10_sign_16 : decode cX10_sign 16 = .ok (.aload_n 0, 1) := by decide +kernel
theorem dX10_sign_17 : decode cX10_sign 17 = .ok (.iload_n 3, 1) := by decide +kernel
theorem dX10_sign_18 : decode cX10_sign 18 = .ok (.iload_n 1, 1) := by decide +kernel
theorem dX10_sign_19 : decode cX10_sign 19 = .ok (.invokevirtual 97, 3) := by decide +kernel
theorem dX10_sign_22 : decode cX10_sign 22 = .ok (.ifCond .ne 6, 3) := by decide +kernel
theorem dX10_sign_25 : decode cX10_sign 25 = .ok (.bipush (-2), 2) := by decide +kernel
theorem dX10_sign_27 : decode cX10_sign 27 = .ok (.ireturn, 1) := by decide +kernel
theorem dX10_sign_28 : decode cX10_sign 28 = .ok (.iload_n 2, 1) := by decide +kernel
theorem dX10_sign_29 : decode cX10_sign 29 = .ok (.iconst 0, 1) := by decide +kernel
theorem dX10_sign_30 : decode cX10_sign 30 = .ok (.iconst 3, 1) := by decide +kernel
theorem dX10_sign_31 : decode cX10_sign 31 = .ok (.invokestatic 90, 3) := by decide +kernel
theorem dX10_sign_34 : decode cX10_sign 34 = .ok (.ifCond .eq 56, 3) := by decide +kernel
theorem dX10_sign_37 : decode cX10_sign 37 = .ok (.iload_n 2, 1) := by decide +kernel
theorem dX10_sign_38 : decode cX10_sign 38 = .ok (.iconst 2, 1) := by decide +kernel
theorem dX10_sign_39 : decode cX10_sign 39 = .ok (.if_icmp .ne 13, 3) := by decide +kernel
theorem dX10_sign_42 : decode cX10_sign 42 = .ok (.iload_n 3, 1) := by decide +kernel
theorem dX10_sign_43 : decode cX10_sign 43 = .ok (.iconst 0, 1) := by decide +kernel
theorem dX10_sign_44 : decode cX10_sign 44 = .ok (.bipush 9, 2) := by decide +kernel
theorem dX10_sign_46 : decode cX10_sign 46 = .ok (.invokestatic 90, 3) := by decide +kernel
theorem dX10_sign_49 : decode cX10_sign 49 = .ok (.ifCond .eq 41, 3) := by decide +kernel
theorem dX10_sign_52 : decode cX10_sign 52 = .ok (.iload_n 2, 1) := by decide +kernel
theorem dX10_sign_53 : decode cX10_sign 53 = .ok (.iconst 3, 1) := by decide +kernel
theorem dX10_sign_54 : decode cX10_sign 54 = .ok (.if_icmp .ne 12, 3) := by decide +kernel
theorem dX10_sign_57 : decode cX10_sign 57 = .ok (.iload_n 3, 1) := by decide +kernel
theorem dX10_sign_58 : decode cX10_sign 58 = .ok (.iconst 0, 1) := by decide +kernel
theorem dX10_sign_59 : decode cX10_sign 59 = .ok (.iconst 5, 1) := by decide +kernel
theorem dX10_sign_60 : decode cX10_sign 60 = .ok (.invokestatic 90, 3) := by decide +kernel
theorem dX10_sign_63 : decode cX10_sign 63 = .ok (.ifCond .eq 27, 3) := by decide +kernel
theorem dX10_sign_66 : decode cX10_sign 66 = .ok (.iload 4, 2) := by decide +kernel
theorem dX10_sign_68 : decode cX10_sign 68 = .ok (.iconst 1, 1) := by decide +kernel
theorem dX10_sign_69 : decode cX10_sign 69 = .ok (.bipush 60, 2) := by decide +kernel
theorem dX10_sign_71 : decode cX10_sign 71 = .ok (.invokestatic 90, 3) := by decide +kernel
theorem dX10_sign_74 : decode cX10_sign 74 = .ok (.ifCond .eq 16, 3) := by decide +kernel
theorem dX10_sign_77 : decode cX10_sign 77 = .ok (.iload 5, 2) := by decide +kernel
theorem dX10_sign_79 : decode cX10_sign 79 = .ok (.aload_n 0, 1) := by decide +kernel
theorem dX10_sign_80 : decode cX10_sign 80 = .ok (.iload_n 1, 1) := by decide +kernel
theorem dX10_sign_81 : decode cX10_sign 81 = .ok (.invokevirtual 118, 3) := by decide +kernel
theorem dX10_sign_84 : decode cX10_sign 84 = .ok (.iconst (-1), 1) := by decide +kernel
theorem dX10_sign_85 : decode cX10_sign 85 = .ok (.ixor, 1) := by decide +kernel
theorem dX10_sign_86 : decode cX10_sign 86 = .ok (.iand, 1) := by decide +kernel
theorem dX10_sign_87 : decode cX10_sign 87 = .ok (.ifCond .eq 6, 3) := by decide +kernel
theorem dX10_sign_90 : decode cX10_sign 90 = .ok (.bipush (-3), 2) := by decide +kernel
theorem dX10_sign_92 : decode cX10_sign 92 = .ok (.ireturn, 1) := by decide +kernel
theorem dX10_sign_93 : decode cX10_sign 93 = .ok (.aload_n 0, 1) := by decide +kernel
theorem dX10_sign_94 : decode cX10_sign 94 = .ok (.getfield 115, 3) := by decide +kernel
theorem dX10_sign_97 : decode cX10_sign 97 = .ok (.bipush 24, 2) := by decide +kernel
theorem dX10_sign_99 : decode cX10_sign 99 = .ok (.if_icmp .ne 6, 3) := by decide +kernel
theorem dX10_sign_102 : decode cX10_sign 102 = .ok (.bipush (-5), 2) := by decide +kernel
theorem dX10_sign_104 : decode cX10_sign 104 = .ok (.ireturn, 1) := by decide +kernel
theorem dX10_sign_105 : decode cX10_sign 105 = .ok (.aload_n 0, 1) := by decide +kernel
theorem dX10_sign_106 : decode cX10_sign 106 = .ok (.getfield 19, 3) := by decide +kernel
theorem dX10_sign_109 : decode cX10_sign 109 = .ok (.aload_n 0, 1) := by decide +kernel
theorem dX10_sign_110 : decode cX10_sign 110 = .ok (.getfield 115, 3) := by decide +kernel
theorem dX10_sign_113 : decode cX10_sign 113 = .ok (.iload_n 1, 1) := by decide +kernel
theorem dX10_sign_114 : decode cX10_sign 114 = .ok (.iastore, 1) := by decide +kernel
theorem dX10_sign_115 : decode cX10_sign 115 = .ok (.aload_n 0, 1) := by decide +kernel
theorem dX10_sign_116 : decode cX10_sign 116 = .ok (.getfield 22, 3) := by decide +kernel
theorem dX10_sign_119 : decode cX10_sign 119 = .ok (.aload_n 0, 1) := by decide +kernel
theorem dX10_sign_120 : decode cX10_sign 120 = .ok (.getfield 115, 3) := by decide +kernel
theorem dX10_sign_123 : decode cX10_sign 123 = .ok (.iload_n 2, 1) := by decide +kernel
theorem dX10_sign_124 : decode cX10_sign 124 = .ok (.iastore, 1) := by decide +kernel
theorem dX10_sign_125 : decode cX10_sign 125 = .ok (.aload_n 0, 1) := by decide +kernel
theorem dX10_sign_126 : decode cX10_sign 126 = .ok (.getfield 25, 3) := by decide +kernel
theorem dX10_sign_129 : decode cX10_sign 129 = .ok (.aload_n 0, 1) := by decide +kernel
theorem dX10_sign_130 : decode cX10_sign 130 = .ok (.getfield 115, 3) := by decide +kernel
theorem dX10_sign_133 : decode cX10_sign 133 = .ok (.iload_n 3, 1) := by decide +kernel
theorem dX10_sign_134 : decode cX10_sign 134 = .ok (.iastore, 1) := by decide +kernel
theorem dX10_sign_135 : decode cX10_sign 135 = .ok (.aload_n 0, 1) := by decide +kernel
theorem dX10_sign_136 : decode cX10_sign 136 = .ok (.getfield 28, 3) := by decide +kernel
theorem dX10_sign_139 : decode cX10_sign 139 = .ok (.aload_n 0, 1) := by decide +kernel
theorem dX10_sign_140 : decode cX10_sign 140 = .ok (.getfield 115, 3) := by decide +kernel
theorem dX10_sign_143 : decode cX10_sign 143 = .ok (.iload 4, 2) := by decide +kernel
theorem dX10_sign_145 : decode cX10_sign 145 = .ok (.iastore, 1) := by decide +kernel
theorem dX10_sign_146 : decode cX10_sign 146 = .ok (.aload_n 0, 1) := by decide +kernel
theorem dX10_sign_147 : decode cX10_sign 147 = .ok (.getfield 31, 3) := by decide +kernel
theorem dX10_sign_150 : decode cX10_sign 150 = .ok (.aload_n 0, 1) := by decide +kernel
theorem dX10_sign_151 : decode cX10_sign 151 = .ok (.getfield 115, 3) := by decide +kernel
theorem dX10_sign_154 : decode cX10_sign 154 = .ok (.aload_n 0, 1) := by decide +kernel
theorem dX10_sign_155 : decode cX10_sign 155 = .ok (.getfield 112, 3) := by decide +kernel
theorem dX10_sign_158 : decode cX10_sign 158 = .ok (.iastore, 1) := by decide +kernel
theorem dX10_sign_159 : decode cX10_sign 159 = .ok (.aload_n 0, 1) := by decide +kernel
theorem dX10_sign_160 : decode cX10_sign 160 = .ok (.getfield 34, 3) := by decide +kernel
theorem dX10_sign_163 : decode cX10_sign 163 = .ok (.aload_n 0, 1) := by decide +kernel
theorem dX10_sign_164 : decode cX10_sign 164 = .ok (.getfield 115, 3) := by decide +kernel
theorem dX10_sign_167 : decode cX10_sign 167 = .ok (.iload 5, 2) := by decide +kernel
theorem dX10_sign_169 : decode cX10_sign 169 = .ok (.iastore, 1) := by decide +kernel
theorem dX10_sign_170 : decode cX10_sign 170 = .ok (.aload_n 0, 1) := by decide +kernel
theorem dX10_sign_171 : decode cX10_sign 171 = .ok (.getfield 37, 3) := by decide +kernel
theorem dX10_sign_174 : decode cX10_sign 174 = .ok (.aload_n 0, 1) := by decide +kernel
theorem dX10_sign_175 : decode cX10_sign 175 = .ok (.getfield 115, 3) := by decide +kernel
theorem dX10_sign_178 : decode cX10_sign 178 = .ok (.iload 6, 2) := by decide +kernel
theorem dX10_sign_180 : decode cX10_sign 180 = .ok (.bastore, 1) := by decide +kernel
theorem dX10_sign_181 : decode cX10_sign 181 = .ok (.aload_n 0, 1) := by decide +kernel
theorem dX10_sign_182 : decode cX10_sign 182 = .ok (.getfield 41, 3) := by decide +kernel
theorem dX10_sign_185 : decode cX10_sign 185 = .ok (.aload_n 0, 1) := by decide +kernel
theorem dX10_sign_186 : decode cX10_sign 186 = .ok (.getfield 115, 3) := by decide +kernel
theorem dX10_sign_189 : decode cX10_sign 189 = .ok (.iconst 0, 1) := by decide +kernel
theorem dX10_sign_190 : decode cX10_sign 190 = .ok (.bastore, 1) := by decide +kernel
theorem dX10_sign_191 : decode cX10_sign 191 = .ok (.aload_n 0, 1) := by decide +kernel
theorem dX10_sign_192 : decode cX10_sign 192 = .ok (.dup, 1) := by decide +kernel
theorem dX10_sign_193 : decode cX10_sign 193 = .ok (.getfield 115, 3) := by decide +kernel
theorem dX10_sign_196 : decode cX10_sign 196 = .ok (.iconst 1, 1) := by decide +kernel
theorem dX10_sign_197 : decode cX10_sign 197 = .ok (.iadd, 1) := by decide +kernel
theorem dX10_sign_198 : decode cX10_sign 198 = .ok (.putfield 115, 3) := by decide +kernel
theorem dX10_sign_201 : decode cX10_sign 201 = .ok (.aload_n 0, 1) := by decide +kernel
theorem dX10_sign_202 : decode cX10_sign 202 = .ok (.getfield 115, 3) := by decide +kernel
theorem dX10_sign_205 : decode cX10_sign 205 = .ok (.iconst 1, 1) := by decide +kernel
theorem dX10_sign_206 : decode cX10_sign 206 = .ok (.isub, 1) := by decide +kernel
theorem dX10_sign_207 : decode cX10_sign 207 = .ok (.ireturn, 1) := by decide +kernel
theorem dX10_turn_0 : decode cX10_turn 0 = .ok (.iload_n 1, 1) := by decide +kernel
theorem dX10_turn_1 : decode cX10_turn 1 = .ok (.iconst 0, 1) := by decide +kernel
theorem dX10_turn_2 : decode cX10_turn 2 = .ok (.aload_n 0, 1) := by decide +kernel
theorem dX10_turn_3 : decode cX10_turn 3 = .ok (.getfield 115, 3) := by decide +kernel
theorem dX10_turn_6 : decode cX10_turn 6 = .ok (.iconst 1, 1) := by decide +kernel
theorem dX10_turn_7 : decode cX10_turn 7 = .ok (.isub, 1) := by decide +kernel
theorem dX10_turn_8 : decode cX10_turn 8 = .ok (.invokestatic 90, 3) := by decide +kernel
theorem dX10_turn_11 : decode cX10_turn 11 = .ok (.ifCond .eq 17, 3) := by decide +kernel
theorem dX10_turn_14 : decode cX10_turn 14 = .ok (.aload_n 0, 1) := by decide +kernel
theorem dX10_turn_15 : decode cX10_turn 15 = .ok (.iload_n 2, 1) := by decide +kernel
theorem dX10_turn_16 : decode cX10_turn 16 = .ok (.aload_n 0, 1) := by decide +kernel
theorem dX10_turn_17 : decode cX10_turn 17 = .ok (.getfield 19, 3) := by decide +kernel
theorem dX10_turn_20 : decode cX10_turn 20 = .ok (.iload_n 1, 1) := by decide +kernel
theorem dX10_turn_21 : decode cX10_turn 21 = .ok (.iaload, 1) := by decide +kernel
theorem dX10_turn_22 : decode cX10_turn 22 = .ok (.invokevirtual 97, 3) := by decide +kernel
theorem dX10_turn_25 : decode cX10_turn 25 = .ok (.ifCond .ne 6, 3) := by decide +kernel
theorem dX10_turn_28 : decode cX10_turn 28 = .ok (.bipush (-2), 2) := by decide +kernel
theorem dX10_turn_30 : decode cX10_turn 30 = .ok (.ireturn, 1) := by decide +kernel
theorem dX10_turn_31 : decode cX10_turn 31 = .ok (.aload_n 0, 1) := by decide +kernel
theorem dX10_turn_32 : decode cX10_turn 32 = .ok (.getfield 22, 3) := by decide +kernel
theorem dX10_turn_35 : decode cX10_turn 35 = .ok (.iload_n 1, 1) := by decide +kernel
theorem dX10_turn_36 : decode cX10_turn 36 = .ok (.iaload, 1) := by decide +kernel
theorem dX10_turn_37 : decode cX10_turn 37 = .ok (.ifCond .ne 22, 3) := by decide +kernel
theorem dX10_turn_40 : decode cX10_turn 40 = .ok (.aload_n 0, 1) := by decide +kernel
theorem dX10_turn_41 : decode cX10_turn 41 = .ok (.getfield 28, 3) := by decide +kernel
theorem dX10_turn_44 : decode cX10_turn 44 = .ok (.iload_n 1, 1) := by decide +kernel
theorem dX10_turn_45 : decode cX10_turn 45 = .ok (.iaload, 1) := by decide +kernel
theorem dX10_turn_46 : decode cX10_turn 46 = .ok (.ifCond .eq 13, 3) := by decide +kernel
theorem dX10_turn_49 : decode cX10_turn 49 = .ok (.aload_n 0, 1) := by decide +kernel
theorem dX10_turn_50 : decode cX10_turn 50 = .ok (.getfield 25, 3) := by decide +kernel
theorem dX10_turn_53 : decode cX10_turn 53 = .ok (.iload_n 1, 1) := by decide +kernel
theorem dX10_turn_54 : decode cX10_turn 54 = .ok (.iaload, 1) := by decide +kernel
theorem dX10_turn_55 : decode cX10_turn 55 = .ok (.iload_n 2, 1) := by decide +kernel
theorem dX10_turn_56 : decode cX10_turn 56 = .ok (.if_icmp .ne 6, 3) := by decide +kernel
theorem dX10_turn_59 : decode cX10_turn 59 = .ok (.bipush (-4), 2) := by decide +kernel
theorem dX10_turn_61 : decode cX10_turn 61 = .ok (.ireturn, 1) := by decide +kernel
theorem dX10_turn_62 : decode cX10_turn 62 = .ok (.aload_n 0, 1) := by decide +kernel
theorem dX10_turn_63 : decode cX10_turn 63 = .ok (.getfield 25, 3) := by decide +kernel
theorem dX10_turn_66 : decode cX10_turn 66 = .ok (.iload_n 1, 1) := by decide +kernel
theorem dX10_turn_67 : decode cX10_turn 67 = .ok (.iaload, 1) := by decide +kernel
theorem dX10_turn_68 : decode cX10_turn 68 = .ok (.istore_n 3, 1) := by decide +kernel
theorem dX10_turn_69 : decode cX10_turn 69 = .ok (.aload_n 0, 1) := by decide +kernel
theorem dX10_turn_70 : decode cX10_turn 70 = .ok (.getfield 25, 3) := by decide +kernel
theorem dX10_turn_73 : decode cX10_turn 73 = .ok (.iload_n 1, 1) := by decide +kernel
theorem dX10_turn_74 : decode cX10_turn 74 = .ok (.iload_n 2, 1) := by decide +kernel
theorem dX10_turn_75 : decode cX10_turn 75 = .ok (.iastore, 1) := by decide +kernel
theorem dX10_turn_76 : decode cX10_turn 76 = .ok (.aload_n 0, 1) := by decide +kernel
theorem dX10_turn_77 : decode cX10_turn 77 = .ok (.getfield 41, 3) := by decide +kernel
theorem dX10_turn_80 : decode cX10_turn 80 = .ok (.iload_n 1, 1) := by decide +kernel
theorem dX10_turn_81 : decode cX10_turn 81 = .ok (.iconst 1, 1) := by decide +kernel
theorem dX10_turn_82 : decode cX10_turn 82 = .ok (.bastore, 1) := by decide +kernel
theorem dX10_turn_83 : decode cX10_turn 83 = .ok (.iload_n 3, 1) := by decide +kernel
theorem dX10_turn_84 : decode cX10_turn 84 = .ok (.ireturn, 1) := by decide +kernel
theorem dX10_at_0 : decode cX10_at 0 = .ok (.iload_n 1, 1) := by decide +kernel
theorem dX10_at_1 : decode cX10_at 1 = .ok (.iconst 0, 1) := by decide +kernel
theorem dX10_at_2 : decode cX10_at 2 = .ok (.aload_n 0, 1) := by decide +kernel
theorem dX10_at_3 : decode cX10_at 3 = .ok (.getfield 115, 3) := by decide +kernel
theorem dX10_at_6 : decode cX10_at 6 = .ok (.iconst 1, 1) := by decide +kernel
theorem dX10_at_7 : decode cX10_at 7 = .ok (.isub, 1) := by decide +kernel
theorem dX10_at_8 : decode cX10_at 8 = .ok (.invokestatic 90, 3) := by decide +kernel
theorem dX10_at_11 : decode cX10_at 11 = .ok (.ifCond .ne 6, 3) := by decide +kernel
theorem dX10_at_14 : decode cX10_at 14 = .ok (.bipush (-2), 2) := by decide +kernel
theorem dX10_at_16 : decode cX10_at 16 = .ok (.ireturn, 1) := by decide +kernel
theorem dX10_at_17 : decode cX10_at 17 = .ok (.iload_n 2, 1) := by decide +kernel
theorem dX10_at_18 : decode cX10_at 18 = .ok (.tableswitch 88 0 5 #[38, 45, 52, 59, 66, 73], 38) := by decide +kernel
theorem dX10_at_56 : decode cX10_at 56 = .ok (.aload_n 0, 1) := by decide +kernel
theorem dX10_at_57 : decode cX10_at 57 = .ok (.getfield 19, 3) := by decide +kernel
theorem dX10_at_60 : decode cX10_at 60 = .ok (.iload_n 1, 1) := by decide +kernel
theorem dX10_at_61 : decode cX10_at 61 = .ok (.iaload, 1) := by decide +kernel
theorem dX10_at_62 : decode cX10_at 62 = .ok (.ireturn, 1) := by decide +kernel
theorem dX10_at_63 : decode cX10_at 63 = .ok (.aload_n 0, 1) := by decide +kernel
theorem dX10_at_64 : decode cX10_at 64 = .ok (.getfield 22, 3) := by decide +kernel
theorem dX10_at_67 : decode cX10_at 67 = .ok (.iload_n 1, 1) := by decide +kernel
theorem dX10_at_68 : decode cX10_at 68 = .ok (.iaload, 1) := by decide +kernel
theorem dX10_at_69 : decode cX10_at 69 = .ok (.ireturn, 1) := by decide +kernel
theorem dX10_at_70 : decode cX10_at 70 = .ok (.aload_n 0, 1) := by decide +kernel
theorem dX10_at_71 : decode cX10_at 71 = .ok (.getfield 25, 3) := by decide +kernel
theorem dX10_at_74 : decode cX10_at 74 = .ok (.iload_n 1, 1) := by decide +kernel
theorem dX10_at_75 : decode cX10_at 75 = .ok (.iaload, 1) := by decide +kernel
theorem dX10_at_76 : decode cX10_at 76 = .ok (.ireturn, 1) := by decide +kernel
theorem dX10_at_77 : decode cX10_at 77 = .ok (.aload_n 0, 1) := by decide +kernel
theorem dX10_at_78 : decode cX10_at 78 = .ok (.getfield 28, 3) := by decide +kernel
theorem dX10_at_81 : decode cX10_at 81 = .ok (.iload_n 1, 1) := by decide +kernel
theorem dX10_at_82 : decode cX10_at 82 = .ok (.iaload, 1) := by decide +kernel
theorem dX10_at_83 : decode cX10_at 83 = .ok (.ireturn, 1) := by decide +kernel
theorem dX10_at_84 : decode cX10_at 84 = .ok (.aload_n 0, 1) := by decide +kernel
theorem dX10_at_85 : decode cX10_at 85 = .ok (.getfield 31, 3) := by decide +kernel
theorem dX10_at_88 : decode cX10_at 88 = .ok (.iload_n 1, 1) := by decide +kernel
theorem dX10_at_89 : decode cX10_at 89 = .ok (.iaload, 1) := by decide +kernel
theorem dX10_at_90 : decode cX10_at 90 = .ok (.ireturn, 1) := by decide +kernel
theorem dX10_at_91 : decode cX10_at 91 = .ok (.aload_n 0, 1) := by decide +kernel
theorem dX10_at_92 : decode cX10_at 92 = .ok (.getfield 41, 3) := by decide +kernel
theorem dX10_at_95 : decode cX10_at 95 = .ok (.iload_n 1, 1) := by decide +kernel
theorem dX10_at_96 : decode cX10_at 96 = .ok (.baload, 1) := by decide +kernel
theorem dX10_at_97 : decode cX10_at 97 = .ok (.ifCond .eq 7, 3) := by decide +kernel
theorem dX10_at_100 : decode cX10_at 100 = .ok (.iconst 1, 1) := by decide +kernel
theorem dX10_at_101 : decode cX10_at 101 = .ok (.goto 4, 3) := by decide +kernel
theorem dX10_at_104 : decode cX10_at 104 = .ok (.iconst 0, 1) := by decide +kernel
theorem dX10_at_105 : decode cX10_at 105 = .ok (.ireturn, 1) := by decide +kernel
theorem dX10_at_106 : decode cX10_at 106 = .ok (.bipush (-3), 2) := by decide +kernel
theorem dX10_at_108 : decode cX10_at 108 = .ok (.ireturn, 1) := by decide +kernel
theorem dX10_set_0 : decode cX10_set 0 = .ok (.iload_n 1, 1) := by decide +kernel
theorem dX10_set_1 : decode cX10_set 1 = .ok (.iconst 0, 1) := by decide +kernel
theorem dX10_set_2 : decode cX10_set 2 = .ok (.iconst 2, 1) := by decide +kernel
theorem dX10_set_3 : decode cX10_set 3 = .ok (.invokestatic 90, 3) := by decide +kernel
theorem dX10_set_6 : decode cX10_set 6 = .ok (.ifCond .eq 32, 3) := by decide +kernel
theorem dX10_set_9 : decode cX10_set 9 = .ok (.iload_n 2, 1) := by decide +kernel
theorem dX10_set_10 : decode cX10_set 10 = .ok (.iload_n 1, 1) := by decide +kernel
theorem dX10_set_11 : decode cX10_set 11 = .ok (.iconst 2, 1) := by decide +kernel
theorem dX10_set_12 : decode cX10_set 12 = .ok (.if_icmp .ne 7, 3) := by decide +kernel
theorem dX10_set_15 : decode cX10_set 15 = .ok (.iconst 1, 1) := by decide +kernel
theorem dX10_set_16 : decode cX10_set 16 = .ok (.goto 4, 3) := by decide +kernel
theorem dX10_set_19 : decode cX10_set 19 = .ok (.iconst 0, 1) := by decide +kernel
theorem dX10_set_20 : decode cX10_set 20 = .ok (.iload_n 1, 1) := by decide +kernel
theorem dX10_set_21 : decode cX10_set 21 = .ok (.iconst 2, 1) := by decide +kernel
theorem dX10_set_22 : decode cX10_set 22 = .ok (.if_icmp .ne 8, 3) := by decide +kernel
theorem dX10_set_25 : decode cX10_set 25 = .ok (.bipush 40, 2) := by decide +kernel
theorem dX10_set_27 : decode cX10_set 27 = .ok (.goto 5, 3) := by decide +kernel
theorem dX10_set_30 : decode cX10_set 30 = .ok (.bipush 9, 2) := by decide +kernel
theorem dX10_set_32 : decode cX10_set 32 = .ok (.invokestatic 90, 3) := by decide +kernel
theorem dX10_set_35 : decode cX10_set 35 = .ok (.ifCond .ne 6, 3) := by decide +kernel
theorem dX10_set_38 : decode cX10_set 38 = .ok (.bipush (-3), 2) := by decide +kernel
theorem dX10_set_40 : decode cX10_set 40 = .ok (.ireturn, 1) := by decide +kernel
theorem dX10_set_41 : decode cX10_set 41 = .ok (.iload_n 1, 1) := by decide +kernel
theorem dX10_set_42 : decode cX10_set 42 = .ok (.ifCond .ne 10, 3) := by decide +kernel
theorem dX10_set_45 : decode cX10_set 45 = .ok (.aload_n 0, 1) := by decide +kernel
theorem dX10_set_46 : decode cX10_set 46 = .ok (.getfield 122, 3) := by decide +kernel
theorem dX10_set_49 : decode cX10_set 49 = .ok (.goto 19, 3) := by decide +kernel
theorem dX10_set_52 : decode cX10_set 52 = .ok (.iload_n 1, 1) := by decide +kernel
theorem dX10_set_53 : decode cX10_set 53 = .ok (.iconst 1, 1) := by decide +kernel
theorem dX10_set_54 : decode cX10_set 54 = .ok (.if_icmp .ne 10, 3) := by decide +kernel
theorem dX10_set_57 : decode cX10_set 57 = .ok (.aload_n 0, 1) := by decide +kernel
theorem dX10_set_58 : decode cX10_set 58 = .ok (.getfield 125, 3) := by decide +kernel
theorem dX10_set_61 : decode cX10_set 61 = .ok (.goto 7, 3) := by decide +kernel
theorem dX10_set_64 : decode cX10_set 64 = .ok (.aload_n 0, 1) := by decide +kernel
theorem dX10_set_65 : decode cX10_set 65 = .ok (.getfield 44, 3) := by decide +kernel
theorem dX10_set_68 : decode cX10_set 68 = .ok (.istore_n 3, 1) := by decide +kernel
theorem dX10_set_69 : decode cX10_set 69 = .ok (.aload_n 0, 1) := by decide +kernel
theorem dX10_set_70 : decode cX10_set 70 = .ok (.iload_n 1, 1) := by decide +kernel
theorem dX10_set_71 : decode cX10_set 71 = .ok (.ifCond .ne 7, 3) := by decide +kernel
theorem dX10_set_74 : decode cX10_set 74 = .ok (.iload_n 2, 1) := by decide +kernel
theorem dX10_set_75 : decode cX10_set 75 = .ok (.goto 7, 3) := by decide +kernel
theorem dX10_set_78 : decode cX10_set 78 = .ok (.aload_n 0, 1) := by decide +kernel
theorem dX10_set_79 : decode cX10_set 79 = .ok (.getfield 122, 3) := by decide +kernel
theorem dX10_set_82 : decode cX10_set 82 = .ok (.putfield 122, 3) := by decide +kernel
theorem dX10_set_85 : decode cX10_set 85 = .ok (.aload_n 0, 1) := by decide +kernel
theorem dX10_set_86 : decode cX10_set 86 = .ok (.iload_n 1, 1) := by decide +kernel
theorem dX10_set_87 : decode cX10_set 87 = .ok (.iconst 1, 1) := by decide +kernel
theorem dX10_set_88 : decode cX10_set 88 = .ok (.if_icmp .ne 7, 3) := by decide +kernel
theorem dX10_set_91 : decode cX10_set 91 = .ok (.iload_n 2, 1) := by decide +kernel
theorem dX10_set_92 : decode cX10_set 92 = .ok (.goto 7, 3) := by decide +kernel
theorem dX10_set_95 : decode cX10_set 95 = .ok (.aload_n 0, 1) := by decide +kernel
theorem dX10_set_96 : decode cX10_set 96 = .ok (.getfield 125, 3) := by decide +kernel
theorem dX10_set_99 : decode cX10_set 99 = .ok (.putfield 125, 3) := by decide +kernel
theorem dX10_set_102 : decode cX10_set 102 = .ok (.aload_n 0, 1) := by decide +kernel
theorem dX10_set_103 : decode cX10_set 103 = .ok (.iload_n 1, 1) := by decide +kernel
theorem dX10_set_104 : decode cX10_set 104 = .ok (.iconst 2, 1) := by decide +kernel
theorem dX10_set_105 : decode cX10_set 105 = .ok (.if_icmp .ne 7, 3) := by decide +kernel
theorem dX10_set_108 : decode cX10_set 108 = .ok (.iload_n 2, 1) := by decide +kernel
theorem dX10_set_109 : decode cX10_set 109 = .ok (.goto 7, 3) := by decide +kernel
theorem dX10_set_112 : decode cX10_set 112 = .ok (.aload_n 0, 1) := by decide +kernel
theorem dX10_set_113 : decode cX10_set 113 = .ok (.getfield 44, 3) := by decide +kernel
theorem dX10_set_116 : decode cX10_set 116 = .ok (.putfield 44, 3) := by decide +kernel
theorem dX10_set_119 : decode cX10_set 119 = .ok (.iload_n 3, 1) := by decide +kernel
theorem dX10_set_120 : decode cX10_set 120 = .ok (.ireturn, 1) := by decide +kernel
theorem dX10_seenBy_0 : decode cX10_seenBy 0 = .ok (.iconst 0, 1) := by decide +kernel
theorem dX10_seenBy_1 : decode cX10_seenBy 1 = .ok (.istore_n 3, 1) := by decide +kernel
theorem dX10_seenBy_2 : decode cX10_seenBy 2 = .ok (.iconst 0, 1) := by decide +kernel
theorem dX10_seenBy_3 : decode cX10_seenBy 3 = .ok (.istore 4, 2) := by decide +kernel
theorem dX10_seenBy_5 : decode cX10_seenBy 5 = .ok (.iload 4, 2) := by decide +kernel
theorem dX10_seenBy_7 : decode cX10_seenBy 7 = .ok (.aload_n 0, 1) := by decide +kernel
theorem dX10_seenBy_8 : decode cX10_seenBy 8 = .ok (.getfield 115, 3) := by decide +kernel
theorem dX10_seenBy_11 : decode cX10_seenBy 11 = .ok (.if_icmp .ge 134, 3) := by decide +kernel
theorem dX10_seenBy_14 : decode cX10_seenBy 14 = .ok (.aload_n 0, 1) := by decide +kernel
theorem dX10_seenBy_15 : decode cX10_seenBy 15 = .ok (.getfield 19, 3) := by decide +kernel
theorem dX10_seenBy_18 : decode cX10_seenBy 18 = .ok (.iload 4, 2) := by decide +kernel
theorem dX10_seenBy_20 : decode cX10_seenBy 20 = .ok (.iaload, 1) := by decide +kernel
theorem dX10_seenBy_21 : decode cX10_seenBy 21 = .ok (.iload_n 1, 1) := by decide +kernel
theorem dX10_seenBy_22 : decode cX10_seenBy 22 = .ok (.if_icmp .ne 17, 3) := by decide +kernel
theorem dX10_seenBy_25 : decode cX10_seenBy 25 = .ok (.aload_n 0, 1) := by decide +kernel
theorem dX10_seenBy_26 : decode cX10_seenBy 26 = .ok (.getfield 28, 3) := by decide +kernel
theorem dX10_seenBy_29 : decode cX10_seenBy 29 = .ok (.iload 4, 2) := by decide +kernel
theorem dX10_seenBy_31 : decode cX10_seenBy 31 = .ok (.iaload, 1) := by decide +kernel
theorem dX10_seenBy_32 : decode cX10_seenBy 32 = .ok (.ifCond .le 7, 3) := by decide +kernel
theorem dX10_seenBy_35 : decode cX10_seenBy 35 = .ok (.iconst 1, 1) := by decide +kernel
theorem dX10_seenBy_36 : decode cX10_seenBy 36 = .ok (.goto 4, 3) := by decide +kernel
theorem dX10_seenBy_39 : decode cX10_seenBy 39 = .ok (.iconst 0, 1) := by decide +kernel
theorem dX10_seenBy_40 : decode cX10_seenBy 40 = .ok (.istore 5, 2) := by decide +kernel
theorem dX10_seenBy_42 : decode cX10_seenBy 42 = .ok (.iload_n 2, 1) := by decide +kernel
theorem dX10_seenBy_43 : decode cX10_seenBy 43 = .ok (.iconst (-1), 1) := by decide +kernel
theorem dX10_seenBy_44 : decode cX10_seenBy 44 = .ok (.if_icmp .ne 28, 3) := by decide +kernel
theorem dX10_seenBy_47 : decode cX10_seenBy 47 = .ok (.iload 5, 2) := by decide +kernel
theorem dX10_seenBy_49 : decode cX10_seenBy 49 = .ok (.ifCond .eq 17, 3) := by decide +kernel
theorem dX10_seenBy_52 : decode cX10_seenBy 52 = .ok (.aload_n 0, 1) := by decide +kernel
theorem dX10_seenBy_53 : decode cX10_seenBy 53 = .ok (.getfield 37, 3) := by decide +kernel
theorem dX10_seenBy_56 : decode cX10_seenBy 56 = .ok (.iload 4, 2) := by decide +kernel
theorem dX10_seenBy_58 : decode cX10_seenBy 58 = .ok (.baload, 1) := by decide +kernel
theorem dX10_seenBy_59 : decode cX10_seenBy 59 = .ok (.ifCond .eq 7, 3) := by decide +kernel
theorem dX10_seenBy_62 : decode cX10_seenBy 62 = .ok (.iconst 1, 1) := by decide +kernel
theorem dX10_seenBy_63 : decode cX10_seenBy 63 = .ok (.goto 4, 3) := by decide +kernel
theorem dX10_seenBy_66 : decode cX10_seenBy 66 = .ok (.iconst 0, 1) := by decide +kernel
theorem dX10_seenBy_67 : decode cX10_seenBy 67 = .ok (.istore 5, 2) := by decide +kernel
theorem dX10_seenBy_69 : decode cX10_seenBy 69 = .ok (.goto 54, 3) := by decide +kernel
theorem dX10_seenBy_72 : decode cX10_seenBy 72 = .ok (.iload 5, 2) := by decide +kernel
theorem dX10_seenBy_74 : decode cX10_seenBy 74 = .ok (.ifCond .eq 46, 3) := by decide +kernel
theorem dX10_seenBy_77 : decode cX10_seenBy 77 = .ok (.aload_n 0, 1) := by decide +kernel
theorem dX10_seenBy_78 : decode cX10_seenBy 78 = .ok (.getfield 34, 3) := by decide +kernel
theorem dX10_seenBy_81 : decode cX10_seenBy 81 = .ok (.iload 4, 2) := by decide +kernel
theorem dX10_seenBy_83 : decode cX10_seenBy 83 = .ok (.iaload, 1) := by decide +kernel
theorem dX10_seenBy_84 : decode cX10_seenBy 84 = .ok (.iload_n 2, 1) := by decide +kernel
theorem dX10_seenBy_85 : decode cX10_seenBy 85 = .ok (.ishr, 1) := by decide +kernel
theorem dX10_seenBy_86 : decode cX10_seenBy 86 = .ok (.iconst 1, 1) := by decide +kernel
theorem dX10_seenBy_87 : decode cX10_seenBy 87 = .ok (.iand, 1) := by decide +kernel
theorem dX10_seenBy_88 : decode cX10_seenBy 88 = .ok (.iconst 1, 1) := by decide +kernel
theorem dX10_seenBy_89 : decode cX10_seenBy 89 = .ok (.if_icmp .ne 31, 3) := by decide +kernel
theorem dX10_seenBy_92 : decode cX10_seenBy 92 = .ok (.aload_n 0, 1) := by decide +kernel
theorem dX10_seenBy_93 : decode cX10_seenBy 93 = .ok (.getfield 22, 3) := by decide +kernel
theorem dX10_seenBy_96 : decode cX10_seenBy 96 = .ok (.iload 4, 2) := by decide +kernel
theorem dX10_seenBy_98 : decode cX10_seenBy 98 = .ok (.iaload, 1) := by decide +kernel
theorem dX10_seenBy_99 : decode cX10_seenBy 99 = .ok (.iconst 1, 1) := by decide +kernel
theorem dX10_seenBy_100 : decode cX10_seenBy 100 = .ok (.if_icmp .gt 16, 3) := by decide +kernel
theorem dX10_seenBy_103 : decode cX10_seenBy 103 = .ok (.aload_n 0, 1) := by decide +kernel
theorem dX10_seenBy_104 : decode cX10_seenBy 104 = .ok (.getfield 16, 3) := by decide +kernel
theorem dX10_seenBy_107 : decode cX10_seenBy 107 = .ok (.iload_n 2, 1) := by decide +kernel
theorem dX10_seenBy_108 : decode cX10_seenBy 108 = .ok (.iaload, 1) := by decide +kernel
theorem dX10_seenBy_109 : decode cX10_seenBy 109 = .ok (.aload_n 0, 1) := by decide +kernel
theorem dX10_seenBy_110 : decode cX10_seenBy 110 = .ok (.getfield 122, 3) := by decide +kernel
theorem dX10_seenBy_113 : decode cX10_seenBy 113 = .ok (.if_icmp .lt 7, 3) := by decide +kernel
theorem dX10_seenBy_116 : decode cX10_seenBy 116 = .ok (.iconst 1, 1) := by decide +kernel
theorem dX10_seenBy_117 : decode cX10_seenBy 117 = .ok (.goto 4, 3) := by decide +kernel
theorem dX10_seenBy_120 : decode cX10_seenBy 120 = .ok (.iconst 0, 1) := by decide +kernel
theorem dX10_seenBy_121 : decode cX10_seenBy 121 = .ok (.istore 5, 2) := by decide +kernel
theorem dX10_seenBy_123 : decode cX10_seenBy 123 = .ok (.iload_n 3, 1) := by decide +kernel
theorem dX10_seenBy_124 : decode cX10_seenBy 124 = .ok (.iload 5, 2) := by decide +kernel
theorem dX10_seenBy_126 : decode cX10_seenBy 126 = .ok (.ifCond .eq 10, 3) := by decide +kernel
theorem dX10_seenBy_129 : decode cX10_seenBy 129 = .ok (.iconst 1, 1) := by decide +kernel
theorem dX10_seenBy_130 : decode cX10_seenBy 130 = .ok (.iload 4, 2) := by decide +kernel
theorem dX10_seenBy_132 : decode cX10_seenBy 132 = .ok (.ishl, 1) := by decide +kernel
theorem dX10_seenBy_133 : decode cX10_seenBy 133 = .ok (.goto 4, 3) := by decide +kernel
theorem dX10_seenBy_136 : decode cX10_seenBy 136 = .ok (.iconst 0, 1) := by decide +kernel
theorem dX10_seenBy_137 : decode cX10_seenBy 137 = .ok (.ior, 1) := by decide +kernel
theorem dX10_seenBy_138 : decode cX10_seenBy 138 = .ok (.istore_n 3, 1) := by decide +kernel
theorem dX10_seenBy_139 : decode cX10_seenBy 139 = .ok (.iinc 4 1, 3) := by decide +kernel
theorem dX10_seenBy_142 : decode cX10_seenBy 142 = .ok (.goto (-137), 3) := by decide +kernel
theorem dX10_seenBy_145 : decode cX10_seenBy 145 = .ok (.iload_n 3, 1) := by decide +kernel
theorem dX10_seenBy_146 : decode cX10_seenBy 146 = .ok (.ireturn, 1) := by decide +kernel
theorem dX10_seen_0 : decode cX10_seen 0 = .ok (.iload_n 1, 1) := by decide +kernel
theorem dX10_seen_1 : decode cX10_seen 1 = .ok (.invokestatic 101, 3) := by decide +kernel
theorem dX10_seen_4 : decode cX10_seen 4 = .ok (.ifCond .eq 17, 3) := by decide +kernel
theorem dX10_seen_7 : decode cX10_seen 7 = .ok (.iload_n 2, 1) := by decide +kernel
theorem dX10_seen_8 : decode cX10_seen 8 = .ok (.iconst (-1), 1) := by decide +kernel
theorem dX10_seen_9 : decode cX10_seen 9 = .ok (.if_icmp .eq 15, 3) := by decide +kernel
theorem dX10_seen_12 : decode cX10_seen 12 = .ok (.aload_n 0, 1) := by decide +kernel
theorem dX10_seen_13 : decode cX10_seen 13 = .ok (.iload_n 2, 1) := by decide +kernel
theorem dX10_seen_14 : decode cX10_seen 14 = .ok (.iload_n 1, 1) := by decide +kernel
theorem dX10_seen_15 : decode cX10_seen 15 = .ok (.invokevirtual 97, 3) := by decide +kernel
theorem dX10_seen_18 : decode cX10_seen 18 = .ok (.ifCond .ne 6, 3) := by decide +kernel
theorem dX10_seen_21 : decode cX10_seen 21 = .ok (.bipush (-2), 2) := by decide +kernel
theorem dX10_seen_23 : decode cX10_seen 23 = .ok (.ireturn, 1) := by decide +kernel
theorem dX10_seen_24 : decode cX10_seen 24 = .ok (.aload_n 0, 1) := by decide +kernel
theorem dX10_seen_25 : decode cX10_seen 25 = .ok (.iload_n 1, 1) := by decide +kernel
theorem dX10_seen_26 : decode cX10_seen 26 = .ok (.iload_n 2, 1) := by decide +kernel
theorem dX10_seen_27 : decode cX10_seen 27 = .ok (.invokevirtual 128, 3) := by decide +kernel
theorem dX10_seen_30 : decode cX10_seen 30 = .ok (.ireturn, 1) := by decide +kernel
theorem dX10_goesBy_0 : decode cX10_goesBy 0 = .ok (.aload_n 0, 1) := by decide +kernel
theorem dX10_goesBy_1 : decode cX10_goesBy 1 = .ok (.iload_n 1, 1) := by decide +kernel
theorem dX10_goesBy_2 : decode cX10_goesBy 2 = .ok (.iload_n 2, 1) := by decide +kernel
theorem dX10_goesBy_3 : decode cX10_goesBy 3 = .ok (.invokevirtual 128, 3) := by decide +kernel
theorem dX10_goesBy_6 : decode cX10_goesBy 6 = .ok (.istore_n 3, 1) := by decide +kernel
theorem dX10_goesBy_7 : decode cX10_goesBy 7 = .ok (.iconst (-1), 1) := by decide +kernel
theorem dX10_goesBy_8 : decode cX10_goesBy 8 = .ok (.istore 4, 2) := by decide +kernel
theorem dX10_goesBy_10 : decode cX10_goesBy 10 = .ok (.aload_n 0, 1) := by decide +kernel
theorem dX10_goesBy_11 : decode cX10_goesBy 11 = .ok (.iload_n 1, 1) := by decide +kernel
theorem dX10_goesBy_12 : decode cX10_goesBy 12 = .ok (.invokevirtual 118, 3) := by decide +kernel
theorem dX10_goesBy_15 : decode cX10_goesBy 15 = .ok (.iload_n 2, 1) := by decide +kernel
theorem dX10_goesBy_16 : decode cX10_goesBy 16 = .ok (.iconst (-1), 1) := by decide +kernel
theorem dX10_goesBy_17 : decode cX10_goesBy 17 = .ok (.if_icmp .ne 7, 3) := by decide +kernel
theorem dX10_goesBy_20 : decode cX10_goesBy 20 = .ok (.iconst 0, 1) := by decide +kernel
theorem dX10_goesBy_21 : decode cX10_goesBy 21 = .ok (.goto 6, 3) := by decide +kernel
theorem dX10_goesBy_24 : decode cX10_goesBy 24 = .ok (.iconst 1, 1) := by decide +kernel
theorem dX10_goesBy_25 : decode cX10_goesBy 25 = .ok (.iload_n 2, 1) := by decide +kernel
theorem dX10_goesBy_26 : decode cX10_goesBy 26 = .ok (.ishl, 1) := by decide +kernel
theorem dX10_goesBy_27 : decode cX10_goesBy 27 = .ok (.iconst (-1), 1) := by decide +kernel
theorem dX10_goesBy_28 : decode cX10_goesBy 28 = .ok (.ixor, 1) := by decide +kernel
theorem dX10_goesBy_29 : decode cX10_goesBy 29 = .ok (.iand, 1) := by decide +kernel
theorem dX10_goesBy_30 : decode cX10_goesBy 30 = .ok (.istore 5, 2) := by decide +kernel
theorem dX10_goesBy_32 : decode cX10_goesBy 32 = .ok (.iload 5, 2) := by decide +kernel
theorem dX10_goesBy_34 : decode cX10_goesBy 34 = .ok (.istore 6, 2) := by decide +kernel
theorem dX10_goesBy_36 : decode cX10_goesBy 36 = .ok (.iconst 0, 1) := by decide +kernel
theorem dX10_goesBy_37 : decode cX10_goesBy 37 = .ok (.istore 7, 2) := by decide +kernel
theorem dX10_goesBy_39 : decode cX10_goesBy 39 = .ok (.iload 7, 2) := by decide +kernel
theorem dX10_goesBy_41 : decode cX10_goesBy 41 = .ok (.aload_n 0, 1) := by decide +kernel
theorem dX10_goesBy_42 : decode cX10_goesBy 42 = .ok (.getfield 115, 3) := by decide +kernel
theorem dX10_goesBy_45 : decode cX10_goesBy 45 = .ok (.if_icmp .ge 117, 3) := by decide +kernel
theorem dX10_goesBy_48 : decode cX10_goesBy 48 = .ok (.iload_n 3, 1) := by decide +kernel
theorem dX10_goesBy_49 : decode cX10_goesBy 49 = .ok (.iload 7, 2) := by decide +kernel
theorem dX10_goesBy_51 : decode cX10_goesBy 51 = .ok (.ishr, 1) := by decide +kernel
theorem dX10_goesBy_52 : decode cX10_goesBy 52 = .ok (.iconst 1, 1) := by decide +kernel
theorem dX10_goesBy_53 : decode cX10_goesBy 53 = .ok (.iand, 1) := by decide +kernel
theorem dX10_goesBy_54 : decode cX10_goesBy 54 = .ok (.iconst 1, 1) := by decide +kernel
theorem dX10_goesBy_55 : decode cX10_goesBy 55 = .ok (.if_icmp .ne 101, 3) := by decide +kernel
theorem dX10_goesBy_58 : decode cX10_goesBy 58 = .ok (.aload_n 0, 1) := by decide +kernel
theorem dX10_goesBy_59 : decode cX10_goesBy 59 = .ok (.getfield 22, 3) := by decide +kernel
theorem dX10_goesBy_62 : decode cX10_goesBy 62 = .ok (.iload 7, 2) := by decide +kernel
theorem dX10_goesBy_64 : decode cX10_goesBy 64 = .ok (.iaload, 1) := by decide +kernel
theorem dX10_goesBy_65 : decode cX10_goesBy 65 = .ok (.iconst 2, 1) := by decide +kernel
theorem dX10_goesBy_66 : decode cX10_goesBy 66 = .ok (.if_icmp .ne 16, 3) := by decide +kernel
theorem dX10_goesBy_69 : decode cX10_goesBy 69 = .ok (.aload_n 0, 1) := by decide +kernel
theorem dX10_goesBy_70 : decode cX10_goesBy 70 = .ok (.getfield 25, 3) := by decide +kernel
theorem dX10_goesBy_73 : decode cX10_goesBy 73 = .ok (.iload 7, 2) := by decide +kernel
theorem dX10_goesBy_75 : decode cX10_goesBy 75 = .ok (.iaload, 1) := by decide +kernel
theorem dX10_goesBy_76 : decode cX10_goesBy 76 = .ok (.ifCond .ne 6, 3) := by decide +kernel
theorem dX10_goesBy_79 : decode cX10_goesBy 79 = .ok (.bipush (-2), 2) := by decide +kernel
theorem dX10_goesBy_81 : decode cX10_goesBy 81 = .ok (.ireturn, 1) := by decide +kernel
theorem dX10_goesBy_82 : decode cX10_goesBy 82 = .ok (.aload_n 0, 1) := by decide +kernel
theorem dX10_goesBy_83 : decode cX10_goesBy 83 = .ok (.getfield 22, 3) := by decide +kernel
theorem dX10_goesBy_86 : decode cX10_goesBy 86 = .ok (.iload 7, 2) := by decide +kernel
theorem dX10_goesBy_88 : decode cX10_goesBy 88 = .ok (.iaload, 1) := by decide +kernel
theorem dX10_goesBy_89 : decode cX10_goesBy 89 = .ok (.ifCond .ne 31, 3) := by decide +kernel
theorem dX10_goesBy_92 : decode cX10_goesBy 92 = .ok (.iload 4, 2) := by decide +kernel
theorem dX10_goesBy_94 : decode cX10_goesBy 94 = .ok (.iconst (-1), 1) := by decide +kernel
theorem dX10_goesBy_95 : decode cX10_goesBy 95 = .ok (.if_icmp .eq 20, 3) := by decide +kernel
theorem dX10_goesBy_98 : decode cX10_goesBy 98 = .ok (.aload_n 0, 1) := by decide +kernel
theorem dX10_goesBy_99 : decode cX10_goesBy 99 = .ok (.getfield 31, 3) := by decide +kernel
theorem dX10_goesBy_102 : decode cX10_goesBy 102 = .ok (.iload 7, 2) := by decide +kernel
theorem dX10_goesBy_104 : decode cX10_goesBy 104 = .ok (.iaload, 1) := by decide +kernel
theorem dX10_goesBy_105 : decode cX10_goesBy 105 = .ok (.aload_n 0, 1) := by decide +kernel
theorem dX10_goesBy_106 : decode cX10_goesBy 106 = .ok (.getfield 31, 3) := by decide +kernel
theorem dX10_goesBy_109 : decode cX10_goesBy 109 = .ok (.iload 4, 2) := by decide +kernel
theorem dX10_goesBy_111 : decode cX10_goesBy 111 = .ok (.iaload, 1) := by decide +kernel
theorem dX10_goesBy_112 : decode cX10_goesBy 112 = .ok (.if_icmp .lt 8, 3) := by decide +kernel
theorem dX10_goesBy_115 : decode cX10_goesBy 115 = .ok (.iload 7, 2) := by decide +kernel
theorem dX10_goesBy_117 : decode cX10_goesBy 117 = .ok (.goto 5, 3) := by decide +kernel
theorem dX10_goesBy_120 : decode cX10_goesBy 120 = .ok (.iload 4, 2) := by decide +kernel
theorem dX10_goesBy_122 : decode cX10_goesBy 122 = .ok (.istore 4, 2) := by decide +kernel
theorem dX10_goesBy_124 : decode cX10_goesBy 124 = .ok (.aload_n 0, 1) := by decide +kernel
theorem dX10_goesBy_125 : decode cX10_goesBy 125 = .ok (.getfield 22, 3) := by decide +kernel
theorem dX10_goesBy_128 : decode cX10_goesBy 128 = .ok (.iload 7, 2) := by decide +kernel
theorem dX10_goesBy_130 : decode cX10_goesBy 130 = .ok (.iaload, 1) := by decide +kernel
theorem dX10_goesBy_131 : decode cX10_goesBy 131 = .ok (.iconst 1, 1) := by decide +kernel
theorem dX10_goesBy_132 : decode cX10_goesBy 132 = .ok (.if_icmp .ne 20, 3) := by decide +kernel
theorem dX10_goesBy_135 : decode cX10_goesBy 135 = .ok (.iload 6, 2) := by decide +kernel
theorem dX10_goesBy_137 : decode cX10_goesBy 137 = .ok (.iconst 1, 1) := by decide +kernel
theorem dX10_goesBy_138 : decode cX10_goesBy 138 = .ok (.aload_n 0, 1) := by decide +kernel
theorem dX10_goesBy_139 : decode cX10_goesBy 139 = .ok (.getfield 25, 3) := by decide +kernel
theorem dX10_goesBy_142 : decode cX10_goesBy 142 = .ok (.iload 7, 2) := by decide +kernel
theorem dX10_goesBy_144 : decode cX10_goesBy 144 = .ok (.iaload, 1) := by decide +kernel
theorem dX10_goesBy_145 : decode cX10_goesBy 145 = .ok (.ishl, 1) := by decide +kernel
theorem dX10_goesBy_146 : decode cX10_goesBy 146 = .ok (.iconst (-1), 1) := by decide +kernel
theorem dX10_goesBy_147 : decode cX10_goesBy 147 = .ok (.ixor, 1) := by decide +kernel
theorem dX10_goesBy_148 : decode cX10_goesBy 148 = .ok (.iand, 1) := by decide +kernel
theorem dX10_goesBy_149 : decode cX10_goesBy 149 = .ok (.goto 5, 3) := by decide +kernel
theorem dX10_goesBy_152 : decode cX10_goesBy 152 = .ok (.iload 6, 2) := by decide +kernel
theorem dX10_goesBy_154 : decode cX10_goesBy 154 = .ok (.istore 6, 2) := by decide +kernel
theorem dX10_goesBy_156 : decode cX10_goesBy 156 = .ok (.iinc 7 1, 3) := by decide +kernel
theorem dX10_goesBy_159 : decode cX10_goesBy 159 = .ok (.goto (-120), 3) := by decide +kernel
theorem dX10_goesBy_162 : decode cX10_goesBy 162 = .ok (.iload 4, 2) := by decide +kernel
theorem dX10_goesBy_164 : decode cX10_goesBy 164 = .ok (.iconst (-1), 1) := by decide +kernel
theorem dX10_goesBy_165 : decode cX10_goesBy 165 = .ok (.if_icmp .eq 11, 3) := by decide +kernel
theorem dX10_goesBy_168 : decode cX10_goesBy 168 = .ok (.aload_n 0, 1) := by decide +kernel
theorem dX10_goesBy_169 : decode cX10_goesBy 169 = .ok (.getfield 25, 3) := by decide +kernel
theorem dX10_goesBy_172 : decode cX10_goesBy 172 = .ok (.iload 4, 2) := by decide +kernel
theorem dX10_goesBy_174 : decode cX10_goesBy 174 = .ok (.iaload, 1) := by decide +kernel
theorem dX10_goesBy_175 : decode cX10_goesBy 175 = .ok (.ireturn, 1) := by decide +kernel
theorem dX10_goesBy_176 : decode cX10_goesBy 176 = .ok (.iload 5, 2) := by decide +kernel
theorem dX10_goesBy_178 : decode cX10_goesBy 178 = .ok (.ifCond .ne 6, 3) := by decide +kernel
theorem dX10_goesBy_181 : decode cX10_goesBy 181 = .ok (.bipush (-3), 2) := by decide +kernel
theorem dX10_goesBy_183 : decode cX10_goesBy 183 = .ok (.ireturn, 1) := by decide +kernel
theorem dX10_goesBy_184 : decode cX10_goesBy 184 = .ok (.iconst (-1), 1) := by decide +kernel
theorem dX10_goesBy_185 : decode cX10_goesBy 185 = .ok (.istore 7, 2) := by decide +kernel
theorem dX10_goesBy_187 : decode cX10_goesBy 187 = .ok (.iconst 0, 1) := by decide +kernel
theorem dX10_goesBy_188 : decode cX10_goesBy 188 = .ok (.istore 8, 2) := by decide +kernel
theorem dX10_goesBy_190 : decode cX10_goesBy 190 = .ok (.iload 8, 2) := by decide +kernel
theorem dX10_goesBy_192 : decode cX10_goesBy 192 = .ok (.aload_n 0, 1) := by decide +kernel
theorem dX10_goesBy_193 : decode cX10_goesBy 193 = .ok (.getfield 94, 3) := by decide +kernel
theorem dX10_goesBy_196 : decode cX10_goesBy 196 = .ok (.if_icmp .ge 27, 3) := by decide +kernel
theorem dX10_goesBy_199 : decode cX10_goesBy 199 = .ok (.iload 6, 2) := by decide +kernel
theorem dX10_goesBy_201 : decode cX10_goesBy 201 = .ok (.iconst 1, 1) := by decide +kernel
theorem dX10_goesBy_202 : decode cX10_goesBy 202 = .ok (.iload 8, 2) := by decide +kernel
theorem dX10_goesBy_204 : decode cX10_goesBy 204 = .ok (.ishl, 1) := by decide +kernel
theorem dX10_goesBy_205 : decode cX10_goesBy 205 = .ok (.if_icmp .ne 8, 3) := by decide +kernel
theorem dX10_goesBy_208 : decode cX10_goesBy 208 = .ok (.iload 8, 2) := by decide +kernel
theorem dX10_goesBy_210 : decode cX10_goesBy 210 = .ok (.goto 5, 3) := by decide +kernel
theorem dX10_goesBy_213 : decode cX10_goesBy 213 = .ok (.iload 7, 2) := by decide +kernel
theorem dX10_goesBy_215 : decode cX10_goesBy 215 = .ok (.istore 7, 2) := by decide +kernel
theorem dX10_goesBy_217 : decode cX10_goesBy 217 = .ok (.iinc 8 1, 3) := by decide +kernel
theorem dX10_goesBy_220 : decode cX10_goesBy 220 = .ok (.goto (-30), 3) := by decide +kernel
theorem dX10_goesBy_223 : decode cX10_goesBy 223 = .ok (.iload 7, 2) := by decide +kernel
theorem dX10_goesBy_225 : decode cX10_goesBy 225 = .ok (.ireturn, 1) := by decide +kernel
theorem dX10_goWalk_0 : decode cX10_goWalk 0 = .ok (.iconst 0, 1) := by decide +kernel
theorem dX10_goWalk_1 : decode cX10_goWalk 1 = .ok (.istore_n 2, 1) := by decide +kernel
theorem dX10_goWalk_2 : decode cX10_goWalk 2 = .ok (.iload_n 2, 1) := by decide +kernel
theorem dX10_goWalk_3 : decode cX10_goWalk 3 = .ok (.sipush 160, 3) := by decide +kernel
theorem dX10_goWalk_6 : decode cX10_goWalk 6 = .ok (.if_icmp .ge 16, 3) := by decide +kernel
theorem dX10_goWalk_9 : decode cX10_goWalk 9 = .ok (.aload_n 0, 1) := by decide +kernel
theorem dX10_goWalk_10 : decode cX10_goWalk 10 = .ok (.getfield 51, 3) := by decide +kernel
theorem dX10_goWalk_13 : decode cX10_goWalk 13 = .ok (.iload_n 2, 1) := by decide +kernel
theorem dX10_goWalk_14 : decode cX10_goWalk 14 = .ok (.iconst 0, 1) := by decide +kernel
theorem dX10_goWalk_15 : decode cX10_goWalk 15 = .ok (.bastore, 1) := by decide +kernel
theorem dX10_goWalk_16 : decode cX10_goWalk 16 = .ok (.iinc 2 1, 3) := by decide +kernel
theorem dX10_goWalk_19 : decode cX10_goWalk 19 = .ok (.goto (-17), 3) := by decide +kernel
theorem dX10_goWalk_22 : decode cX10_goWalk 22 = .ok (.iload_n 1, 1) := by decide +kernel
theorem dX10_goWalk_23 : decode cX10_goWalk 23 = .ok (.istore_n 2, 1) := by decide +kernel
theorem dX10_goWalk_24 : decode cX10_goWalk 24 = .ok (.iconst (-1), 1) := by decide +kernel
theorem dX10_goWalk_25 : decode cX10_goWalk 25 = .ok (.istore_n 3, 1) := by decide +kernel
theorem dX10_goWalk_26 : decode cX10_goWalk 26 = .ok (.aload_n 0, 1) := by decide +kernel
theorem dX10_goWalk_27 : decode cX10_goWalk 27 = .ok (.iconst 0, 1) := by decide +kernel
theorem dX10_goWalk_28 : decode cX10_goWalk 28 = .ok (.putfield 131, 3) := by decide +kernel
theorem dX10_goWalk_31 : decode cX10_goWalk 31 = .ok (.aload_n 0, 1) := by decide +kernel
theorem dX10_goWalk_32 : decode cX10_goWalk 32 = .ok (.iconst 0, 1) := by decide +kernel
theorem dX10_goWalk_33 : decode cX10_goWalk 33 = .ok (.putfield 134, 3) := by decide +kernel
theorem dX10_goWalk_36 : decode cX10_goWalk 36 = .ok (.aload_n 0, 1) := by decide +kernel
theorem dX10_goWalk_37 : decode cX10_goWalk 37 = .ok (.getfield 48, 3) := by decide +kernel
theorem dX10_goWalk_40 : decode cX10_goWalk 40 = .ok (.iconst 0, 1) := by decide +kernel
theorem dX10_goWalk_41 : decode cX10_goWalk 41 = .ok (.iload_n 1, 1) := by decide +kernel
theorem dX10_goWalk_42 : decode cX10_goWalk 42 = .ok (.iastore, 1) := by decide +kernel
theorem dX10_goWalk_43 : decode cX10_goWalk 43 = .ok (.aload_n 0, 1) := by decide +kernel
theorem dX10_goWalk_44 : decode cX10_goWalk 44 = .ok (.iconst (-1), 1) := by decide +kernel
theorem dX10_goWalk_45 : decode cX10_goWalk 45 = .ok (.putfield 137, 3) := by decide +kernel
theorem dX10_goWalk_48 : decode cX10_goWalk 48 = .ok (.aload_n 0, 1) := by decide +kernel
theorem dX10_goWalk_49 : decode cX10_goWalk 49 = .ok (.getfield 137, 3) := by decide +kernel
theorem dX10_goWalk_52 : decode cX10_goWalk 52 = .ok (.iconst (-1), 1) := by decide +kernel
theorem dX10_goWalk_53 : decode cX10_goWalk 53 = .ok (.if_icmp .ne 172, 3) := by decide +kernel
theorem dX10_goWalk_56 : decode cX10_goWalk 56 = .ok (.aload_n 0, 1) := by decide +kernel
theorem dX10_goWalk_57 : decode cX10_goWalk 57 = .ok (.iload_n 2, 1) := by decide +kernel
theorem dX10_goWalk_58 : decode cX10_goWalk 58 = .ok (.iload_n 3, 1) := by decide +kernel
theorem dX10_goWalk_59 : decode cX10_goWalk 59 = .ok (.invokevirtual 140, 3) := by decide +kernel
theorem dX10_goWalk_62 : decode cX10_goWalk 62 = .ok (.istore 4, 2) := by decide +kernel
theorem dX10_goWalk_64 : decode cX10_goWalk 64 = .ok (.iload_n 3, 1) := by decide +kernel
theorem dX10_goWalk_65 : decode cX10_goWalk 65 = .ok (.iconst (-1), 1) := by decide +kernel
theorem dX10_goWalk_66 : decode cX10_goWalk 66 = .ok (.if_icmp .eq 21, 3) := by decide +kernel
theorem dX10_goWalk_69 : decode cX10_goWalk 69 = .ok (.aload_n 0, 1) := by decide +kernel
theorem dX10_goWalk_70 : decode cX10_goWalk 70 = .ok (.getfield 51, 3) := by decide +kernel
theorem dX10_goWalk_73 : decode cX10_goWalk 73 = .ok (.bipush 16, 2) := by decide +kernel
theorem dX10_goWalk_75 : decode cX10_goWalk 75 = .ok (.iload_n 2, 1) := by decide +kernel
theorem dX10_goWalk_76 : decode cX10_goWalk 76 = .ok (.imul, 1) := by decide +kernel
theorem dX10_goWalk_77 : decode cX10_goWalk 77 = .ok (.iload_n 3, 1) := by decide +kernel
theorem dX10_goWalk_78 : decode cX10_goWalk 78 = .ok (.iadd, 1) := by decide +kernel
theorem dX10_goWalk_79 : decode cX10_goWalk 79 = .ok (.baload, 1) := by decide +kernel
theorem dX10_goWalk_80 : decode cX10_goWalk 80 = .ok (.ifCond .eq 7, 3) := by decide +kernel
theorem dX10_goWalk_83 : decode cX10_goWalk 83 = .ok (.iconst 1, 1) := by decide +kernel
theorem dX10_goWalk_84 : decode cX10_goWalk 84 = .ok (.goto 4, 3) := by decide +kernel
theorem dX10_goWalk_87 : decode cX10_goWalk 87 = .ok (.iconst 0, 1) := by decide +kernel
theorem dX10_goWalk_88 : decode cX10_goWalk 88 = .ok (.istore 5, 2) := by decide +kernel
theorem dX10_goWalk_90 : decode cX10_goWalk 90 = .ok (.iload_n 3, 1) := by decide +kernel
theorem dX10_goWalk_91 : decode cX10_goWalk 91 = .ok (.iconst (-1), 1) := by decide +kernel
theorem dX10_goWalk_92 : decode cX10_goWalk 92 = .ok (.if_icmp .eq 15, 3) := by decide +kernel
theorem dX10_goWalk_95 : decode cX10_goWalk 95 = .ok (.aload_n 0, 1) := by decide +kernel
theorem dX10_goWalk_96 : decode cX10_goWalk 96 = .ok (.getfield 51, 3) := by decide +kernel
theorem dX10_goWalk_99 : decode cX10_goWalk 99 = .ok (.bipush 16, 2) := by decide +kernel
theorem dX10_goWalk_101 : decode cX10_goWalk 101 = .ok (.iload_n 2, 1) := by decide +kernel
theorem dX10_goWalk_102 : decode cX10_goWalk 102 = .ok (.imul, 1) := by decide +kernel
theorem dX10_goWalk_103 : decode cX10_goWalk 103 = .ok (.iload_n 3, 1) := by decide +kernel
theorem dX10_goWalk_104 : decode cX10_goWalk 104 = .ok (.iadd, 1) := by decide +kernel
theorem dX10_goWalk_105 : decode cX10_goWalk 105 = .ok (.iconst 1, 1) := by decide +kernel
theorem dX10_goWalk_106 : decode cX10_goWalk 106 = .ok (.bastore, 1) := by decide +kernel
theorem dX10_goWalk_107 : decode cX10_goWalk 107 = .ok (.iload 4, 2) := by decide +kernel
theorem dX10_goWalk_109 : decode cX10_goWalk 109 = .ok (.bipush (-2), 2) := by decide +kernel
theorem dX10_goWalk_111 : decode cX10_goWalk 111 = .ok (.if_icmp .ne 11, 3) := by decide +kernel
theorem dX10_goWalk_114 : decode cX10_goWalk 114 = .ok (.aload_n 0, 1) := by decide +kernel
theorem dX10_goWalk_115 : decode cX10_goWalk 115 = .ok (.iconst 2, 1) := by decide +kernel
theorem dX10_goWalk_116 : decode cX10_goWalk 116 = .ok (.putfield 137, 3) := by decide +kernel
theorem dX10_goWalk_119 : decode cX10_goWalk 119 = .ok (.goto 103, 3) := by decide +kernel
theorem dX10_goWalk_122 : decode cX10_goWalk 122 = .ok (.iload 5, 2) := by decide +kernel
theorem dX10_goWalk_124 : decode cX10_goWalk 124 = .ok (.ifCond .eq 11, 3) := by decide +kernel
theorem dX10_goWalk_127 : decode cX10_goWalk 127 = .ok (.aload_n 0, 1) := by decide +kernel
theorem dX10_goWalk_128 : decode cX10_goWalk 128 = .ok (.iconst 3, 1) := by decide +kernel
theorem dX10_goWalk_129 : decode cX10_goWalk 129 = .ok (.putfield 137, 3) := by decide +kernel
theorem dX10_goWalk_132 : decode cX10_goWalk 132 = .ok (.goto 90, 3) := by decide +kernel
theorem dX10_goWalk_135 : decode cX10_goWalk 135 = .ok (.iload 4, 2) := by decide +kernel
theorem dX10_goWalk_137 : decode cX10_goWalk 137 = .ok (.ifCond .ge 22, 3) := by decide +kernel
theorem dX10_goWalk_140 : decode cX10_goWalk 140 = .ok (.aload_n 0, 1) := by decide +kernel
theorem dX10_goWalk_141 : decode cX10_goWalk 141 = .ok (.iload 4, 2) := by decide +kernel
theorem dX10_goWalk_143 : decode cX10_goWalk 143 = .ok (.bipush (-3), 2) := by decide +kernel
theorem dX10_goWalk_145 : decode cX10_goWalk 145 = .ok (.if_icmp .ne 7, 3) := by decide +kernel
theorem dX10_goWalk_148 : decode cX10_goWalk 148 = .ok (.iconst 1, 1) := by decide +kernel
theorem dX10_goWalk_149 : decode cX10_goWalk 149 = .ok (.goto 4, 3) := by decide +kernel
theorem dX10_goWalk_152 : decode cX10_goWalk 152 = .ok (.iconst 0, 1) := by decide +kernel
theorem dX10_goWalk_153 : decode cX10_goWalk 153 = .ok (.putfield 137, 3) := by decide +kernel
theorem dX10_goWalk_156 : decode cX10_goWalk 156 = .ok (.goto 66, 3) := by decide +kernel
theorem dX10_goWalk_159 : decode cX10_goWalk 159 = .ok (.aload_n 0, 1) := by decide +kernel
theorem dX10_goWalk_160 : decode cX10_goWalk 160 = .ok (.getfield 131, 3) := by decide +kernel
theorem dX10_goWalk_163 : decode cX10_goWalk 163 = .ok (.bipush 30, 2) := by decide +kernel
theorem dX10_goWalk_165 : decode cX10_goWalk 165 = .ok (.if_icmp .ne 11, 3) := by decide +kernel
theorem dX10_goWalk_168 : decode cX10_goWalk 168 = .ok (.aload_n 0, 1) := by decide +kernel
theorem dX10_goWalk_169 : decode cX10_goWalk 169 = .ok (.iconst 4, 1) := by decide +kernel
theorem dX10_goWalk_170 : decode cX10_goWalk 170 = .ok (.putfield 137, 3) := by decide +kernel
theorem dX10_goWalk_173 : decode cX10_goWalk 173 = .ok (.goto 49, 3) := by decide +kernel
theorem dX10_goWalk_176 : decode cX10_goWalk 176 = .ok (.aload_n 0, 1) := by decide +kernel
theorem dX10_goWalk_177 : decode cX10_goWalk 177 = .ok (.iload 4, 2) := by decide +kernel
theorem dX10_goWalk_179 : decode cX10_goWalk 179 = .ok (.iload_n 2, 1) := by decide +kernel
theorem dX10_goWalk_180 : decode cX10_goWalk 180 = .ok (.invokevirtual 143, 3) := by decide +kernel
theorem dX10_goWalk_183 : decode cX10_goWalk 183 = .ok (.istore_n 2, 1) := by decide +kernel
theorem dX10_goWalk_184 : decode cX10_goWalk 184 = .ok (.iload 4, 2) := by decide +kernel
theorem dX10_goWalk_186 : decode cX10_goWalk 186 = .ok (.istore_n 3, 1) := by decide +kernel
theorem dX10_goWalk_187 : decode cX10_goWalk 187 = .ok (.aload_n 0, 1) := by decide +kernel
theorem dX10_goWalk_188 : decode cX10_goWalk 188 = .ok (.dup, 1) := by decide +kernel
theorem dX10_goWalk_189 : decode cX10_goWalk 189 = .ok (.getfield 131, 3) := by decide +kernel
theorem dX10_goWalk_192 : decode cX10_goWalk 192 = .ok (.iconst 1, 1) := by decide +kernel
theorem dX10_goWalk_193 : decode cX10_goWalk 193 = .ok (.iadd, 1) := by decide +kernel
theorem dX10_goWalk_194 : decode cX10_goWalk 194 = .ok (.putfield 131, 3) := by decide +kernel
theorem dX10_goWalk_197 : decode cX10_goWalk 197 = .ok (.aload_n 0, 1) := by decide +kernel
theorem dX10_goWalk_198 : decode cX10_goWalk 198 = .ok (.dup, 1) := by decide +kernel
theorem dX10_goWalk_199 : decode cX10_goWalk 199 = .ok (.getfield 134, 3) := by decide +kernel
theorem dX10_goWalk_202 : decode cX10_goWalk 202 = .ok (.aload_n 0, 1) := by decide +kernel
theorem dX10_goWalk_203 : decode cX10_goWalk 203 = .ok (.getfield 16, 3) := by decide +kernel
theorem dX10_goWalk_206 : decode cX10_goWalk 206 = .ok (.iload_n 3, 1) := by decide +kernel
theorem dX10_goWalk_207 : decode cX10_goWalk 207 = .ok (.iaload, 1) := by decide +kernel
theorem dX10_goWalk_208 : decode cX10_goWalk 208 = .ok (.iadd, 1) := by decide +kernel
theorem dX10_goWalk_209 : decode cX10_goWalk 209 = .ok (.putfield 134, 3) := by decide +kernel
theorem dX10_goWalk_212 : decode cX10_goWalk 212 = .ok (.aload_n 0, 1) := by decide +kernel
theorem dX10_goWalk_213 : decode cX10_goWalk 213 = .ok (.getfield 48, 3) := by decide +kernel
theorem dX10_goWalk_216 : decode cX10_goWalk 216 = .ok (.aload_n 0, 1) := by decide +kernel
theorem dX10_goWalk_217 : decode cX10_goWalk 217 = .ok (.getfield 131, 3) := by decide +kernel
theorem dX10_goWalk_220 : decode cX10_goWalk 220 = .ok (.iload_n 2, 1) := by decide +kernel
theorem dX10_goWalk_221 : decode cX10_goWalk 221 = .ok (.iastore, 1) := by decide +kernel
theorem dX10_goWalk_222 : decode cX10_goWalk 222 = .ok (.goto (-174), 3) := by decide +kernel
theorem dX10_goWalk_225 : decode cX10_goWalk 225 = .ok (.return_, 1) := by decide +kernel
theorem dX10_walk_0 : decode cX10_walk 0 = .ok (.iload_n 1, 1) := by decide +kernel
theorem dX10_walk_1 : decode cX10_walk 1 = .ok (.invokestatic 101, 3) := by decide +kernel
theorem dX10_walk_4 : decode cX10_walk 4 = .ok (.ifCond .ne 6, 3) := by decide +kernel
theorem dX10_walk_7 : decode cX10_walk 7 = .ok (.bipush (-2), 2) := by decide +kernel
theorem dX10_walk_9 : decode cX10_walk 9 = .ok (.ireturn, 1) := by decide +kernel
theorem dX10_walk_10 : decode cX10_walk 10 = .ok (.iload_n 2, 1) := by decide +kernel
theorem dX10_walk_11 : decode cX10_walk 11 = .ok (.iconst 0, 1) := by decide +kernel
theorem dX10_walk_12 : decode cX10_walk 12 = .ok (.iconst 3, 1) := by decide +kernel
theorem dX10_walk_13 : decode cX10_walk 13 = .ok (.invokestatic 90, 3) := by decide +kernel
theorem dX10_walk_16 : decode cX10_walk 16 = .ok (.ifCond .ne 6, 3) := by decide +kernel
theorem dX10_walk_19 : decode cX10_walk 19 = .ok (.bipush (-3), 2) := by decide +kernel
theorem dX10_walk_21 : decode cX10_walk 21 = .ok (.ireturn, 1) := by decide +kernel
theorem dX10_walk_22 : decode cX10_walk 22 = .ok (.aload_n 0, 1) := by decide +kernel
theorem dX10_walk_23 : decode cX10_walk 23 = .ok (.iload_n 1, 1) := by decide +kernel
theorem dX10_walk_24 : decode cX10_walk 24 = .ok (.invokevirtual 146, 3) := by decide +kernel
theorem dX10_walk_27 : decode cX10_walk 27 = .ok (.iload_n 2, 1) := by decide +kernel
theorem dX10_walk_28 : decode cX10_walk 28 = .ok (.ifCond .ne 10, 3) := by decide +kernel
theorem dX10_walk_31 : decode cX10_walk 31 = .ok (.aload_n 0, 1) := by decide +kernel
theorem dX10_walk_32 : decode cX10_walk 32 = .ok (.getfield 137, 3) := by decide +kernel
theorem dX10_walk_35 : decode cX10_walk 35 = .ok (.goto 36, 3) := by decide +kernel
theorem dX10_walk_38 : decode cX10_walk 38 = .ok (.iload_n 2, 1) := by decide +kernel
theorem dX10_walk_39 : decode cX10_walk 39 = .ok (.iconst 1, 1) := by decide +kernel
theorem dX10_walk_40 : decode cX10_walk 40 = .ok (.if_icmp .ne 15, 3) := by decide +kernel
theorem dX10_walk_43 : decode cX10_walk 43 = .ok (.aload_n 0, 1) := by decide +kernel
theorem dX10_walk_44 : decode cX10_walk 44 = .ok (.getfield 48, 3) := by decide +kernel
theorem dX10_walk_47 : decode cX10_walk 47 = .ok (.aload_n 0, 1) := by decide +kernel
theorem dX10_walk_48 : decode cX10_walk 48 = .ok (.getfield 131, 3) := by decide +kernel
theorem dX10_walk_51 : decode cX10_walk 51 = .ok (.iaload, 1) := by decide +kernel
theorem dX10_walk_52 : decode cX10_walk 52 = .ok (.goto 19, 3) := by decide +kernel
theorem dX10_walk_55 : decode cX10_walk 55 = .ok (.iload_n 2, 1) := by decide +kernel
theorem dX10_walk_56 : decode cX10_walk 56 = .ok (.iconst 2, 1) := by decide +kernel
theorem dX10_walk_57 : decode cX10_walk 57 = .ok (.if_icmp .ne 10, 3) := by decide +kernel
theorem dX10_walk_60 : decode cX10_walk 60 = .ok (.aload_n 0, 1) := by decide +kernel
theorem dX10_walk_61 : decode cX10_walk 61 = .ok (.getfield 131, 3) := by decide +kernel
theorem dX10_walk_64 : decode cX10_walk 64 = .ok (.goto 7, 3) := by decide +kernel
theorem dX10_walk_67 : decode cX10_walk 67 = .ok (.aload_n 0, 1) := by decide +kernel
theorem dX10_walk_68 : decode cX10_walk 68 = .ok (.getfield 134, 3) := by decide +kernel
theorem dX10_walk_71 : decode cX10_walk 71 = .ok (.ireturn, 1) := by decide +kernel
theorem dX10_walked_0 : decode cX10_walked 0 = .ok (.iload_n 1, 1) := by decide +kernel
theorem dX10_walked_1 : decode cX10_walked 1 = .ok (.invokestatic 101, 3) := by decide +kernel
theorem dX10_walked_4 : decode cX10_walked 4 = .ok (.ifCond .ne 6, 3) := by decide +kernel
theorem dX10_walked_7 : decode cX10_walked 7 = .ok (.bipush (-2), 2) := by decide +kernel
theorem dX10_walked_9 : decode cX10_walked 9 = .ok (.ireturn, 1) := by decide +kernel
theorem dX10_walked_10 : decode cX10_walked 10 = .ok (.iload_n 2, 1) := by decide +kernel
theorem dX10_walked_11 : decode cX10_walked 11 = .ok (.ifCond .ge 6, 3) := by decide +kernel
theorem dX10_walked_14 : decode cX10_walked 14 = .ok (.bipush (-3), 2) := by decide +kernel
theorem dX10_walked_16 : decode cX10_walked 16 = .ok (.ireturn, 1) := by decide +kernel
theorem dX10_walked_17 : decode cX10_walked 17 = .ok (.aload_n 0, 1) := by decide +kernel
theorem dX10_walked_18 : decode cX10_walked 18 = .ok (.iload_n 1, 1) := by decide +kernel
theorem dX10_walked_19 : decode cX10_walked 19 = .ok (.invokevirtual 146, 3) := by decide +kernel
theorem dX10_walked_22 : decode cX10_walked 22 = .ok (.iload_n 2, 1) := by decide +kernel
theorem dX10_walked_23 : decode cX10_walked 23 = .ok (.aload_n 0, 1) := by decide +kernel
theorem dX10_walked_24 : decode cX10_walked 24 = .ok (.getfield 131, 3) := by decide +kernel
theorem dX10_walked_27 : decode cX10_walked 27 = .ok (.if_icmp .gt 12, 3) := by decide +kernel
theorem dX10_walked_30 : decode cX10_walked 30 = .ok (.aload_n 0, 1) := by decide +kernel
theorem dX10_walked_31 : decode cX10_walked 31 = .ok (.getfield 48, 3) := by decide +kernel
theorem dX10_walked_34 : decode cX10_walked 34 = .ok (.iload_n 2, 1) := by decide +kernel
theorem dX10_walked_35 : decode cX10_walked 35 = .ok (.iaload, 1) := by decide +kernel
theorem dX10_walked_36 : decode cX10_walked 36 = .ok (.goto 4, 3) := by decide +kernel
theorem dX10_walked_39 : decode cX10_walked 39 = .ok (.iconst (-1), 1) := by decide +kernel
theorem dX10_walked_40 : decode cX10_walked 40 = .ok (.ireturn, 1) := by decide +kernel
theorem dX10_note_0 : decode cX10_note 0 = .ok (.iload_n 1, 1) := by decide +kernel
theorem dX10_note_1 : decode cX10_note 1 = .ok (.iconst (-1), 1) := by decide +kernel
theorem dX10_note_2 : decode cX10_note 2 = .ok (.bipush 15, 2) := by decide +kernel
theorem dX10_note_4 : decode cX10_note 4 = .ok (.invokestatic 90, 3) := by decide +kernel
theorem dX10_note_7 : decode cX10_note 7 = .ok (.ifCond .ne 6, 3) := by decide +kernel
theorem dX10_note_10 : decode cX10_note 10 = .ok (.bipush (-3), 2) := by decide +kernel
theorem dX10_note_12 : decode cX10_note 12 = .ok (.ireturn, 1) := by decide +kernel
theorem dX10_note_13 : decode cX10_note 13 = .ok (.aload_n 0, 1) := by decide +kernel
theorem dX10_note_14 : decode cX10_note 14 = .ok (.getfield 150, 3) := by decide +kernel
theorem dX10_note_17 : decode cX10_note 17 = .ok (.bipush 8, 2) := by decide +kernel
theorem dX10_note_19 : decode cX10_note 19 = .ok (.if_icmp .ne 6, 3) := by decide +kernel
theorem dX10_note_22 : decode cX10_note 22 = .ok (.bipush (-5), 2) := by decide +kernel
theorem dX10_note_24 : decode cX10_note 24 = .ok (.ireturn, 1) := by decide +kernel
theorem dX10_note_25 : decode cX10_note 25 = .ok (.aload_n 0, 1) := by decide +kernel
theorem dX10_note_26 : decode cX10_note 26 = .ok (.getfield 54, 3) := by decide +kernel
theorem dX10_note_29 : decode cX10_note 29 = .ok (.aload_n 0, 1) := by decide +kernel
theorem dX10_note_30 : decode cX10_note 30 = .ok (.getfield 150, 3) := by decide +kernel
theorem dX10_note_33 : decode cX10_note 33 = .ok (.iload_n 1, 1) := by decide +kernel
theorem dX10_note_34 : decode cX10_note 34 = .ok (.iastore, 1) := by decide +kernel
theorem dX10_note_35 : decode cX10_note 35 = .ok (.aload_n 0, 1) := by decide +kernel
theorem dX10_note_36 : decode cX10_note 36 = .ok (.dup, 1) := by decide +kernel
theorem dX10_note_37 : decode cX10_note 37 = .ok (.getfield 150, 3) := by decide +kernel
theorem dX10_note_40 : decode cX10_note 40 = .ok (.iconst 1, 1) := by decide +kernel
theorem dX10_note_41 : decode cX10_note 41 = .ok (.iadd, 1) := by decide +kernel
theorem dX10_note_42 : decode cX10_note 42 = .ok (.putfield 150, 3) := by decide +kernel
theorem dX10_note_45 : decode cX10_note 45 = .ok (.aload_n 0, 1) := by decide +kernel
theorem dX10_note_46 : decode cX10_note 46 = .ok (.getfield 150, 3) := by decide +kernel
theorem dX10_note_49 : decode cX10_note 49 = .ok (.ireturn, 1) := by decide +kernel
theorem dX10_forget_0 : decode cX10_forget 0 = .ok (.aload_n 0, 1) := by decide +kernel
theorem dX10_forget_1 : decode cX10_forget 1 = .ok (.getfield 150, 3) := by decide +kernel
theorem dX10_forget_4 : decode cX10_forget 4 = .ok (.istore_n 1, 1) := by decide +kernel
theorem dX10_forget_5 : decode cX10_forget 5 = .ok (.aload_n 0, 1) := by decide +kernel
theorem dX10_forget_6 : decode cX10_forget 6 = .ok (.iconst 0, 1) := by decide +kernel
theorem dX10_forget_7 : decode cX10_forget 7 = .ok (.putfield 150, 3) := by decide +kernel
theorem dX10_forget_10 : decode cX10_forget 10 = .ok (.iload_n 1, 1) := by decide +kernel
theorem dX10_forget_11 : decode cX10_forget 11 = .ok (.ireturn, 1) := by decide +kernel
theorem dX10_isNoted_0 : decode cX10_isNoted 0 = .ok (.aload_n 0, 1) := by decide +kernel
theorem dX10_isNoted_1 : decode cX10_isNoted 1 = .ok (.iload_n 2, 1) := by decide +kernel
theorem dX10_isNoted_2 : decode cX10_isNoted 2 = .ok (.iload_n 3, 1) := by decide +kernel
theorem dX10_isNoted_3 : decode cX10_isNoted 3 = .ok (.invokevirtual 128, 3) := by decide +kernel
theorem dX10_isNoted_6 : decode cX10_isNoted 6 = .ok (.istore 4, 2) := by decide +kernel
theorem dX10_isNoted_8 : decode cX10_isNoted 8 = .ok (.iconst 0, 1) := by decide +kernel
theorem dX10_isNoted_9 : decode cX10_isNoted 9 = .ok (.istore 5, 2) := by decide +kernel
theorem dX10_isNoted_11 : decode cX10_isNoted 11 = .ok (.iconst 0, 1) := by decide +kernel
theorem dX10_isNoted_12 : decode cX10_isNoted 12 = .ok (.istore 6, 2) := by decide +kernel
theorem dX10_isNoted_14 : decode cX10_isNoted 14 = .ok (.iload 6, 2) := by decide +kernel
theorem dX10_isNoted_16 : decode cX10_isNoted 16 = .ok (.aload_n 0, 1) := by decide +kernel
theorem dX10_isNoted_17 : decode cX10_isNoted 17 = .ok (.getfield 115, 3) := by decide +kernel
theorem dX10_isNoted_20 : decode cX10_isNoted 20 = .ok (.if_icmp .ge 38, 3) := by decide +kernel
theorem dX10_isNoted_23 : decode cX10_isNoted 23 = .ok (.iload 5, 2) := by decide +kernel
theorem dX10_isNoted_25 : decode cX10_isNoted 25 = .ok (.iload 4, 2) := by decide +kernel
theorem dX10_isNoted_27 : decode cX10_isNoted 27 = .ok (.iload 6, 2) := by decide +kernel
theorem dX10_isNoted_29 : decode cX10_isNoted 29 = .ok (.ishr, 1) := by decide +kernel
theorem dX10_isNoted_30 : decode cX10_isNoted 30 = .ok (.iconst 1, 1) := by decide +kernel
theorem dX10_isNoted_31 : decode cX10_isNoted 31 = .ok (.iand, 1) := by decide +kernel
theorem dX10_isNoted_32 : decode cX10_isNoted 32 = .ok (.iconst 1, 1) := by decide +kernel
theorem dX10_isNoted_33 : decode cX10_isNoted 33 = .ok (.if_icmp .ne 15, 3) := by decide +kernel
theorem dX10_isNoted_36 : decode cX10_isNoted 36 = .ok (.iconst 1, 1) := by decide +kernel
theorem dX10_isNoted_37 : decode cX10_isNoted 37 = .ok (.aload_n 0, 1) := by decide +kernel
theorem dX10_isNoted_38 : decode cX10_isNoted 38 = .ok (.getfield 22, 3) := by decide +kernel
theorem dX10_isNoted_41 : decode cX10_isNoted 41 = .ok (.iload 6, 2) := by decide +kernel
theorem dX10_isNoted_43 : decode cX10_isNoted 43 = .ok (.iaload, 1) := by decide +kernel
theorem dX10_isNoted_44 : decode cX10_isNoted 44 = .ok (.ishl, 1) := by decide +kernel
theorem dX10_isNoted_45 : decode cX10_isNoted 45 = .ok (.goto 4, 3) := by decide +kernel
theorem dX10_isNoted_48 : decode cX10_isNoted 48 = .ok (.iconst 0, 1) := by decide +kernel
theorem dX10_isNoted_49 : decode cX10_isNoted 49 = .ok (.ior, 1) := by decide +kernel
theorem dX10_isNoted_50 : decode cX10_isNoted 50 = .ok (.istore 5, 2) := by decide +kernel
theorem dX10_isNoted_52 : decode cX10_isNoted 52 = .ok (.iinc 6 1, 3) := by decide +kernel
theorem dX10_isNoted_55 : decode cX10_isNoted 55 = .ok (.goto (-41), 3) := by decide +kernel
theorem dX10_isNoted_58 : decode cX10_isNoted 58 = .ok (.aload_n 0, 1) := by decide +kernel
theorem dX10_isNoted_59 : decode cX10_isNoted 59 = .ok (.getfield 54, 3) := by decide +kernel
theorem dX10_isNoted_62 : decode cX10_isNoted 62 = .ok (.iload_n 1, 1) := by decide +kernel
theorem dX10_isNoted_63 : decode cX10_isNoted 63 = .ok (.iaload, 1) := by decide +kernel
theorem dX10_isNoted_64 : decode cX10_isNoted 64 = .ok (.iconst (-1), 1) := by decide +kernel
theorem dX10_isNoted_65 : decode cX10_isNoted 65 = .ok (.if_icmp .eq 14, 3) := by decide +kernel
theorem dX10_isNoted_68 : decode cX10_isNoted 68 = .ok (.aload_n 0, 1) := by decide +kernel
theorem dX10_isNoted_69 : decode cX10_isNoted 69 = .ok (.getfield 54, 3) := by decide +kernel
theorem dX10_isNoted_72 : decode cX10_isNoted 72 = .ok (.iload_n 1, 1) := by decide +kernel
theorem dX10_isNoted_73 : decode cX10_isNoted 73 = .ok (.iaload, 1) := by decide +kernel
theorem dX10_isNoted_74 : decode cX10_isNoted 74 = .ok (.iload 5, 2) := by decide +kernel
theorem dX10_isNoted_76 : decode cX10_isNoted 76 = .ok (.if_icmp .ne 7, 3) := by decide +kernel
theorem dX10_isNoted_79 : decode cX10_isNoted 79 = .ok (.iconst 1, 1) := by decide +kernel
theorem dX10_isNoted_80 : decode cX10_isNoted 80 = .ok (.goto 4, 3) := by decide +kernel
theorem dX10_isNoted_83 : decode cX10_isNoted 83 = .ok (.iconst 0, 1) := by decide +kernel
theorem dX10_isNoted_84 : decode cX10_isNoted 84 = .ok (.ireturn, 1) := by decide +kernel
theorem dX10_mayGo_0 : decode cX10_mayGo 0 = .ok (.aload_n 0, 1) := by decide +kernel
theorem dX10_mayGo_1 : decode cX10_mayGo 1 = .ok (.iload_n 1, 1) := by decide +kernel
theorem dX10_mayGo_2 : decode cX10_mayGo 2 = .ok (.invokevirtual 118, 3) := by decide +kernel
theorem dX10_mayGo_5 : decode cX10_mayGo 5 = .ok (.istore 4, 2) := by decide +kernel
theorem dX10_mayGo_7 : decode cX10_mayGo 7 = .ok (.aload_n 0, 1) := by decide +kernel
theorem dX10_mayGo_8 : decode cX10_mayGo 8 = .ok (.iload_n 3, 1) := by decide +kernel
theorem dX10_mayGo_9 : decode cX10_mayGo 9 = .ok (.iload_n 1, 1) := by decide +kernel
theorem dX10_mayGo_10 : decode cX10_mayGo 10 = .ok (.invokevirtual 97, 3) := by decide +kernel
theorem dX10_mayGo_13 : decode cX10_mayGo 13 = .ok (.ifCond .eq 20, 3) := by decide +kernel
theorem dX10_mayGo_16 : decode cX10_mayGo 16 = .ok (.iload_n 3, 1) := by decide +kernel
theorem dX10_mayGo_17 : decode cX10_mayGo 17 = .ok (.iload_n 2, 1) := by decide +kernel
theorem dX10_mayGo_18 : decode cX10_mayGo 18 = .ok (.if_icmp .ne 11, 3) := by decide +kernel
theorem dX10_mayGo_21 : decode cX10_mayGo 21 = .ok (.iload 4, 2) := by decide +kernel
theorem dX10_mayGo_23 : decode cX10_mayGo 23 = .ok (.iconst 1, 1) := by decide +kernel
theorem dX10_mayGo_24 : decode cX10_mayGo 24 = .ok (.iload_n 3, 1) := by decide +kernel
theorem dX10_mayGo_25 : decode cX10_mayGo 25 = .ok (.ishl, 1) := by decide +kernel
theorem dX10_mayGo_26 : decode cX10_mayGo 26 = .ok (.if_icmp .ne 7, 3) := by decide +kernel
theorem dX10_mayGo_29 : decode cX10_mayGo 29 = .ok (.iconst 1, 1) := by decide +kernel
theorem dX10_mayGo_30 : decode cX10_mayGo 30 = .ok (.goto 4, 3) := by decide +kernel
theorem dX10_mayGo_33 : decode cX10_mayGo 33 = .ok (.iconst 0, 1) := by decide +kernel
theorem dX10_mayGo_34 : decode cX10_mayGo 34 = .ok (.ireturn, 1) := by decide +kernel
theorem dX10_findWays_0 : decode cX10_findWays 0 = .ok (.aload_n 0, 1) := by decide +kernel
theorem dX10_findWays_1 : decode cX10_findWays 1 = .ok (.getfield 150, 3) := by decide +kernel
theorem dX10_findWays_4 : decode cX10_findWays 4 = .ok (.iconst 1, 1) := by decide +kernel
theorem dX10_findWays_5 : decode cX10_findWays 5 = .ok (.isub, 1) := by decide +kernel
theorem dX10_findWays_6 : decode cX10_findWays 6 = .ok (.istore_n 1, 1) := by decide +kernel
theorem dX10_findWays_7 : decode cX10_findWays 7 = .ok (.iload_n 1, 1) := by decide +kernel
theorem dX10_findWays_8 : decode cX10_findWays 8 = .ok (.ifCond .lt 184, 3) := by decide +kernel
theorem dX10_findWays_11 : decode cX10_findWays 11 = .ok (.iconst 0, 1) := by decide +kernel
theorem dX10_findWays_12 : decode cX10_findWays 12 = .ok (.istore_n 2, 1) := by decide +kernel
theorem dX10_findWays_13 : decode cX10_findWays 13 = .ok (.iload_n 2, 1) := by decide +kernel
theorem dX10_findWays_14 : decode cX10_findWays 14 = .ok (.sipush 170, 3) := by decide +kernel
theorem dX10_findWays_17 : decode cX10_findWays 17 = .ok (.if_icmp .ge 169, 3) := by decide +kernel
theorem dX10_findWays_20 : decode cX10_findWays 20 = .ok (.iload_n 2, 1) := by decide +kernel
theorem dX10_findWays_21 : decode cX10_findWays 21 = .ok (.bipush 17, 2) := by decide +kernel
theorem dX10_findWays_23 : decode cX10_findWays 23 = .ok (.idiv, 1) := by decide +kernel
theorem dX10_findWays_24 : decode cX10_findWays 24 = .ok (.istore_n 3, 1) := by decide +kernel
theorem dX10_findWays_25 : decode cX10_findWays 25 = .ok (.iload_n 2, 1) := by decide +kernel
theorem dX10_findWays_26 : decode cX10_findWays 26 = .ok (.bipush 17, 2) := by decide +kernel
theorem dX10_findWays_28 : decode cX10_findWays 28 = .ok (.irem, 1) := by decide +kernel
theorem dX10_findWays_29 : decode cX10_findWays 29 = .ok (.bipush 16, 2) := by decide +kernel
theorem dX10_findWays_31 : decode cX10_findWays 31 = .ok (.if_icmp .ne 7, 3) := by decide +kernel
theorem dX10_findWays_34 : decode cX10_findWays 34 = .ok (.iconst (-1), 1) := by decide +kernel
theorem dX10_findWays_35 : decode cX10_findWays 35 = .ok (.goto 7, 3) := by decide +kernel
theorem dX10_findWays_38 : decode cX10_findWays 38 = .ok (.iload_n 2, 1) := by decide +kernel
theorem dX10_findWays_39 : decode cX10_findWays 39 = .ok (.bipush 17, 2) := by decide +kernel
theorem dX10_findWays_41 : decode cX10_findWays 41 = .ok (.irem, 1) := by decide +kernel
theorem dX10_findWays_42 : decode cX10_findWays 42 = .ok (.istore 4, 2) := by decide +kernel
theorem dX10_findWays_44 : decode cX10_findWays 44 = .ok (.iconst 0, 1) := by decide +kernel
theorem dX10_findWays_45 : decode cX10_findWays 45 = .ok (.istore 5, 2) := by decide +kernel
theorem dX10_findWays_47 : decode cX10_findWays 47 = .ok (.iload 4, 2) := by decide +kernel
theorem dX10_findWays_49 : decode cX10_findWays 49 = .ok (.iconst (-1), 1) := by decide +kernel
theorem dX10_findWays_50 : decode cX10_findWays 50 = .ok (.if_icmp .eq 13, 3) := by decide +kernel
theorem dX10_findWays_53 : decode cX10_findWays 53 = .ok (.aload_n 0, 1) := by decide +kernel
theorem dX10_findWays_54 : decode cX10_findWays 54 = .ok (.iload 4, 2) := by decide +kernel
theorem dX10_findWays_56 : decode cX10_findWays 56 = .ok (.iload_n 3, 1) := by decide +kernel
theorem dX10_findWays_57 : decode cX10_findWays 57 = .ok (.invokevirtual 97, 3) := by decide +kernel
theorem dX10_findWays_60 : decode cX10_findWays 60 = .ok (.ifCond .eq 106, 3) := by decide +kernel
theorem dX10_findWays_63 : decode cX10_findWays 63 = .ok (.aload_n 0, 1) := by decide +kernel
theorem dX10_findWays_64 : decode cX10_findWays 64 = .ok (.iload_n 1, 1) := by decide +kernel
theorem dX10_findWays_65 : decode cX10_findWays 65 = .ok (.iload_n 3, 1) := by decide +kernel
theorem dX10_findWays_66 : decode cX10_findWays 66 = .ok (.iload 4, 2) := by decide +kernel
theorem dX10_findWays_68 : decode cX10_findWays 68 = .ok (.invokevirtual 153, 3) := by decide +kernel
theorem dX10_findWays_71 : decode cX10_findWays 71 = .ok (.ifCond .eq 95, 3) := by decide +kernel
theorem dX10_findWays_74 : decode cX10_findWays 74 = .ok (.iload_n 1, 1) := by decide +kernel
theorem dX10_findWays_75 : decode cX10_findWays 75 = .ok (.aload_n 0, 1) := by decide +kernel
theorem dX10_findWays_76 : decode cX10_findWays 76 = .ok (.getfield 150, 3) := by decide +kernel
theorem dX10_findWays_79 : decode cX10_findWays 79 = .ok (.iconst 1, 1) := by decide +kernel
theorem dX10_findWays_80 : decode cX10_findWays 80 = .ok (.isub, 1) := by decide +kernel
theorem dX10_findWays_81 : decode cX10_findWays 81 = .ok (.if_icmp .ne 7, 3) := by decide +kernel
theorem dX10_findWays_84 : decode cX10_findWays 84 = .ok (.iconst 1, 1) := by decide +kernel
theorem dX10_findWays_85 : decode cX10_findWays 85 = .ok (.goto 4, 3) := by decide +kernel
theorem dX10_findWays_88 : decode cX10_findWays 88 = .ok (.iconst 0, 1) := by decide +kernel
theorem dX10_findWays_89 : decode cX10_findWays 89 = .ok (.istore 5, 2) := by decide +kernel
theorem dX10_findWays_91 : decode cX10_findWays 91 = .ok (.iconst 0, 1) := by decide +kernel
theorem dX10_findWays_92 : decode cX10_findWays 92 = .ok (.istore 6, 2) := by decide +kernel
theorem dX10_findWays_94 : decode cX10_findWays 94 = .ok (.iload 6, 2) := by decide +kernel
theorem dX10_findWays_96 : decode cX10_findWays 96 = .ok (.aload_n 0, 1) := by decide +kernel
theorem dX10_findWays_97 : decode cX10_findWays 97 = .ok (.getfield 94, 3) := by decide +kernel
theorem dX10_findWays_100 : decode cX10_findWays 100 = .ok (.if_icmp .ge 66, 3) := by decide +kernel
theorem dX10_findWays_103 : decode cX10_findWays 103 = .ok (.iload_n 1, 1) := by decide +kernel
theorem dX10_findWays_104 : decode cX10_findWays 104 = .ok (.aload_n 0, 1) := by decide +kernel
theorem dX10_findWays_105 : decode cX10_findWays 105 = .ok (.getfield 150, 3) := by decide +kernel
theorem dX10_findWays_108 : decode cX10_findWays 108 = .ok (.iconst 1, 1) := by decide +kernel
theorem dX10_findWays_109 : decode cX10_findWays 109 = .ok (.isub, 1) := by decide +kernel
theorem dX10_findWays_110 : decode cX10_findWays 110 = .ok (.if_icmp .ge 56, 3) := by decide +kernel
theorem dX10_findWays_113 : decode cX10_findWays 113 = .ok (.iload 5, 2) := by decide +kernel
theorem dX10_findWays_115 : decode cX10_findWays 115 = .ok (.aload_n 0, 1) := by decide +kernel
theorem dX10_findWays_116 : decode cX10_findWays 116 = .ok (.iload_n 3, 1) := by decide +kernel
theorem dX10_findWays_117 : decode cX10_findWays 117 = .ok (.iload 4, 2) := by decide +kernel
theorem dX10_findWays_119 : decode cX10_findWays 119 = .ok (.iload 6, 2) := by decide +kernel
theorem dX10_findWays_121 : decode cX10_findWays 121 = .ok (.invokevirtual 156, 3) := by decide +kernel
theorem dX10_findWays_124 : decode cX10_findWays 124 = .ok (.ifCond .eq 32, 3) := by decide +kernel
theorem dX10_findWays_127 : decode cX10_findWays 127 = .ok (.aload_n 0, 1) := by decide +kernel
theorem dX10_findWays_128 : decode cX10_findWays 128 = .ok (.getfield 57, 3) := by decide +kernel
theorem dX10_findWays_131 : decode cX10_findWays 131 = .ok (.sipush 170, 3) := by decide +kernel
theorem dX10_findWays_134 : decode cX10_findWays 134 = .ok (.iload_n 1, 1) := by decide +kernel
theorem dX10_findWays_135 : decode cX10_findWays 135 = .ok (.iconst 1, 1) := by decide +kernel
theorem dX10_findWays_136 : decode cX10_findWays 136 = .ok (.iadd, 1) := by decide +kernel
theorem dX10_findWays_137 : decode cX10_findWays 137 = .ok (.imul, 1) := by decide +kernel
theorem dX10_findWays_138 : decode cX10_findWays 138 = .ok (.bipush 17, 2) := by decide +kernel
theorem dX10_findWays_140 : decode cX10_findWays 140 = .ok (.aload_n 0, 1) := by decide +kernel
theorem dX10_findWays_141 : decode cX10_findWays 141 = .ok (.iload 6, 2) := by decide +kernel
theorem dX10_findWays_143 : decode cX10_findWays 143 = .ok (.iload_n 3, 1) := by decide +kernel
theorem dX10_findWays_144 : decode cX10_findWays 144 = .ok (.invokevirtual 143, 3) := by decide +kernel
theorem dX10_findWays_147 : decode cX10_findWays 147 = .ok (.imul, 1) := by decide +kernel
theorem dX10_findWays_148 : decode cX10_findWays 148 = .ok (.iadd, 1) := by decide +kernel
theorem dX10_findWays_149 : decode cX10_findWays 149 = .ok (.iload 6, 2) := by decide +kernel
theorem dX10_findWays_151 : decode cX10_findWays 151 = .ok (.iadd, 1) := by decide +kernel
theorem dX10_findWays_152 : decode cX10_findWays 152 = .ok (.iaload, 1) := by decide +kernel
theorem dX10_findWays_153 : decode cX10_findWays 153 = .ok (.goto 4, 3) := by decide +kernel
theorem dX10_findWays_156 : decode cX10_findWays 156 = .ok (.iconst 0, 1) := by decide +kernel
theorem dX10_findWays_157 : decode cX10_findWays 157 = .ok (.iadd, 1) := by decide +kernel
theorem dX10_findWays_158 : decode cX10_findWays 158 = .ok (.istore 5, 2) := by decide +kernel
theorem dX10_findWays_160 : decode cX10_findWays 160 = .ok (.iinc 6 1, 3) := by decide +kernel
theorem dX10_findWays_163 : decode cX10_findWays 163 = .ok (.goto (-69), 3) := by decide +kernel
theorem dX10_findWays_166 : decode cX10_findWays 166 = .ok (.aload_n 0, 1) := by decide +kernel
theorem dX10_findWays_167 : decode cX10_findWays 167 = .ok (.getfield 57, 3) := by decide +kernel
theorem dX10_findWays_170 : decode cX10_findWays 170 = .ok (.sipush 170, 3) := by decide +kernel
theorem dX10_findWays_173 : decode cX10_findWays 173 = .ok (.iload_n 1, 1) := by decide +kernel
theorem dX10_findWays_174 : decode cX10_findWays 174 = .ok (.imul, 1) := by decide +kernel
theorem dX10_findWays_175 : decode cX10_findWays 175 = .ok (.iload_n 2, 1) := by decide +kernel
theorem dX10_findWays_176 : decode cX10_findWays 176 = .ok (.iadd, 1) := by decide +kernel
theorem dX10_findWays_177 : decode cX10_findWays 177 = .ok (.iload 5, 2) := by decide +kernel
theorem dX10_findWays_179 : decode cX10_findWays 179 = .ok (.iastore, 1) := by decide +kernel
theorem dX10_findWays_180 : decode cX10_findWays 180 = .ok (.iinc 2 1, 3) := by decide +kernel
theorem dX10_findWays_183 : decode cX10_findWays 183 = .ok (.goto (-170), 3) := by decide +kernel
theorem dX10_findWays_186 : decode cX10_findWays 186 = .ok (.iinc 1 (-1), 3) := by decide +kernel
theorem dX10_findWays_189 : decode cX10_findWays 189 = .ok (.goto (-182), 3) := by decide +kernel
theorem dX10_findWays_192 : decode cX10_findWays 192 = .ok (.return_, 1) := by decide +kernel
theorem dX10_ways_0 : decode cX10_ways 0 = .ok (.iload_n 1, 1) := by decide +kernel
theorem dX10_ways_1 : decode cX10_ways 1 = .ok (.invokestatic 101, 3) := by decide +kernel
theorem dX10_ways_4 : decode cX10_ways 4 = .ok (.ifCond .ne 6, 3) := by decide +kernel
theorem dX10_ways_7 : decode cX10_ways 7 = .ok (.bipush (-2), 2) := by decide +kernel
theorem dX10_ways_9 : decode cX10_ways 9 = .ok (.ireturn, 1) := by decide +kernel
theorem dX10_ways_10 : decode cX10_ways 10 = .ok (.aload_n 0, 1) := by decide +kernel
theorem dX10_ways_11 : decode cX10_ways 11 = .ok (.invokevirtual 159, 3) := by decide +kernel
theorem dX10_ways_14 : decode cX10_ways 14 = .ok (.aload_n 0, 1) := by decide +kernel
theorem dX10_ways_15 : decode cX10_ways 15 = .ok (.getfield 150, 3) := by decide +kernel
theorem dX10_ways_18 : decode cX10_ways 18 = .ok (.ifCond .ne 7, 3) := by decide +kernel
theorem dX10_ways_21 : decode cX10_ways 21 = .ok (.iconst 1, 1) := by decide +kernel
theorem dX10_ways_22 : decode cX10_ways 22 = .ok (.goto 15, 3) := by decide +kernel
theorem dX10_ways_25 : decode cX10_ways 25 = .ok (.aload_n 0, 1) := by decide +kernel
theorem dX10_ways_26 : decode cX10_ways 26 = .ok (.getfield 57, 3) := by decide +kernel
theorem dX10_ways_29 : decode cX10_ways 29 = .ok (.bipush 17, 2) := by decide +kernel
theorem dX10_ways_31 : decode cX10_ways 31 = .ok (.iload_n 1, 1) := by decide +kernel
theorem dX10_ways_32 : decode cX10_ways 32 = .ok (.imul, 1) := by decide +kernel
theorem dX10_ways_33 : decode cX10_ways 33 = .ok (.bipush 16, 2) := by decide +kernel
theorem dX10_ways_35 : decode cX10_ways 35 = .ok (.iadd, 1) := by decide +kernel
theorem dX10_ways_36 : decode cX10_ways 36 = .ok (.iaload, 1) := by decide +kernel
theorem dX10_ways_37 : decode cX10_ways 37 = .ok (.ireturn, 1) := by decide +kernel
theorem dX10_only_0 : decode cX10_only 0 = .ok (.iload_n 1, 1) := by decide +kernel
theorem dX10_only_1 : decode cX10_only 1 = .ok (.invokestatic 101, 3) := by decide +kernel
theorem dX10_only_4 : decode cX10_only 4 = .ok (.ifCond .ne 6, 3) := by decide +kernel
theorem dX10_only_7 : decode cX10_only 7 = .ok (.bipush (-2), 2) := by decide +kernel
theorem dX10_only_9 : decode cX10_only 9 = .ok (.ireturn, 1) := by decide +kernel
theorem dX10_only_10 : decode cX10_only 10 = .ok (.iload_n 2, 1) := by decide +kernel
theorem dX10_only_11 : decode cX10_only 11 = .ok (.ifCond .ge 6, 3) := by decide +kernel
theorem dX10_only_14 : decode cX10_only 14 = .ok (.bipush (-3), 2) := by decide +kernel
theorem dX10_only_16 : decode cX10_only 16 = .ok (.ireturn, 1) := by decide +kernel
theorem dX10_only_17 : decode cX10_only 17 = .ok (.aload_n 0, 1) := by decide +kernel
theorem dX10_only_18 : decode cX10_only 18 = .ok (.invokevirtual 159, 3) := by decide +kernel
theorem dX10_only_21 : decode cX10_only 21 = .ok (.iload_n 2, 1) := by decide +kernel
theorem dX10_only_22 : decode cX10_only 22 = .ok (.aload_n 0, 1) := by decide +kernel
theorem dX10_only_23 : decode cX10_only 23 = .ok (.getfield 150, 3) := by decide +kernel
theorem dX10_only_26 : decode cX10_only 26 = .ok (.if_icmp .ge 19, 3) := by decide +kernel
theorem dX10_only_29 : decode cX10_only 29 = .ok (.aload_n 0, 1) := by decide +kernel
theorem dX10_only_30 : decode cX10_only 30 = .ok (.getfield 57, 3) := by decide +kernel
theorem dX10_only_33 : decode cX10_only 33 = .ok (.bipush 17, 2) := by decide +kernel
theorem dX10_only_35 : decode cX10_only 35 = .ok (.iload_n 1, 1) := by decide +kernel
theorem dX10_only_36 : decode cX10_only 36 = .ok (.imul, 1) := by decide +kernel
theorem dX10_only_37 : decode cX10_only 37 = .ok (.bipush 16, 2) := by decide +kernel
theorem dX10_only_39 : decode cX10_only 39 = .ok (.iadd, 1) := by decide +kernel
theorem dX10_only_40 : decode cX10_only 40 = .ok (.iaload, 1) := by decide +kernel
theorem dX10_only_41 : decode cX10_only 41 = .ok (.iconst 1, 1) := by decide +kernel
theorem dX10_only_42 : decode cX10_only 42 = .ok (.if_icmp .eq 5, 3) := by decide +kernel
theorem dX10_only_45 : decode cX10_only 45 = .ok (.iconst (-1), 1) := by decide +kernel
theorem dX10_only_46 : decode cX10_only 46 = .ok (.ireturn, 1) := by decide +kernel
theorem dX10_only_47 : decode cX10_only 47 = .ok (.iload_n 1, 1) := by decide +kernel
theorem dX10_only_48 : decode cX10_only 48 = .ok (.istore_n 3, 1) := by decide +kernel
theorem dX10_only_49 : decode cX10_only 49 = .ok (.iconst (-1), 1) := by decide +kernel
theorem dX10_only_50 : decode cX10_only 50 = .ok (.istore 4, 2) := by decide +kernel
theorem dX10_only_52 : decode cX10_only 52 = .ok (.iconst 0, 1) := by decide +kernel
theorem dX10_only_53 : decode cX10_only 53 = .ok (.istore 5, 2) := by decide +kernel
theorem dX10_only_55 : decode cX10_only 55 = .ok (.iload 5, 2) := by decide +kernel
theorem dX10_only_57 : decode cX10_only 57 = .ok (.iload_n 2, 1) := by decide +kernel
theorem dX10_only_58 : decode cX10_only 58 = .ok (.if_icmp .ge 105, 3) := by decide +kernel
theorem dX10_only_61 : decode cX10_only 61 = .ok (.iconst (-1), 1) := by decide +kernel
theorem dX10_only_62 : decode cX10_only 62 = .ok (.istore 6, 2) := by decide +kernel
theorem dX10_only_64 : decode cX10_only 64 = .ok (.iconst 0, 1) := by decide +kernel
theorem dX10_only_65 : decode cX10_only 65 = .ok (.istore 7, 2) := by decide +kernel
theorem dX10_only_67 : decode cX10_only 67 = .ok (.iload 7, 2) := by decide +kernel
theorem dX10_only_69 : decode cX10_only 69 = .ok (.aload_n 0, 1) := by decide +kernel
theorem dX10_only_70 : decode cX10_only 70 = .ok (.getfield 94, 3) := by decide +kernel
theorem dX10_only_73 : decode cX10_only 73 = .ok (.if_icmp .ge 72, 3) := by decide +kernel
theorem dX10_only_76 : decode cX10_only 76 = .ok (.aload_n 0, 1) := by decide +kernel
theorem dX10_only_77 : decode cX10_only 77 = .ok (.iload_n 3, 1) := by decide +kernel
theorem dX10_only_78 : decode cX10_only 78 = .ok (.iload 4, 2) := by decide +kernel
theorem dX10_only_80 : decode cX10_only 80 = .ok (.iload 7, 2) := by decide +kernel
theorem dX10_only_82 : decode cX10_only 82 = .ok (.invokevirtual 156, 3) := by decide +kernel
theorem dX10_only_85 : decode cX10_only 85 = .ok (.ifCond .eq 37, 3) := by decide +kernel
theorem dX10_only_88 : decode cX10_only 88 = .ok (.aload_n 0, 1) := by decide +kernel
theorem dX10_only_89 : decode cX10_only 89 = .ok (.getfield 57, 3) := by decide +kernel
theorem dX10_only_92 : decode cX10_only 92 = .ok (.sipush 170, 3) := by decide +kernel
theorem dX10_only_95 : decode cX10_only 95 = .ok (.iload 5, 2) := by decide +kernel
theorem dX10_only_97 : decode cX10_only 97 = .ok (.iconst 1, 1) := by decide +kernel
theorem dX10_only_98 : decode cX10_only 98 = .ok (.iadd, 1) := by decide +kernel
theorem dX10_only_99 : decode cX10_only 99 = .ok (.imul, 1) := by decide +kernel
theorem dX10_only_100 : decode cX10_only 100 = .ok (.bipush 17, 2) := by decide +kernel
theorem dX10_only_102 : decode cX10_only 102 = .ok (.aload_n 0, 1) := by decide +kernel
theorem dX10_only_103 : decode cX10_only 103 = .ok (.iload 7, 2) := by decide +kernel
theorem dX10_only_105 : decode cX10_only 105 = .ok (.iload_n 3, 1) := by decide +kernel
theorem dX10_only_106 : decode cX10_only 106 = .ok (.invokevirtual 143, 3) := by decide +kernel
theorem dX10_only_109 : decode cX10_only 109 = .ok (.imul, 1) := by decide +kernel
theorem dX10_only_110 : decode cX10_only 110 = .ok (.iadd, 1) := by decide +kernel
theorem dX10_only_111 : decode cX10_only 111 = .ok (.iload 7, 2) := by decide +kernel
theorem dX10_only_113 : decode cX10_only 113 = .ok (.iadd, 1) := by decide +kernel
theorem dX10_only_114 : decode cX10_only 114 = .ok (.iaload, 1) := by decide +kernel
theorem dX10_only_115 : decode cX10_only 115 = .ok (.ifCond .le 7, 3) := by decide +kernel
theorem dX10_only_118 : decode cX10_only 118 = .ok (.iconst 1, 1) := by decide +kernel
theorem dX10_only_119 : decode cX10_only 119 = .ok (.goto 4, 3) := by decide +kernel
theorem dX10_only_122 : decode cX10_only 122 = .ok (.iconst 0, 1) := by decide +kernel
theorem dX10_only_123 : decode cX10_only 123 = .ok (.istore 8, 2) := by decide +kernel
theorem dX10_only_125 : decode cX10_only 125 = .ok (.iload 8, 2) := by decide +kernel
theorem dX10_only_127 : decode cX10_only 127 = .ok (.ifCond .eq 8, 3) := by decide +kernel
theorem dX10_only_130 : decode cX10_only 130 = .ok (.iload 7, 2) := by decide +kernel
theorem dX10_only_132 : decode cX10_only 132 = .ok (.goto 5, 3) := by decide +kernel
theorem dX10_only_135 : decode cX10_only 135 = .ok (.iload 6, 2) := by decide +kernel
theorem dX10_only_137 : decode cX10_only 137 = .ok (.istore 6, 2) := by decide +kernel
theorem dX10_only_139 : decode cX10_only 139 = .ok (.iinc 7 1, 3) := by decide +kernel
theorem dX10_only_142 : decode cX10_only 142 = .ok (.goto (-75), 3) := by decide +kernel
theorem dX10_only_145 : decode cX10_only 145 = .ok (.aload_n 0, 1) := by decide +kernel
theorem dX10_only_146 : decode cX10_only 146 = .ok (.iload 6, 2) := by decide +kernel
theorem dX10_only_148 : decode cX10_only 148 = .ok (.iload_n 3, 1) := by decide +kernel
theorem dX10_only_149 : decode cX10_only 149 = .ok (.invokevirtual 143, 3) := by decide +kernel
theorem dX10_only_152 : decode cX10_only 152 = .ok (.istore_n 3, 1) := by decide +kernel
theorem dX10_only_153 : decode cX10_only 153 = .ok (.iload 6, 2) := by decide +kernel
theorem dX10_only_155 : decode cX10_only 155 = .ok (.istore 4, 2) := by decide +kernel
theorem dX10_only_157 : decode cX10_only 157 = .ok (.iinc 5 1, 3) := by decide +kernel
theorem dX10_only_160 : decode cX10_only 160 = .ok (.goto (-105), 3) := by decide +kernel
theorem dX10_only_163 : decode cX10_only 163 = .ok (.iload_n 3, 1) := by decide +kernel
theorem dX10_only_164 : decode cX10_only 164 = .ok (.ireturn, 1) := by decide +kernel
theorem dX10_route_0 : decode cX10_route 0 = .ok (.iload_n 1, 1) := by decide +kernel
theorem dX10_route_1 : decode cX10_route 1 = .ok (.invokestatic 101, 3) := by decide +kernel
theorem dX10_route_4 : decode cX10_route 4 = .ok (.ifCond .ne 6, 3) := by decide +kernel
theorem dX10_route_7 : decode cX10_route 7 = .ok (.bipush (-2), 2) := by decide +kernel
theorem dX10_route_9 : decode cX10_route 9 = .ok (.ireturn, 1) := by decide +kernel
theorem dX10_route_10 : decode cX10_route 10 = .ok (.iconst 0, 1) := by decide +kernel
theorem dX10_route_11 : decode cX10_route 11 = .ok (.istore_n 2, 1) := by decide +kernel
theorem dX10_route_12 : decode cX10_route 12 = .ok (.iload_n 2, 1) := by decide +kernel
theorem dX10_route_13 : decode cX10_route 13 = .ok (.aload_n 0, 1) := by decide +kernel
theorem dX10_route_14 : decode cX10_route 14 = .ok (.getfield 162, 3) := by decide +kernel
theorem dX10_route_17 : decode cX10_route 17 = .ok (.if_icmp .ge 22, 3) := by decide +kernel
theorem dX10_route_20 : decode cX10_route 20 = .ok (.aload_n 0, 1) := by decide +kernel
theorem dX10_route_21 : decode cX10_route 21 = .ok (.getfield 60, 3) := by decide +kernel
theorem dX10_route_24 : decode cX10_route 24 = .ok (.iload_n 2, 1) := by decide +kernel
theorem dX10_route_25 : decode cX10_route 25 = .ok (.iaload, 1) := by decide +kernel
theorem dX10_route_26 : decode cX10_route 26 = .ok (.iload_n 1, 1) := by decide +kernel
theorem dX10_route_27 : decode cX10_route 27 = .ok (.if_icmp .ne 6, 3) := by decide +kernel
theorem dX10_route_30 : decode cX10_route 30 = .ok (.bipush (-4), 2) := by decide +kernel
theorem dX10_route_32 : decode cX10_route 32 = .ok (.ireturn, 1) := by decide +kernel
theorem dX10_route_33 : decode cX10_route 33 = .ok (.iinc 2 1, 3) := by decide +kernel
