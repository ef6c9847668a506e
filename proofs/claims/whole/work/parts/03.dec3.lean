theorem dX3_waysOn_0 : decode cX3_waysOn 0 = .ok (.aload_n 0, 1) := by decide +kernel
theorem dX3_waysOn_1 : decode cX3_waysOn 1 = .ok (.getfield 16, 3) := by decide +kernel
theorem dX3_waysOn_4 : decode cX3_waysOn 4 = .ok (.iload_n 1, 1) := by decide +kernel
theorem dX3_waysOn_5 : decode cX3_waysOn 5 = .ok (.invokevirtual 65, 3) := by decide +kernel
theorem dX3_waysOn_8 : decode cX3_waysOn 8 = .ok (.istore 4, 2) := by decide +kernel
theorem dX3_waysOn_10 : decode cX3_waysOn 10 = .ok (.iload 4, 2) := by decide +kernel
theorem dX3_waysOn_12 : decode cX3_waysOn 12 = .ok (.iconst (-1), 1) := by decide +kernel
theorem dX3_waysOn_13 : decode cX3_waysOn 13 = .ok (.if_icmp .eq 19, 3) := by decide +kernel
theorem dX3_waysOn_16 : decode cX3_waysOn 16 = .ok (.iload 4, 2) := by decide +kernel
theorem dX3_waysOn_18 : decode cX3_waysOn 18 = .ok (.aload_n 0, 1) := by decide +kernel
theorem dX3_waysOn_19 : decode cX3_waysOn 19 = .ok (.getfield 33, 3) := by decide +kernel
theorem dX3_waysOn_22 : decode cX3_waysOn 22 = .ok (.iload_n 2, 1) := by decide +kernel
theorem dX3_waysOn_23 : decode cX3_waysOn 23 = .ok (.iload_n 3, 1) := by decide +kernel
theorem dX3_waysOn_24 : decode cX3_waysOn 24 = .ok (.invokevirtual 68, 3) := by decide +kernel
theorem dX3_waysOn_27 : decode cX3_waysOn 27 = .ok (.if_icmp .eq 5, 3) := by decide +kernel
theorem dX3_waysOn_30 : decode cX3_waysOn 30 = .ok (.iconst 0, 1) := by decide +kernel
theorem dX3_waysOn_31 : decode cX3_waysOn 31 = .ok (.ireturn, 1) := by decide +kernel
theorem dX3_waysOn_32 : decode cX3_waysOn 32 = .ok (.iload_n 1, 1) := by decide +kernel
theorem dX3_waysOn_33 : decode cX3_waysOn 33 = .ok (.aload_n 0, 1) := by decide +kernel
theorem dX3_waysOn_34 : decode cX3_waysOn 34 = .ok (.invokevirtual 48, 3) := by decide +kernel
theorem dX3_waysOn_37 : decode cX3_waysOn 37 = .ok (.iconst 1, 1) := by decide +kernel
theorem dX3_waysOn_38 : decode cX3_waysOn 38 = .ok (.isub, 1) := by decide +kernel
theorem dX3_waysOn_39 : decode cX3_waysOn 39 = .ok (.if_icmp .ne 5, 3) := by decide +kernel
theorem dX3_waysOn_42 : decode cX3_waysOn 42 = .ok (.iconst 1, 1) := by decide +kernel
theorem dX3_waysOn_43 : decode cX3_waysOn 43 = .ok (.ireturn, 1) := by decide +kernel
theorem dX3_waysOn_44 : decode cX3_waysOn 44 = .ok (.aload_n 0, 1) := by decide +kernel
theorem dX3_waysOn_45 : decode cX3_waysOn 45 = .ok (.iload_n 2, 1) := by decide +kernel
theorem dX3_waysOn_46 : decode cX3_waysOn 46 = .ok (.iload_n 3, 1) := by decide +kernel
theorem dX3_waysOn_47 : decode cX3_waysOn 47 = .ok (.invokevirtual 74, 3) := by decide +kernel
theorem dX3_waysOn_50 : decode cX3_waysOn 50 = .ok (.istore 5, 2) := by decide +kernel
theorem dX3_waysOn_52 : decode cX3_waysOn 52 = .ok (.iconst 0, 1) := by decide +kernel
theorem dX3_waysOn_53 : decode cX3_waysOn 53 = .ok (.istore 6, 2) := by decide +kernel
theorem dX3_waysOn_55 : decode cX3_waysOn 55 = .ok (.iconst 0, 1) := by decide +kernel
theorem dX3_waysOn_56 : decode cX3_waysOn 56 = .ok (.istore 7, 2) := by decide +kernel
theorem dX3_waysOn_58 : decode cX3_waysOn 58 = .ok (.iload 7, 2) := by decide +kernel
theorem dX3_waysOn_60 : decode cX3_waysOn 60 = .ok (.aload_n 0, 1) := by decide +kernel
theorem dX3_waysOn_61 : decode cX3_waysOn 61 = .ok (.getfield 29, 3) := by decide +kernel
theorem dX3_waysOn_64 : decode cX3_waysOn 64 = .ok (.invokevirtual 51, 3) := by decide +kernel
theorem dX3_waysOn_67 : decode cX3_waysOn 67 = .ok (.if_icmp .ge 35, 3) := by decide +kernel
theorem dX3_waysOn_70 : decode cX3_waysOn 70 = .ok (.iload 5, 2) := by decide +kernel
theorem dX3_waysOn_72 : decode cX3_waysOn 72 = .ok (.iload 7, 2) := by decide +kernel
theorem dX3_waysOn_74 : decode cX3_waysOn 74 = .ok (.invokestatic 77, 3) := by decide +kernel
theorem dX3_waysOn_77 : decode cX3_waysOn 77 = .ok (.iand, 1) := by decide +kernel
theorem dX3_waysOn_78 : decode cX3_waysOn 78 = .ok (.ifCond .eq 18, 3) := by decide +kernel
theorem dX3_waysOn_81 : decode cX3_waysOn 81 = .ok (.iload 6, 2) := by decide +kernel
theorem dX3_waysOn_83 : decode cX3_waysOn 83 = .ok (.aload_n 0, 1) := by decide +kernel
theorem dX3_waysOn_84 : decode cX3_waysOn 84 = .ok (.iload_n 1, 1) := by decide +kernel
theorem dX3_waysOn_85 : decode cX3_waysOn 85 = .ok (.iconst 1, 1) := by decide +kernel
theorem dX3_waysOn_86 : decode cX3_waysOn 86 = .ok (.iadd, 1) := by decide +kernel
theorem dX3_waysOn_87 : decode cX3_waysOn 87 = .ok (.iload_n 2, 1) := by decide +kernel
theorem dX3_waysOn_88 : decode cX3_waysOn 88 = .ok (.iload 7, 2) := by decide +kernel
theorem dX3_waysOn_90 : decode cX3_waysOn 90 = .ok (.invokevirtual 80, 3) := by decide +kernel
theorem dX3_waysOn_93 : decode cX3_waysOn 93 = .ok (.iadd, 1) := by decide +kernel
theorem dX3_waysOn_94 : decode cX3_waysOn 94 = .ok (.istore 6, 2) := by decide +kernel
theorem dX3_waysOn_96 : decode cX3_waysOn 96 = .ok (.iinc 7 1, 3) := by decide +kernel
theorem dX3_waysOn_99 : decode cX3_waysOn 99 = .ok (.goto (-41), 3) := by decide +kernel
theorem dX3_waysOn_102 : decode cX3_waysOn 102 = .ok (.iload 6, 2) := by decide +kernel
theorem dX3_waysOn_104 : decode cX3_waysOn 104 = .ok (.ireturn, 1) := by decide +kernel
theorem dX3_exitsFrom_0 : decode cX3_exitsFrom 0 = .ok (.aload_n 0, 1) := by decide +kernel
theorem dX3_exitsFrom_1 : decode cX3_exitsFrom 1 = .ok (.getfield 29, 3) := by decide +kernel
theorem dX3_exitsFrom_4 : decode cX3_exitsFrom 4 = .ok (.iload_n 1, 1) := by decide +kernel
theorem dX3_exitsFrom_5 : decode cX3_exitsFrom 5 = .ok (.invokevirtual 83, 3) := by decide +kernel
theorem dX3_exitsFrom_8 : decode cX3_exitsFrom 8 = .ok (.iload_n 2, 1) := by decide +kernel
theorem dX3_exitsFrom_9 : decode cX3_exitsFrom 9 = .ok (.invokestatic 77, 3) := by decide +kernel
theorem dX3_exitsFrom_12 : decode cX3_exitsFrom 12 = .ok (.iconst (-1), 1) := by decide +kernel
theorem dX3_exitsFrom_13 : decode cX3_exitsFrom 13 = .ok (.ixor, 1) := by decide +kernel
theorem dX3_exitsFrom_14 : decode cX3_exitsFrom 14 = .ok (.iand, 1) := by decide +kernel
theorem dX3_exitsFrom_15 : decode cX3_exitsFrom 15 = .ok (.istore_n 3, 1) := by decide +kernel
theorem dX3_exitsFrom_16 : decode cX3_exitsFrom 16 = .ok (.iload_n 3, 1) := by decide +kernel
theorem dX3_exitsFrom_17 : decode cX3_exitsFrom 17 = .ok (.ifCond .ne 14, 3) := by decide +kernel
theorem dX3_exitsFrom_20 : decode cX3_exitsFrom 20 = .ok (.aload_n 0, 1) := by decide +kernel
theorem dX3_exitsFrom_21 : decode cX3_exitsFrom 21 = .ok (.getfield 29, 3) := by decide +kernel
theorem dX3_exitsFrom_24 : decode cX3_exitsFrom 24 = .ok (.iload_n 1, 1) := by decide +kernel
theorem dX3_exitsFrom_25 : decode cX3_exitsFrom 25 = .ok (.invokevirtual 83, 3) := by decide +kernel
theorem dX3_exitsFrom_28 : decode cX3_exitsFrom 28 = .ok (.goto 4, 3) := by decide +kernel
theorem dX3_exitsFrom_31 : decode cX3_exitsFrom 31 = .ok (.iload_n 3, 1) := by decide +kernel
theorem dX3_exitsFrom_32 : decode cX3_exitsFrom 32 = .ok (.ireturn, 1) := by decide +kernel
theorem dX3_waysBehind_0 : decode cX3_waysBehind 0 = .ok (.aload_n 0, 1) := by decide +kernel
theorem dX3_waysBehind_1 : decode cX3_waysBehind 1 = .ok (.getfield 26, 3) := by decide +kernel
theorem dX3_waysBehind_4 : decode cX3_waysBehind 4 = .ok (.iload_n 1, 1) := by decide +kernel
theorem dX3_waysBehind_5 : decode cX3_waysBehind 5 = .ok (.bipush 32, 2) := by decide +kernel
theorem dX3_waysBehind_7 : decode cX3_waysBehind 7 = .ok (.imul, 1) := by decide +kernel
theorem dX3_waysBehind_8 : decode cX3_waysBehind 8 = .ok (.aload_n 0, 1) := by decide +kernel
theorem dX3_waysBehind_9 : decode cX3_waysBehind 9 = .ok (.getfield 29, 3) := by decide +kernel
theorem dX3_waysBehind_12 : decode cX3_waysBehind 12 = .ok (.iload_n 2, 1) := by decide +kernel
theorem dX3_waysBehind_13 : decode cX3_waysBehind 13 = .ok (.iload_n 3, 1) := by decide +kernel
theorem dX3_waysBehind_14 : decode cX3_waysBehind 14 = .ok (.invokevirtual 86, 3) := by decide +kernel
theorem dX3_waysBehind_17 : decode cX3_waysBehind 17 = .ok (.iadd, 1) := by decide +kernel
theorem dX3_waysBehind_18 : decode cX3_waysBehind 18 = .ok (.invokevirtual 65, 3) := by decide +kernel
theorem dX3_waysBehind_21 : decode cX3_waysBehind 21 = .ok (.ireturn, 1) := by decide +kernel
theorem dX3_placeOnTheWay_0 : decode cX3_placeOnTheWay 0 = .ok (.iload_n 2, 1) := by decide +kernel
theorem dX3_placeOnTheWay_1 : decode cX3_placeOnTheWay 1 = .ok (.ifCond .lt 11, 3) := by decide +kernel
theorem dX3_placeOnTheWay_4 : decode cX3_placeOnTheWay 4 = .ok (.iload_n 2, 1) := by decide +kernel
theorem dX3_placeOnTheWay_5 : decode cX3_placeOnTheWay 5 = .ok (.aload_n 0, 1) := by decide +kernel
theorem dX3_placeOnTheWay_6 : decode cX3_placeOnTheWay 6 = .ok (.invokevirtual 48, 3) := by decide +kernel
theorem dX3_placeOnTheWay_9 : decode cX3_placeOnTheWay 9 = .ok (.if_icmp .lt 5, 3) := by decide +kernel
theorem dX3_placeOnTheWay_12 : decode cX3_placeOnTheWay 12 = .ok (.iconst (-1), 1) := by decide +kernel
theorem dX3_placeOnTheWay_13 : decode cX3_placeOnTheWay 13 = .ok (.ireturn, 1) := by decide +kernel
theorem dX3_placeOnTheWay_14 : decode cX3_placeOnTheWay 14 = .ok (.iload_n 1, 1) := by decide +kernel
theorem dX3_placeOnTheWay_15 : decode cX3_placeOnTheWay 15 = .ok (.istore_n 3, 1) := by decide +kernel
theorem dX3_placeOnTheWay_16 : decode cX3_placeOnTheWay 16 = .ok (.iconst (-1), 1) := by decide +kernel
theorem dX3_placeOnTheWay_17 : decode cX3_placeOnTheWay 17 = .ok (.istore 4, 2) := by decide +kernel
theorem dX3_placeOnTheWay_19 : decode cX3_placeOnTheWay 19 = .ok (.iconst 1, 1) := by decide +kernel
theorem dX3_placeOnTheWay_20 : decode cX3_placeOnTheWay 20 = .ok (.istore 5, 2) := by decide +kernel
theorem dX3_placeOnTheWay_22 : decode cX3_placeOnTheWay 22 = .ok (.iload 5, 2) := by decide +kernel
theorem dX3_placeOnTheWay_24 : decode cX3_placeOnTheWay 24 = .ok (.iload_n 2, 1) := by decide +kernel
theorem dX3_placeOnTheWay_25 : decode cX3_placeOnTheWay 25 = .ok (.if_icmp .gt 39, 3) := by decide +kernel
theorem dX3_placeOnTheWay_28 : decode cX3_placeOnTheWay 28 = .ok (.aload_n 0, 1) := by decide +kernel
theorem dX3_placeOnTheWay_29 : decode cX3_placeOnTheWay 29 = .ok (.iload 5, 2) := by decide +kernel
theorem dX3_placeOnTheWay_31 : decode cX3_placeOnTheWay 31 = .ok (.iload_n 3, 1) := by decide +kernel
theorem dX3_placeOnTheWay_32 : decode cX3_placeOnTheWay 32 = .ok (.iload 4, 2) := by decide +kernel
theorem dX3_placeOnTheWay_34 : decode cX3_placeOnTheWay 34 = .ok (.invokevirtual 89, 3) := by decide +kernel
theorem dX3_placeOnTheWay_37 : decode cX3_placeOnTheWay 37 = .ok (.istore 4, 2) := by decide +kernel
theorem dX3_placeOnTheWay_39 : decode cX3_placeOnTheWay 39 = .ok (.iload 4, 2) := by decide +kernel
theorem dX3_placeOnTheWay_41 : decode cX3_placeOnTheWay 41 = .ok (.iconst (-1), 1) := by decide +kernel
theorem dX3_placeOnTheWay_42 : decode cX3_placeOnTheWay 42 = .ok (.if_icmp .ne 5, 3) := by decide +kernel
theorem dX3_placeOnTheWay_45 : decode cX3_placeOnTheWay 45 = .ok (.iconst (-1), 1) := by decide +kernel
theorem dX3_placeOnTheWay_46 : decode cX3_placeOnTheWay 46 = .ok (.ireturn, 1) := by decide +kernel
theorem dX3_placeOnTheWay_47 : decode cX3_placeOnTheWay 47 = .ok (.aload_n 0, 1) := by decide +kernel
theorem dX3_placeOnTheWay_48 : decode cX3_placeOnTheWay 48 = .ok (.getfield 29, 3) := by decide +kernel
theorem dX3_placeOnTheWay_51 : decode cX3_placeOnTheWay 51 = .ok (.iload_n 3, 1) := by decide +kernel
theorem dX3_placeOnTheWay_52 : decode cX3_placeOnTheWay 52 = .ok (.iload 4, 2) := by decide +kernel
theorem dX3_placeOnTheWay_54 : decode cX3_placeOnTheWay 54 = .ok (.invokevirtual 92, 3) := by decide +kernel
theorem dX3_placeOnTheWay_57 : decode cX3_placeOnTheWay 57 = .ok (.istore_n 3, 1) := by decide +kernel
theorem dX3_placeOnTheWay_58 : decode cX3_placeOnTheWay 58 = .ok (.iinc 5 1, 3) := by decide +kernel
theorem dX3_placeOnTheWay_61 : decode cX3_placeOnTheWay 61 = .ok (.goto (-39), 3) := by decide +kernel
theorem dX3_placeOnTheWay_64 : decode cX3_placeOnTheWay 64 = .ok (.iload_n 3, 1) := by decide +kernel
theorem dX3_placeOnTheWay_65 : decode cX3_placeOnTheWay 65 = .ok (.ireturn, 1) := by decide +kernel
theorem dX3_pathOn_0 : decode cX3_pathOn 0 = .ok (.aload_n 0, 1) := by decide +kernel
theorem dX3_pathOn_1 : decode cX3_pathOn 1 = .ok (.iload_n 2, 1) := by decide +kernel
theorem dX3_pathOn_2 : decode cX3_pathOn 2 = .ok (.iload_n 3, 1) := by decide +kernel
theorem dX3_pathOn_3 : decode cX3_pathOn 3 = .ok (.invokevirtual 74, 3) := by decide +kernel
theorem dX3_pathOn_6 : decode cX3_pathOn 6 = .ok (.istore 4, 2) := by decide +kernel
theorem dX3_pathOn_8 : decode cX3_pathOn 8 = .ok (.iconst 0, 1) := by decide +kernel
theorem dX3_pathOn_9 : decode cX3_pathOn 9 = .ok (.istore 5, 2) := by decide +kernel
theorem dX3_pathOn_11 : decode cX3_pathOn 11 = .ok (.iload 5, 2) := by decide +kernel
theorem dX3_pathOn_13 : decode cX3_pathOn 13 = .ok (.aload_n 0, 1) := by decide +kernel
theorem dX3_pathOn_14 : decode cX3_pathOn 14 = .ok (.getfield 29, 3) := by decide +kernel
theorem dX3_pathOn_17 : decode cX3_pathOn 17 = .ok (.invokevirtual 51, 3) := by decide +kernel
theorem dX3_pathOn_20 : decode cX3_pathOn 20 = .ok (.if_icmp .ge 34, 3) := by decide +kernel
theorem dX3_pathOn_23 : decode cX3_pathOn 23 = .ok (.iload 4, 2) := by decide +kernel
theorem dX3_pathOn_25 : decode cX3_pathOn 25 = .ok (.iload 5, 2) := by decide +kernel
theorem dX3_pathOn_27 : decode cX3_pathOn 27 = .ok (.invokestatic 77, 3) := by decide +kernel
theorem dX3_pathOn_30 : decode cX3_pathOn 30 = .ok (.iand, 1) := by decide +kernel
theorem dX3_pathOn_31 : decode cX3_pathOn 31 = .ok (.ifCond .eq 17, 3) := by decide +kernel
theorem dX3_pathOn_34 : decode cX3_pathOn 34 = .ok (.aload_n 0, 1) := by decide +kernel
theorem dX3_pathOn_35 : decode cX3_pathOn 35 = .ok (.iload_n 1, 1) := by decide +kernel
theorem dX3_pathOn_36 : decode cX3_pathOn 36 = .ok (.iload_n 2, 1) := by decide +kernel
theorem dX3_pathOn_37 : decode cX3_pathOn 37 = .ok (.iload 5, 2) := by decide +kernel
theorem dX3_pathOn_39 : decode cX3_pathOn 39 = .ok (.invokevirtual 80, 3) := by decide +kernel
theorem dX3_pathOn_42 : decode cX3_pathOn 42 = .ok (.ifCond .le 6, 3) := by decide +kernel
theorem dX3_pathOn_45 : decode cX3_pathOn 45 = .ok (.iload 5, 2) := by decide +kernel
theorem dX3_pathOn_47 : decode cX3_pathOn 47 = .ok (.ireturn, 1) := by decide +kernel
theorem dX3_pathOn_48 : decode cX3_pathOn 48 = .ok (.iinc 5 1, 3) := by decide +kernel
theorem dX3_pathOn_51 : decode cX3_pathOn 51 = .ok (.goto (-40), 3) := by decide +kernel
theorem dX3_pathOn_54 : decode cX3_pathOn 54 = .ok (.iconst (-1), 1) := by decide +kernel
theorem dX3_pathOn_55 : decode cX3_pathOn 55 = .ok (.ireturn, 1) := by decide +kernel
theorem dX4_init_0 : decode cX4_init 0 = .ok (.aload_n 0, 1) := by decide +kernel
theorem dX4_init_1 : decode cX4_init 1 = .ok (.invokespecial 3, 3) := by decide +kernel
theorem dX4_init_4 : decode cX4_init 4 = .ok (.aload_n 0, 1) := by decide +kernel
theorem dX4_init_5 : decode cX4_init 5 = .ok (.new 9, 3) := by decide +kernel
theorem dX4_init_8 : decode cX4_init 8 = .ok (.dup, 1) := by decide +kernel
theorem dX4_init_9 : decode cX4_init 9 = .ok (.bipush 10, 2) := by decide +kernel
theorem dX4_init_11 : decode cX4_init 11 = .ok (.invokespecial 13, 3) := by decide +kernel
theorem dX4_init_14 : decode cX4_init 14 = .ok (.putfield 16, 3) := by decide +kernel
theorem dX4_init_17 : decode cX4_init 17 = .ok (.aload_n 0, 1) := by decide +kernel
theorem dX4_init_18 : decode cX4_init 18 = .ok (.iconst 0, 1) := by decide +kernel
theorem dX4_init_19 : decode cX4_init 19 = .ok (.putfield 20, 3) := by decide +kernel
theorem dX4_init_22 : decode cX4_init 22 = .ok (.aload_n 0, 1) := by decide +kernel
theorem dX4_init_23 : decode cX4_init 23 = .ok (.aload_n 1, 1) := by decide +kernel
theorem dX4_init_24 : decode cX4_init 24 = .ok (.putfield 24, 3) := by decide +kernel
theorem dX4_init_27 : decode cX4_init 27 = .ok (.aload_n 0, 1) := by decide +kernel
theorem dX4_init_28 : decode cX4_init 28 = .ok (.aload_n 2, 1) := by decide +kernel
theorem dX4_init_29 : decode cX4_init 29 = .ok (.putfield 28, 3) := by decide +kernel
theorem dX4_init_32 : decode cX4_init 32 = .ok (.return_, 1) := by decide +kernel
theorem dX4_placeCount_0 : decode cX4_placeCount 0 = .ok (.aload_n 0, 1) := by decide +kernel
theorem dX4_placeCount_1 : decode cX4_placeCount 1 = .ok (.getfield 16, 3) := by decide +kernel
theorem dX4_placeCount_4 : decode cX4_placeCount 4 = .ok (.invokevirtual 32, 3) := by decide +kernel
theorem dX4_placeCount_7 : decode cX4_placeCount 7 = .ok (.ireturn, 1) := by decide +kernel
theorem dX4_passes_0 : decode cX4_passes 0 = .ok (.aload_n 0, 1) := by decide +kernel
theorem dX4_passes_1 : decode cX4_passes 1 = .ok (.getfield 16, 3) := by decide +kernel
theorem dX4_passes_4 : decode cX4_passes 4 = .ok (.iload_n 1, 1) := by decide +kernel
theorem dX4_passes_5 : decode cX4_passes 5 = .ok (.invokevirtual 36, 3) := by decide +kernel
theorem dX4_passes_8 : decode cX4_passes 8 = .ok (.ireturn, 1) := by decide +kernel
theorem dX4_changeLeeway_0 : decode cX4_changeLeeway 0 = .ok (.aload_n 0, 1) := by decide +kernel
theorem dX4_changeLeeway_1 : decode cX4_changeLeeway 1 = .ok (.getfield 20, 3) := by decide +kernel
theorem dX4_changeLeeway_4 : decode cX4_changeLeeway 4 = .ok (.istore_n 2, 1) := by decide +kernel
theorem dX4_changeLeeway_5 : decode cX4_changeLeeway 5 = .ok (.aload_n 0, 1) := by decide +kernel
theorem dX4_changeLeeway_6 : decode cX4_changeLeeway 6 = .ok (.iload_n 1, 1) := by decide +kernel
theorem dX4_changeLeeway_7 : decode cX4_changeLeeway 7 = .ok (.putfield 20, 3) := by decide +kernel
theorem dX4_changeLeeway_10 : decode cX4_changeLeeway 10 = .ok (.iload_n 2, 1) := by decide +kernel
theorem dX4_changeLeeway_11 : decode cX4_changeLeeway 11 = .ok (.ireturn, 1) := by decide +kernel
theorem dX4_mayGoOnTo_0 : decode cX4_mayGoOnTo 0 = .ok (.aload_n 0, 1) := by decide +kernel
theorem dX4_mayGoOnTo_1 : decode cX4_mayGoOnTo 1 = .ok (.invokevirtual 40, 3) := by decide +kernel
theorem dX4_mayGoOnTo_4 : decode cX4_mayGoOnTo 4 = .ok (.ifCond .eq 36, 3) := by decide +kernel
theorem dX4_mayGoOnTo_7 : decode cX4_mayGoOnTo 7 = .ok (.aload_n 0, 1) := by decide +kernel
theorem dX4_mayGoOnTo_8 : decode cX4_mayGoOnTo 8 = .ok (.iload_n 1, 1) := by decide +kernel
theorem dX4_mayGoOnTo_9 : decode cX4_mayGoOnTo 9 = .ok (.invokevirtual 43, 3) := by decide +kernel
theorem dX4_mayGoOnTo_12 : decode cX4_mayGoOnTo 12 = .ok (.ifCond .ne 32, 3) := by decide +kernel
theorem dX4_mayGoOnTo_15 : decode cX4_mayGoOnTo 15 = .ok (.aload_n 0, 1) := by decide +kernel
theorem dX4_mayGoOnTo_16 : decode cX4_mayGoOnTo 16 = .ok (.getfield 24, 3) := by decide +kernel
theorem dX4_mayGoOnTo_19 : decode cX4_mayGoOnTo 19 = .ok (.aload_n 0, 1) := by decide +kernel
theorem dX4_mayGoOnTo_20 : decode cX4_mayGoOnTo 20 = .ok (.getfield 16, 3) := by decide +kernel
theorem dX4_mayGoOnTo_23 : decode cX4_mayGoOnTo 23 = .ok (.aload_n 0, 1) := by decide +kernel
theorem dX4_mayGoOnTo_24 : decode cX4_mayGoOnTo 24 = .ok (.invokevirtual 40, 3) := by decide +kernel
theorem dX4_mayGoOnTo_27 : decode cX4_mayGoOnTo 27 = .ok (.iconst 1, 1) := by decide +kernel
theorem dX4_mayGoOnTo_28 : decode cX4_mayGoOnTo 28 = .ok (.isub, 1) := by decide +kernel
theorem dX4_mayGoOnTo_29 : decode cX4_mayGoOnTo 29 = .ok (.invokevirtual 46, 3) := by decide +kernel
theorem dX4_mayGoOnTo_32 : decode cX4_mayGoOnTo 32 = .ok (.iload_n 1, 1) := by decide +kernel
theorem dX4_mayGoOnTo_33 : decode cX4_mayGoOnTo 33 = .ok (.invokevirtual 50, 3) := by decide +kernel
theorem dX4_mayGoOnTo_36 : decode cX4_mayGoOnTo 36 = .ok (.iconst (-1), 1) := by decide +kernel
theorem dX4_mayGoOnTo_37 : decode cX4_mayGoOnTo 37 = .ok (.if_icmp .eq 7, 3) := by decide +kernel
theorem dX4_mayGoOnTo_40 : decode cX4_mayGoOnTo 40 = .ok (.iconst 1, 1) := by decide +kernel
theorem dX4_mayGoOnTo_41 : decode cX4_mayGoOnTo 41 = .ok (.goto 4, 3) := by decide +kernel
theorem dX4_mayGoOnTo_44 : decode cX4_mayGoOnTo 44 = .ok (.iconst 0, 1) := by decide +kernel
theorem dX4_mayGoOnTo_45 : decode cX4_mayGoOnTo 45 = .ok (.ireturn, 1) := by decide +kernel
theorem dX4_goOnTo_0 : decode cX4_goOnTo 0 = .ok (.aload_n 0, 1) := by decide +kernel
theorem dX4_goOnTo_1 : decode cX4_goOnTo 1 = .ok (.getfield 16, 3) := by decide +kernel
theorem dX4_goOnTo_4 : decode cX4_goOnTo 4 = .ok (.iload_n 1, 1) := by decide +kernel
theorem dX4_goOnTo_5 : decode cX4_goOnTo 5 = .ok (.invokevirtual 56, 3) := by decide +kernel
theorem dX4_goOnTo_8 : decode cX4_goOnTo 8 = .ok (.ireturn, 1) := by decide +kernel
theorem dX4_dropAll_0 : decode cX4_dropAll 0 = .ok (.aload_n 0, 1) := by decide +kernel
theorem dX4_dropAll_1 : decode cX4_dropAll 1 = .ok (.getfield 16, 3) := by decide +kernel
theorem dX4_dropAll_4 : decode cX4_dropAll 4 = .ok (.invokevirtual 59, 3) := by decide +kernel
theorem dX4_dropAll_7 : decode cX4_dropAll 7 = .ok (.ireturn, 1) := by decide +kernel
theorem dX4_marksNeeded_0 : decode cX4_marksNeeded 0 = .ok (.iload_n 1, 1) := by decide +kernel
theorem dX4_marksNeeded_1 : decode cX4_marksNeeded 1 = .ok (.ifCond .ne 7, 3) := by decide +kernel
theorem dX4_marksNeeded_4 : decode cX4_marksNeeded 4 = .ok (.iconst 1, 1) := by decide +kernel
theorem dX4_marksNeeded_5 : decode cX4_marksNeeded 5 = .ok (.goto 4, 3) := by decide +kernel
theorem dX4_marksNeeded_8 : decode cX4_marksNeeded 8 = .ok (.iconst (-1), 1) := by decide +kernel
theorem dX4_marksNeeded_9 : decode cX4_marksNeeded 9 = .ok (.istore_n 2, 1) := by decide +kernel
theorem dX4_marksNeeded_10 : decode cX4_marksNeeded 10 = .ok (.iconst 0, 1) := by decide +kernel
theorem dX4_marksNeeded_11 : decode cX4_marksNeeded 11 = .ok (.istore_n 3, 1) := by decide +kernel
theorem dX4_marksNeeded_12 : decode cX4_marksNeeded 12 = .ok (.iconst 0, 1) := by decide +kernel
theorem dX4_marksNeeded_13 : decode cX4_marksNeeded 13 = .ok (.istore 4, 2) := by decide +kernel
theorem dX4_marksNeeded_15 : decode cX4_marksNeeded 15 = .ok (.iload 4, 2) := by decide +kernel
theorem dX4_marksNeeded_17 : decode cX4_marksNeeded 17 = .ok (.aload_n 0, 1) := by decide +kernel
theorem dX4_marksNeeded_18 : decode cX4_marksNeeded 18 = .ok (.invokevirtual 40, 3) := by decide +kernel
theorem dX4_marksNeeded_21 : decode cX4_marksNeeded 21 = .ok (.if_icmp .ge 106, 3) := by decide +kernel
theorem dX4_marksNeeded_24 : decode cX4_marksNeeded 24 = .ok (.aload_n 0, 1) := by decide +kernel
theorem dX4_marksNeeded_25 : decode cX4_marksNeeded 25 = .ok (.getfield 16, 3) := by decide +kernel
theorem dX4_marksNeeded_28 : decode cX4_marksNeeded 28 = .ok (.iload 4, 2) := by decide +kernel
theorem dX4_marksNeeded_30 : decode cX4_marksNeeded 30 = .ok (.invokevirtual 46, 3) := by decide +kernel
theorem dX4_marksNeeded_33 : decode cX4_marksNeeded 33 = .ok (.istore 5, 2) := by decide +kernel
theorem dX4_marksNeeded_35 : decode cX4_marksNeeded 35 = .ok (.aload_n 0, 1) := by decide +kernel
theorem dX4_marksNeeded_36 : decode cX4_marksNeeded 36 = .ok (.getfield 24, 3) := by decide +kernel
theorem dX4_marksNeeded_39 : decode cX4_marksNeeded 39 = .ok (.iload 5, 2) := by decide +kernel
theorem dX4_marksNeeded_41 : decode cX4_marksNeeded 41 = .ok (.aload_n 0, 1) := by decide +kernel
theorem dX4_marksNeeded_42 : decode cX4_marksNeeded 42 = .ok (.getfield 16, 3) := by decide +kernel
theorem dX4_marksNeeded_45 : decode cX4_marksNeeded 45 = .ok (.iload 4, 2) := by decide +kernel
theorem dX4_marksNeeded_47 : decode cX4_marksNeeded 47 = .ok (.iload_n 2, 1) := by decide +kernel
theorem dX4_marksNeeded_48 : decode cX4_marksNeeded 48 = .ok (.iadd, 1) := by decide +kernel
theorem dX4_marksNeeded_49 : decode cX4_marksNeeded 49 = .ok (.invokevirtual 46, 3) := by decide +kernel
theorem dX4_marksNeeded_52 : decode cX4_marksNeeded 52 = .ok (.invokevirtual 50, 3) := by decide +kernel
theorem dX4_marksNeeded_55 : decode cX4_marksNeeded 55 = .ok (.istore 6, 2) := by decide +kernel
theorem dX4_marksNeeded_57 : decode cX4_marksNeeded 57 = .ok (.aload_n 0, 1) := by decide +kernel
theorem dX4_marksNeeded_58 : decode cX4_marksNeeded 58 = .ok (.getfield 24, 3) := by decide +kernel
theorem dX4_marksNeeded_61 : decode cX4_marksNeeded 61 = .ok (.iload 5, 2) := by decide +kernel
theorem dX4_marksNeeded_63 : decode cX4_marksNeeded 63 = .ok (.aload_n 0, 1) := by decide +kernel
theorem dX4_marksNeeded_64 : decode cX4_marksNeeded 64 = .ok (.getfield 16, 3) := by decide +kernel
theorem dX4_marksNeeded_67 : decode cX4_marksNeeded 67 = .ok (.iload 4, 2) := by decide +kernel
theorem dX4_marksNeeded_69 : decode cX4_marksNeeded 69 = .ok (.iload_n 2, 1) := by decide +kernel
theorem dX4_marksNeeded_70 : decode cX4_marksNeeded 70 = .ok (.isub, 1) := by decide +kernel
theorem dX4_marksNeeded_71 : decode cX4_marksNeeded 71 = .ok (.invokevirtual 46, 3) := by decide +kernel
theorem dX4_marksNeeded_74 : decode cX4_marksNeeded 74 = .ok (.invokevirtual 50, 3) := by decide +kernel
theorem dX4_marksNeeded_77 : decode cX4_marksNeeded 77 = .ok (.istore 7, 2) := by decide +kernel
theorem dX4_marksNeeded_79 : decode cX4_marksNeeded 79 = .ok (.iload 6, 2) := by decide +kernel
theorem dX4_marksNeeded_81 : decode cX4_marksNeeded 81 = .ok (.iconst (-1), 1) := by decide +kernel
theorem dX4_marksNeeded_82 : decode cX4_marksNeeded 82 = .ok (.if_icmp .eq 39, 3) := by decide +kernel
theorem dX4_marksNeeded_85 : decode cX4_marksNeeded 85 = .ok (.aload_n 0, 1) := by decide +kernel
theorem dX4_marksNeeded_86 : decode cX4_marksNeeded 86 = .ok (.iload 5, 2) := by decide +kernel
theorem dX4_marksNeeded_88 : decode cX4_marksNeeded 88 = .ok (.iload 7, 2) := by decide +kernel
theorem dX4_marksNeeded_90 : decode cX4_marksNeeded 90 = .ok (.iload 6, 2) := by decide +kernel
theorem dX4_marksNeeded_92 : decode cX4_marksNeeded 92 = .ok (.invokevirtual 62, 3) := by decide +kernel
theorem dX4_marksNeeded_95 : decode cX4_marksNeeded 95 = .ok (.ifCond .eq 26, 3) := by decide +kernel
theorem dX4_marksNeeded_98 : decode cX4_marksNeeded 98 = .ok (.aload_n 0, 1) := by decide +kernel
theorem dX4_marksNeeded_99 : decode cX4_marksNeeded 99 = .ok (.getfield 28, 3) := by decide +kernel
theorem dX4_marksNeeded_102 : decode cX4_marksNeeded 102 = .ok (.iload 5, 2) := by decide +kernel
theorem dX4_marksNeeded_104 : decode cX4_marksNeeded 104 = .ok (.iload 7, 2) := by decide +kernel
theorem dX4_marksNeeded_106 : decode cX4_marksNeeded 106 = .ok (.invokevirtual 66, 3) := by decide +kernel
theorem dX4_marksNeeded_109 : decode cX4_marksNeeded 109 = .ok (.iload 6, 2) := by decide +kernel
theorem dX4_marksNeeded_111 : decode cX4_marksNeeded 111 = .ok (.if_icmp .eq 10, 3) := by decide +kernel
theorem dX4_marksNeeded_114 : decode cX4_marksNeeded 114 = .ok (.iload_n 3, 1) := by decide +kernel
theorem dX4_marksNeeded_115 : decode cX4_marksNeeded 115 = .ok (.iconst 1, 1) := by decide +kernel
theorem dX4_marksNeeded_116 : decode cX4_marksNeeded 116 = .ok (.iload 5, 2) := by decide +kernel
theorem dX4_marksNeeded_118 : decode cX4_marksNeeded 118 = .ok (.ishl, 1) := by decide +kernel
theorem dX4_marksNeeded_119 : decode cX4_marksNeeded 119 = .ok (.ior, 1) := by decide +kernel
theorem dX4_marksNeeded_120 : decode cX4_marksNeeded 120 = .ok (.istore_n 3, 1) := by decide +kernel
theorem dX4_marksNeeded_121 : decode cX4_marksNeeded 121 = .ok (.iinc 4 1, 3) := by decide +kernel
theorem dX4_marksNeeded_124 : decode cX4_marksNeeded 124 = .ok (.goto (-109), 3) := by decide +kernel
theorem dX4_marksNeeded_127 : decode cX4_marksNeeded 127 = .ok (.iload_n 3, 1) := by decide +kernel
theorem dX4_marksNeeded_128 : decode cX4_marksNeeded 128 = .ok (.ireturn, 1) := by decide +kernel
theorem dX4_mayGoBadlyWrong_0 : decode cX4_mayGoBadlyWrong 0 = .ok (.aload_n 0, 1) := by decide +kernel
theorem dX4_mayGoBadlyWrong_1 : decode cX4_mayGoBadlyWrong 1 = .ok (.getfield 24, 3) := by decide +kernel
theorem dX4_mayGoBadlyWrong_4 : decode cX4_mayGoBadlyWrong 4 = .ok (.iload_n 1, 1) := by decide +kernel
theorem dX4_mayGoBadlyWrong_5 : decode cX4_mayGoBadlyWrong 5 = .ok (.invokevirtual 71, 3) := by decide +kernel
theorem dX4_mayGoBadlyWrong_8 : decode cX4_mayGoBadlyWrong 8 = .ok (.iload_n 2, 1) := by decide +kernel
theorem dX4_mayGoBadlyWrong_9 : decode cX4_mayGoBadlyWrong 9 = .ok (.invokestatic 74, 3) := by decide +kernel
theorem dX4_mayGoBadlyWrong_12 : decode cX4_mayGoBadlyWrong 12 = .ok (.iconst (-1), 1) := by decide +kernel
theorem dX4_mayGoBadlyWrong_13 : decode cX4_mayGoBadlyWrong 13 = .ok (.ixor, 1) := by decide +kernel
theorem dX4_mayGoBadlyWrong_14 : decode cX4_mayGoBadlyWrong 14 = .ok (.iand, 1) := by decide +kernel
theorem dX4_mayGoBadlyWrong_15 : decode cX4_mayGoBadlyWrong 15 = .ok (.iload_n 3, 1) := by decide +kernel
theorem dX4_mayGoBadlyWrong_16 : decode cX4_mayGoBadlyWrong 16 = .ok (.invokestatic 74, 3) := by decide +kernel
theorem dX4_mayGoBadlyWrong_19 : decode cX4_mayGoBadlyWrong 19 = .ok (.iconst (-1), 1) := by decide +kernel
theorem dX4_mayGoBadlyWrong_20 : decode cX4_mayGoBadlyWrong 20 = .ok (.ixor, 1) := by decide +kernel
theorem dX4_mayGoBadlyWrong_21 : decode cX4_mayGoBadlyWrong 21 = .ok (.iand, 1) := by decide +kernel
theorem dX4_mayGoBadlyWrong_22 : decode cX4_mayGoBadlyWrong 22 = .ok (.istore 4, 2) := by decide +kernel
theorem dX4_mayGoBadlyWrong_24 : decode cX4_mayGoBadlyWrong 24 = .ok (.iconst 0, 1) := by decide +kernel
theorem dX4_mayGoBadlyWrong_25 : decode cX4_mayGoBadlyWrong 25 = .ok (.istore 5, 2) := by decide +kernel
theorem dX4_mayGoBadlyWrong_27 : decode cX4_mayGoBadlyWrong 27 = .ok (.iload 5, 2) := by decide +kernel
theorem dX4_mayGoBadlyWrong_29 : decode cX4_mayGoBadlyWrong 29 = .ok (.aload_n 0, 1) := by decide +kernel
theorem dX4_mayGoBadlyWrong_30 : decode cX4_mayGoBadlyWrong 30 = .ok (.getfield 24, 3) := by decide +kernel
theorem dX4_mayGoBadlyWrong_33 : decode cX4_mayGoBadlyWrong 33 = .ok (.invokevirtual 77, 3) := by decide +kernel
theorem dX4_mayGoBadlyWrong_36 : decode cX4_mayGoBadlyWrong 36 = .ok (.if_icmp .ge 32, 3) := by decide +kernel
theorem dX4_mayGoBadlyWrong_39 : decode cX4_mayGoBadlyWrong 39 = .ok (.iload 4, 2) := by decide +kernel
theorem dX4_mayGoBadlyWrong_41 : decode cX4_mayGoBadlyWrong 41 = .ok (.iload 5, 2) := by decide +kernel
theorem dX4_mayGoBadlyWrong_43 : decode cX4_mayGoBadlyWrong 43 = .ok (.invokestatic 74, 3) := by decide +kernel
theorem dX4_mayGoBadlyWrong_46 : decode cX4_mayGoBadlyWrong 46 = .ok (.iand, 1) := by decide +kernel
theorem dX4_mayGoBadlyWrong_47 : decode cX4_mayGoBadlyWrong 47 = .ok (.ifCond .eq 15, 3) := by decide +kernel
theorem dX4_mayGoBadlyWrong_50 : decode cX4_mayGoBadlyWrong 50 = .ok (.aload_n 0, 1) := by decide +kernel
theorem dX4_mayGoBadlyWrong_51 : decode cX4_mayGoBadlyWrong 51 = .ok (.iload_n 1, 1) := by decide +kernel
theorem dX4_mayGoBadlyWrong_52 : decode cX4_mayGoBadlyWrong 52 = .ok (.iload 5, 2) := by decide +kernel
theorem dX4_mayGoBadlyWrong_54 : decode cX4_mayGoBadlyWrong 54 = .ok (.invokevirtual 80, 3) := by decide +kernel
theorem dX4_mayGoBadlyWrong_57 : decode cX4_mayGoBadlyWrong 57 = .ok (.ifCond .ne 5, 3) := by decide +kernel
theorem dX4_mayGoBadlyWrong_60 : decode cX4_mayGoBadlyWrong 60 = .ok (.iconst 1, 1) := by decide +kernel
theorem dX4_mayGoBadlyWrong_61 : decode cX4_mayGoBadlyWrong 61 = .ok (.ireturn, 1) := by decide +kernel
theorem dX4_mayGoBadlyWrong_62 : decode cX4_mayGoBadlyWrong 62 = .ok (.iinc 5 1, 3) := by decide +kernel
theorem dX4_mayGoBadlyWrong_65 : decode cX4_mayGoBadlyWrong 65 = .ok (.goto (-38), 3) := by decide +kernel
theorem dX4_mayGoBadlyWrong_68 : decode cX4_mayGoBadlyWrong 68 = .ok (.iconst 0, 1) := by decide +kernel
theorem dX4_mayGoBadlyWrong_69 : decode cX4_mayGoBadlyWrong 69 = .ok (.ireturn, 1) := by decide +kernel
theorem dX4_isHarmless_0 : decode cX4_isHarmless 0 = .ok (.aload_n 0, 1) := by decide +kernel
theorem dX4_isHarmless_1 : decode cX4_isHarmless 1 = .ok (.getfield 24, 3) := by decide +kernel
theorem dX4_isHarmless_4 : decode cX4_isHarmless 4 = .ok (.aload_n 0, 1) := by decide +kernel
theorem dX4_isHarmless_5 : decode cX4_isHarmless 5 = .ok (.getfield 24, 3) := by decide +kernel
theorem dX4_isHarmless_8 : decode cX4_isHarmless 8 = .ok (.iload_n 1, 1) := by decide +kernel
theorem dX4_isHarmless_9 : decode cX4_isHarmless 9 = .ok (.iload_n 2, 1) := by decide +kernel
theorem dX4_isHarmless_10 : decode cX4_isHarmless 10 = .ok (.invokevirtual 84, 3) := by decide +kernel
theorem dX4_isHarmless_13 : decode cX4_isHarmless 13 = .ok (.invokevirtual 71, 3) := by decide +kernel
theorem dX4_isHarmless_16 : decode cX4_isHarmless 16 = .ok (.iload_n 2, 1) := by decide +kernel
theorem dX4_isHarmless_17 : decode cX4_isHarmless 17 = .ok (.invokestatic 74, 3) := by decide +kernel
theorem dX4_isHarmless_20 : decode cX4_isHarmless 20 = .ok (.if_icmp .ne 7, 3) := by decide +kernel
theorem dX4_isHarmless_23 : decode cX4_isHarmless 23 = .ok (.iconst 1, 1) := by decide +kernel
theorem dX4_isHarmless_24 : decode cX4_isHarmless 24 = .ok (.goto 4, 3) := by decide +kernel
theorem dX4_isHarmless_27 : decode cX4_isHarmless 27 = .ok (.iconst 0, 1) := by decide +kernel
theorem dX4_isHarmless_28 : decode cX4_isHarmless 28 = .ok (.istore_n 3, 1) := by decide +kernel
theorem dX4_isHarmless_29 : decode cX4_isHarmless 29 = .ok (.iload_n 3, 1) := by decide +kernel
theorem dX4_isHarmless_30 : decode cX4_isHarmless 30 = .ok (.ifCond .eq 22, 3) := by decide +kernel
theorem dX4_isHarmless_33 : decode cX4_isHarmless 33 = .ok (.aload_n 0, 1) := by decide +kernel
theorem dX4_isHarmless_34 : decode cX4_isHarmless 34 = .ok (.getfield 24, 3) := by decide +kernel
theorem dX4_isHarmless_37 : decode cX4_isHarmless 37 = .ok (.iload_n 2, 1) := by decide +kernel
theorem dX4_isHarmless_38 : decode cX4_isHarmless 38 = .ok (.invokevirtual 87, 3) := by decide +kernel
theorem dX4_isHarmless_41 : decode cX4_isHarmless 41 = .ok (.aload_n 0, 1) := by decide +kernel
theorem dX4_isHarmless_42 : decode cX4_isHarmless 42 = .ok (.getfield 20, 3) := by decide +kernel
theorem dX4_isHarmless_45 : decode cX4_isHarmless 45 = .ok (.if_icmp .gt 7, 3) := by decide +kernel
theorem dX4_isHarmless_48 : decode cX4_isHarmless 48 = .ok (.iconst 1, 1) := by decide +kernel
theorem dX4_isHarmless_49 : decode cX4_isHarmless 49 = .ok (.goto 4, 3) := by decide +kernel
theorem dX4_isHarmless_52 : decode cX4_isHarmless 52 = .ok (.iconst 0, 1) := by decide +kernel
theorem dX4_isHarmless_53 : decode cX4_isHarmless 53 = .ok (.ireturn, 1) := by decide +kernel
theorem dX5_init_0 : decode cX5_init 0 = .ok (.aload_n 0, 1) := by decide +kernel
theorem dX5_init_1 : decode cX5_init 1 = .ok (.invokespecial 3, 3) := by decide +kernel
theorem dX5_init_4 : decode cX5_init 4 = .ok (.aload_n 0, 1) := by decide +kernel
theorem dX5_init_5 : decode cX5_init 5 = .ok (.iload_n 1, 1) := by decide +kernel
theorem dX5_init_6 : decode cX5_init 6 = .ok (.ifCond .ge 7, 3) := by decide +kernel
theorem dX5_init_9 : decode cX5_init 9 = .ok (.iconst 0, 1) := by decide +kernel
theorem dX5_init_10 : decode cX5_init 10 = .ok (.goto 4, 3) := by decide +kernel
theorem dX5_init_13 : decode cX5_init 13 = .ok (.iload_n 1, 1) := by decide +kernel
theorem dX5_init_14 : decode cX5_init 14 = .ok (.newarray .int, 2) := by decide +kernel
theorem dX5_init_16 : decode cX5_init 16 = .ok (.putfield 9, 3) := by decide +kernel
theorem dX5_init_19 : decode cX5_init 19 = .ok (.return_, 1) := by decide +kernel
theorem dX5_filled_0 : decode cX5_filled 0 = .ok (.aload_n 0, 1) := by decide +kernel
theorem dX5_filled_1 : decode cX5_filled 1 = .ok (.aload_n 0, 1) := by decide +kernel
theorem dX5_filled_2 : decode cX5_filled 2 = .ok (.getfield 9, 3) := by decide +kernel
theorem dX5_filled_5 : decode cX5_filled 5 = .ok (.arraylength, 1) := by decide +kernel
theorem dX5_filled_6 : decode cX5_filled 6 = .ok (.putfield 15, 3) := by decide +kernel
theorem dX5_filled_9 : decode cX5_filled 9 = .ok (.aload_n 0, 1) := by decide +kernel
theorem dX5_filled_10 : decode cX5_filled 10 = .ok (.areturn, 1) := by decide +kernel
theorem dX5_size_0 : decode cX5_size 0 = .ok (.aload_n 0, 1) := by decide +kernel
theorem dX5_size_1 : decode cX5_size 1 = .ok (.getfield 15, 3) := by decide +kernel
theorem dX5_size_4 : decode cX5_size 4 = .ok (.ireturn, 1) := by decide +kernel
theorem dX5_get_0 : decode cX5_get 0 = .ok (.iload_n 1, 1) := by decide +kernel
theorem dX5_get_1 : decode cX5_get 1 = .ok (.ifCond .lt 29, 3) := by decide +kernel
theorem dX5_get_4 : decode cX5_get 4 = .ok (.iload_n 1, 1) := by decide +kernel
theorem dX5_get_5 : decode cX5_get 5 = .ok (.aload_n 0, 1) := by decide +kernel
theorem dX5_get_6 : decode cX5_get 6 = .ok (.getfield 15, 3) := by decide +kernel
theorem dX5_get_9 : decode cX5_get 9 = .ok (.if_icmp .ge 21, 3) := by decide +kernel
theorem dX5_get_12 : decode cX5_get 12 = .ok (.iload_n 1, 1) := by decide +kernel
theorem dX5_get_13 : decode cX5_get 13 = .ok (.aload_n 0, 1) := by decide +kernel
theorem dX5_get_14 : decode cX5_get 14 = .ok (.getfield 9, 3) := by decide +kernel
theorem dX5_get_17 : decode cX5_get 17 = .ok (.arraylength, 1) := by decide +kernel
theorem dX5_get_18 : decode cX5_get 18 = .ok (.if_icmp .ge 12, 3) := by decide +kernel
theorem dX5_get_21 : decode cX5_get 21 = .ok (.aload_n 0, 1) := by decide +kernel
theorem dX5_get_22 : decode cX5_get 22 = .ok (.getfield 9, 3) := by decide +kernel
theorem dX5_get_25 : decode cX5_get 25 = .ok (.iload_n 1, 1) := by decide +kernel
theorem dX5_get_26 : decode cX5_get 26 = .ok (.iaload, 1) := by decide +kernel
theorem dX5_get_27 : decode cX5_get 27 = .ok (.goto 4, 3) := by decide +kernel
theorem dX5_get_30 : decode cX5_get 30 = .ok (.iconst (-1), 1) := by decide +kernel
theorem dX5_get_31 : decode cX5_get 31 = .ok (.ireturn, 1) := by decide +kernel
theorem dX5_put_0 : decode cX5_put 0 = .ok (.iload_n 1, 1) := by decide +kernel
theorem dX5_put_1 : decode cX5_put 1 = .ok (.ifCond .lt 27, 3) := by decide +kernel
theorem dX5_put_4 : decode cX5_put 4 = .ok (.iload_n 1, 1) := by decide +kernel
theorem dX5_put_5 : decode cX5_put 5 = .ok (.aload_n 0, 1) := by decide +kernel
theorem dX5_put_6 : decode cX5_put 6 = .ok (.getfield 15, 3) := by decide +kernel
theorem dX5_put_9 : decode cX5_put 9 = .ok (.if_icmp .ge 19, 3) := by decide +kernel
theorem dX5_put_12 : decode cX5_put 12 = .ok (.iload_n 1, 1) := by decide +kernel
theorem dX5_put_13 : decode cX5_put 13 = .ok (.aload_n 0, 1) := by decide +kernel
theorem dX5_put_14 : decode cX5_put 14 = .ok (.getfield 9, 3) := by decide +kernel
theorem dX5_put_17 : decode cX5_put 17 = .ok (.arraylength, 1) := by decide +kernel
theorem dX5_put_18 : decode cX5_put 18 = .ok (.if_icmp .ge 10, 3) := by decide +kernel
theorem dX5_put_21 : decode cX5_put 21 = .ok (.aload_n 0, 1) := by decide +kernel
theorem dX5_put_22 : decode cX5_put 22 = .ok (.getfield 9, 3) := by decide +kernel
theorem dX5_put_25 : decode cX5_put 25 = .ok (.iload_n 1, 1) := by decide +kernel
theorem dX5_put_26 : decode cX5_put 26 = .ok (.iload_n 2, 1) := by decide +kernel
theorem dX5_put_27 : decode cX5_put 27 = .ok (.iastore, 1) := by decide +kernel
theorem dX5_put_28 : decode cX5_put 28 = .ok (.return_, 1) := by decide +kernel
theorem dX5_push_0 : decode cX5_push 0 = .ok (.aload_n 0, 1) := by decide +kernel
theorem dX5_push_1 : decode cX5_push 1 = .ok (.getfield 15, 3) := by decide +kernel
theorem dX5_push_4 : decode cX5_push 4 = .ok (.ifCond .lt 35, 3) := by decide +kernel
theorem dX5_push_7 : decode cX5_push 7 = .ok (.aload_n 0, 1) := by decide +kernel
theorem dX5_push_8 : decode cX5_push 8 = .ok (.getfield 15, 3) := by decide +kernel
theorem dX5_push_11 : decode cX5_push 11 = .ok (.aload_n 0, 1) := by decide +kernel
theorem dX5_push_12 : decode cX5_push 12 = .ok (.getfield 9, 3) := by decide +kernel
theorem dX5_push_15 : decode cX5_push 15 = .ok (.arraylength, 1) := by decide +kernel
theorem dX5_push_16 : decode cX5_push 16 = .ok (.if_icmp .ge 23, 3) := by decide +kernel
theorem dX5_push_19 : decode cX5_push 19 = .ok (.aload_n 0, 1) := by decide +kernel
theorem dX5_push_20 : decode cX5_push 20 = .ok (.getfield 9, 3) := by decide +kernel
theorem dX5_push_23 : decode cX5_push 23 = .ok (.aload_n 0, 1) := by decide +kernel
theorem dX5_push_24 : decode cX5_push 24 = .ok (.getfield 15, 3) := by decide +kernel
theorem dX5_push_27 : decode cX5_push 27 = .ok (.iload_n 1, 1) := by decide +kernel
theorem dX5_push_28 : decode cX5_push 28 = .ok (.iastore, 1) := by decide +kernel
theorem dX5_push_29 : decode cX5_push 29 = .ok (.aload_n 0, 1) := by decide +kernel
theorem dX5_push_30 : decode cX5_push 30 = .ok (.dup, 1) := by decide +kernel
theorem dX5_push_31 : decode cX5_push 31 = .ok (.getfield 15, 3) := by decide +kernel
theorem dX5_push_34 : decode cX5_push 34 = .ok (.iconst 1, 1) := by decide +kernel
theorem dX5_push_35 : decode cX5_push 35 = .ok (.iadd, 1) := by decide +kernel
theorem dX5_push_36 : decode cX5_push 36 = .ok (.putfield 15, 3) := by decide +kernel
theorem dX5_push_39 : decode cX5_push 39 = .ok (.aload_n 0, 1) := by decide +kernel
theorem dX5_push_40 : decode cX5_push 40 = .ok (.getfield 15, 3) := by decide +kernel
theorem dX5_push_43 : decode cX5_push 43 = .ok (.ireturn, 1) := by decide +kernel
theorem dX5_has_0 : decode cX5_has 0 = .ok (.iconst 0, 1) := by decide +kernel
theorem dX5_has_1 : decode cX5_has 1 = .ok (.istore_n 2, 1) := by decide +kernel
theorem dX5_has_2 : decode cX5_has 2 = .ok (.iload_n 2, 1) := by decide +kernel
theorem dX5_has_3 : decode cX5_has 3 = .ok (.aload_n 0, 1) := by decide +kernel
theorem dX5_has_4 : decode cX5_has 4 = .ok (.getfield 15, 3) := by decide +kernel
theorem dX5_has_7 : decode cX5_has 7 = .ok (.if_icmp .ge 20, 3) := by decide +kernel
theorem dX5_has_10 : decode cX5_has 10 = .ok (.aload_n 0, 1) := by decide +kernel
theorem dX5_has_11 : decode cX5_has 11 = .ok (.iload_n 2, 1) := by decide +kernel
theorem dX5_has_12 : decode cX5_has 12 = .ok (.invokevirtual 19, 3) := by decide +kernel
theorem dX5_has_15 : decode cX5_has 15 = .ok (.iload_n 1, 1) := by decide +kernel
theorem dX5_has_16 : decode cX5_has 16 = .ok (.if_icmp .ne 5, 3) := by decide +kernel
theorem dX5_has_19 : decode cX5_has 19 = .ok (.iconst 1, 1) := by decide +kernel
theorem dX5_has_20 : decode cX5_has 20 = .ok (.ireturn, 1) := by decide +kernel
theorem dX5_has_21 : decode cX5_has 21 = .ok (.iinc 2 1, 3) := by decide +kernel
theorem dX5_has_24 : decode cX5_has 24 = .ok (.goto (-22), 3) := by decide +kernel
theorem dX5_has_27 : decode cX5_has 27 = .ok (.iconst 0, 1) := by decide +kernel
theorem dX5_has_28 : decode cX5_has 28 = .ok (.ireturn, 1) := by decide +kernel
theorem dX5_clear_0 : decode cX5_clear 0 = .ok (.aload_n 0, 1) := by decide +kernel
theorem dX5_clear_1 : decode cX5_clear 1 = .ok (.getfield 15, 3) := by decide +kernel
theorem dX5_clear_4 : decode cX5_clear 4 = .ok (.istore_n 1, 1) := by decide +kernel
theorem dX5_clear_5 : decode cX5_clear 5 = .ok (.aload_n 0, 1) := by decide +kernel
theorem dX5_clear_6 : decode cX5_clear 6 = .ok (.iconst 0, 1) := by decide +kernel
theorem dX5_clear_7 : decode cX5_clear 7 = .ok (.putfield 15, 3) := by decide +kernel
theorem dX5_clear_10 : decode cX5_clear 10 = .ok (.iload_n 1, 1) := by decide +kernel
theorem dX5_clear_11 : decode cX5_clear 11 = .ok (.ireturn, 1) := by decide +kernel
theorem dX6_init_0 : decode cX6_init 0 = .ok (.aload_n 0, 1) := by decide +kernel
theorem dX6_init_1 : decode cX6_init 1 = .ok (.invokespecial 3, 3) := by decide +kernel
theorem dX6_init_4 : decode cX6_init 4 = .ok (.aload_n 0, 1) := by decide +kernel
theorem dX6_init_5 : decode cX6_init 5 = .ok (.new 9, 3) := by decide +kernel
theorem dX6_init_8 : decode cX6_init 8 = .ok (.dup, 1) := by decide +kernel
theorem dX6_init_9 : decode cX6_init 9 = .ok (.bipush 24, 2) := by decide +kernel
theorem dX6_init_11 : decode cX6_init 11 = .ok (.invokespecial 13, 3) := by decide +kernel
theorem dX6_init_14 : decode cX6_init 14 = .ok (.putfield 16, 3) := by decide +kernel
theorem dX6_init_17 : decode cX6_init 17 = .ok (.aload_n 0, 1) := by decide +kernel
theorem dX6_init_18 : decode cX6_init 18 = .ok (.new 9, 3) := by decide +kernel
theorem dX6_init_21 : decode cX6_init 21 = .ok (.dup, 1) := by decide +kernel
theorem dX6_init_22 : decode cX6_init 22 = .ok (.bipush 24, 2) := by decide +kernel
theorem dX6_init_24 : decode cX6_init 24 = .ok (.invokespecial 13, 3) := by decide +kernel
theorem dX6_init_27 : decode cX6_init 27 = .ok (.putfield 20, 3) := by decide +kernel
theorem dX6_init_30 : decode cX6_init 30 = .ok (.aload_n 0, 1) := by decide +kernel
theorem dX6_init_31 : decode cX6_init 31 = .ok (.new 9, 3) := by decide +kernel
theorem dX6_init_34 : decode cX6_init 34 = .ok (.dup, 1) := by decide +kernel
theorem dX6_init_35 : decode cX6_init 35 = .ok (.bipush 24, 2) := by decide +kernel
theorem dX6_init_37 : decode cX6_init 37 = .ok (.invokespecial 13, 3) := by decide +kernel
theorem dX6_init_40 : decode cX6_init 40 = .ok (.putfield 23, 3) := by decide +kernel
theorem dX6_init_43 : decode cX6_init 43 = .ok (.aload_n 0, 1) := by decide +kernel
theorem dX6_init_44 : decode cX6_init 44 = .ok (.new 9, 3) := by decide +kernel
theorem dX6_init_47 : decode cX6_init 47 = .ok (.dup, 1) := by decide +kernel
theorem dX6_init_48 : decode cX6_init 48 = .ok (.bipush 24, 2) := by decide +kernel
theorem dX6_init_50 : decode cX6_init 50 = .ok (.invokespecial 13, 3) := by decide +kernel
theorem dX6_init_53 : decode cX6_init 53 = .ok (.putfield 26, 3) := by decide +kernel
theorem dX6_init_56 : decode cX6_init 56 = .ok (.aload_n 0, 1) := by decide +kernel
theorem dX6_init_57 : decode cX6_init 57 = .ok (.new 9, 3) := by decide +kernel
theorem dX6_init_60 : decode cX6_init 60 = .ok (.dup, 1) := by decide +kernel
theorem dX6_init_61 : decode cX6_init 61 = .ok (.bipush 24, 2) := by decide +kernel
theorem dX6_init_63 : decode cX6_init 63 = .ok (.invokespecial 13, 3) := by decide +kernel
theorem dX6_init_66 : decode cX6_init 66 = .ok (.putfield 29, 3) := by decide +kernel
theorem dX6_init_69 : decode cX6_init 69 = .ok (.aload_n 0, 1) := by decide +kernel
theorem dX6_init_70 : decode cX6_init 70 = .ok (.new 9, 3) := by decide +kernel
theorem dX6_init_73 : decode cX6_init 73 = .ok (.dup, 1) := by decide +kernel
theorem dX6_init_74 : decode cX6_init 74 = .ok (.bipush 24, 2) := by decide +kernel
theorem dX6_init_76 : decode cX6_init 76 = .ok (.invokespecial 13, 3) := by decide +kernel
theorem dX6_init_79 : decode cX6_init 79 = .ok (.putfield 32, 3) := by decide +kernel
theorem dX6_init_82 : decode cX6_init 82 = .ok (.aload_n 0, 1) := by decide +kernel
theorem dX6_init_83 : decode cX6_init 83 = .ok (.new 9, 3) := by decide +kernel
theorem dX6_init_86 : decode cX6_init 86 = .ok (.dup, 1) := by decide +kernel
theorem dX6_init_87 : decode cX6_init 87 = .ok (.bipush 24, 2) := by decide +kernel
theorem dX6_init_89 : decode cX6_init 89 = .ok (.invokespecial 13, 3) := by decide +kernel
theorem dX6_init_92 : decode cX6_init 92 = .ok (.putfield 35, 3) := by decide +kernel
theorem dX6_init_95 : decode cX6_init 95 = .ok (.aload_n 0, 1) := by decide +kernel
theorem dX6_init_96 : decode cX6_init 96 = .ok (.iconst 0, 1) := by decide +kernel
theorem dX6_init_97 : decode cX6_init 97 = .ok (.putfield 38, 3) := by decide +kernel
theorem dX6_init_100 : decode cX6_init 100 = .ok (.aload_n 0, 1) := by decide +kernel
theorem dX6_init_101 : decode cX6_init 101 = .ok (.iconst 0, 1) := by decide +kernel
theorem dX6_init_102 : decode cX6_init 102 = .ok (.putfield 42, 3) := by decide +kernel
theorem dX6_init_105 : decode cX6_init 105 = .ok (.aload_n 0, 1) := by decide +kernel
theorem dX6_init_106 : decode cX6_init 106 = .ok (.iconst 0, 1) := by decide +kernel
theorem dX6_init_107 : decode cX6_init 107 = .ok (.putfield 45, 3) := by decide +kernel
theorem dX6_init_110 : decode cX6_init 110 = .ok (.aload_n 0, 1) := by decide +kernel
theorem dX6_init_111 : decode cX6_init 111 = .ok (.aload_n 1, 1) := by decide +kernel
theorem dX6_init_112 : decode cX6_init 112 = .ok (.putfield 48, 3) := by decide +kernel
theorem dX6_init_115 : decode cX6_init 115 = .ok (.return_, 1) := by decide +kernel
theorem dX6_signCount_0 : decode cX6_signCount 0 = .ok (.aload_n 0, 1) := by decide +kernel
theorem dX6_signCount_1 : decode cX6_signCount 1 = .ok (.getfield 16, 3) := by decide +kernel
theorem dX6_signCount_4 : decode cX6_signCount 4 = .ok (.invokevirtual 52, 3) := by decide +kernel
theorem dX6_signCount_7 : decode cX6_signCount 7 = .ok (.ireturn, 1) := by decide +kernel
theorem dX6_today_0 : decode cX6_today 0 = .ok (.aload_n 0, 1) := by decide +kernel
theorem dX6_today_1 : decode cX6_today 1 = .ok (.getfield 38, 3) := by decide +kernel
theorem dX6_today_4 : decode cX6_today 4 = .ok (.ireturn, 1) := by decide +kernel
theorem dX6_changeWeather_0 : decode cX6_changeWeather 0 = .ok (.aload_n 0, 1) := by decide +kernel
theorem dX6_changeWeather_1 : decode cX6_changeWeather 1 = .ok (.getfield 42, 3) := by decide +kernel
theorem dX6_changeWeather_4 : decode cX6_changeWeather 4 = .ok (.istore_n 2, 1) := by decide +kernel
theorem dX6_changeWeather_5 : decode cX6_changeWeather 5 = .ok (.aload_n 0, 1) := by decide +kernel
theorem dX6_changeWeather_6 : decode cX6_changeWeather 6 = .ok (.iload_n 1, 1) := by decide +kernel
theorem dX6_changeWeather_7 : decode cX6_changeWeather 7 = .ok (.putfield 42, 3) := by decide +kernel
theorem dX6_changeWeather_10 : decode cX6_changeWeather 10 = .ok (.iload_n 2, 1) := by decide +kernel
theorem dX6_changeWeather_11 : decode cX6_changeWeather 11 = .ok (.ireturn, 1) := by decide +kernel
theorem dX6_changeFog_0 : decode cX6_changeFog 0 = .ok (.aload_n 0, 1) := by decide +kernel
theorem dX6_changeFog_1 : decode cX6_changeFog 1 = .ok (.getfield 45, 3) := by decide +kernel
theorem dX6_changeFog_4 : decode cX6_changeFog 4 = .ok (.istore_n 2, 1) := by decide +kernel
theorem dX6_changeFog_5 : decode cX6_changeFog 5 = .ok (.aload_n 0, 1) := by decide +kernel
theorem dX6_changeFog_6 : decode cX6_changeFog 6 = .ok (.iload_n 1, 1) := by decide +kernel
theorem dX6_changeFog_7 : decode cX6_changeFog 7 = .ok (.putfield 45, 3) := by decide +kernel
theorem dX6_changeFog_10 : decode cX6_changeFog 10 = .ok (.iload_n 2, 1) := by decide +kernel
theorem dX6_changeFog_11 : decode cX6_changeFog 11 = .ok (.ireturn, 1) := by decide +kernel
theorem dX6_letDaysGoBy_0 : decode cX6_letDaysGoBy 0 = .ok (.iconst 0, 1) := by decide +kernel
theorem dX6_letDaysGoBy_1 : decode cX6_letDaysGoBy 1 = .ok (.istore_n 2, 1) := by decide +kernel
theorem dX6_letDaysGoBy_2 : decode cX6_letDaysGoBy 2 = .ok (.iload_n 2, 1) := by decide +kernel
theorem dX6_letDaysGoBy_3 : decode cX6_letDaysGoBy 3 = .ok (.aload_n 0, 1) := by decide +kernel
theorem dX6_letDaysGoBy_4 : decode cX6_letDaysGoBy 4 = .ok (.invokevirtual 56, 3) := by decide +kernel
theorem dX6_letDaysGoBy_7 : decode cX6_letDaysGoBy 7 = .ok (.if_icmp .ge 53, 3) := by decide +kernel
theorem dX6_letDaysGoBy_10 : decode cX6_letDaysGoBy 10 = .ok (.aload_n 0, 1) := by decide +kernel
theorem dX6_letDaysGoBy_11 : decode cX6_letDaysGoBy 11 = .ok (.iload_n 2, 1) := by decide +kernel
theorem dX6_letDaysGoBy_12 : decode cX6_letDaysGoBy 12 = .ok (.invokevirtual 59, 3) := by decide +kernel
theorem dX6_letDaysGoBy_15 : decode cX6_letDaysGoBy 15 = .ok (.iconst 2, 1) := by decide +kernel
theorem dX6_letDaysGoBy_16 : decode cX6_letDaysGoBy 16 = .ok (.if_icmp .ne 7, 3) := by decide +kernel
theorem dX6_letDaysGoBy_19 : decode cX6_letDaysGoBy 19 = .ok (.iload_n 1, 1) := by decide +kernel
theorem dX6_letDaysGoBy_20 : decode cX6_letDaysGoBy 20 = .ok (.goto 11, 3) := by decide +kernel
theorem dX6_letDaysGoBy_23 : decode cX6_letDaysGoBy 23 = .ok (.iload_n 1, 1) := by decide +kernel
theorem dX6_letDaysGoBy_24 : decode cX6_letDaysGoBy 24 = .ok (.iconst 1, 1) := by decide +kernel
theorem dX6_letDaysGoBy_25 : decode cX6_letDaysGoBy 25 = .ok (.aload_n 0, 1) := by decide +kernel
theorem dX6_letDaysGoBy_26 : decode cX6_letDaysGoBy 26 = .ok (.getfield 42, 3) := by decide +kernel
theorem dX6_letDaysGoBy_29 : decode cX6_letDaysGoBy 29 = .ok (.ishl, 1) := by decide +kernel
theorem dX6_letDaysGoBy_30 : decode cX6_letDaysGoBy 30 = .ok (.imul, 1) := by decide +kernel
theorem dX6_letDaysGoBy_31 : decode cX6_letDaysGoBy 31 = .ok (.istore_n 3, 1) := by decide +kernel
theorem dX6_letDaysGoBy_32 : decode cX6_letDaysGoBy 32 = .ok (.aload_n 0, 1) := by decide +kernel
theorem dX6_letDaysGoBy_33 : decode cX6_letDaysGoBy 33 = .ok (.getfield 26, 3) := by decide +kernel
theorem dX6_letDaysGoBy_36 : decode cX6_letDaysGoBy 36 = .ok (.iload_n 2, 1) := by decide +kernel
theorem dX6_letDaysGoBy_37 : decode cX6_letDaysGoBy 37 = .ok (.iconst 0, 1) := by decide +kernel
theorem dX6_letDaysGoBy_38 : decode cX6_letDaysGoBy 38 = .ok (.aload_n 0, 1) := by decide +kernel
theorem dX6_letDaysGoBy_39 : decode cX6_letDaysGoBy 39 = .ok (.getfield 26, 3) := by decide +kernel
theorem dX6_letDaysGoBy_42 : decode cX6_letDaysGoBy 42 = .ok (.iload_n 2, 1) := by decide +kernel
theorem dX6_letDaysGoBy_43 : decode cX6_letDaysGoBy 43 = .ok (.invokevirtual 63, 3) := by decide +kernel
theorem dX6_letDaysGoBy_46 : decode cX6_letDaysGoBy 46 = .ok (.iload_n 3, 1) := by decide +kernel
theorem dX6_letDaysGoBy_47 : decode cX6_letDaysGoBy 47 = .ok (.isub, 1) := by decide +kernel
theorem dX6_letDaysGoBy_48 : decode cX6_letDaysGoBy 48 = .ok (.invokestatic 66, 3) := by decide +kernel
theorem dX6_letDaysGoBy_51 : decode cX6_letDaysGoBy 51 = .ok (.invokevirtual 72, 3) := by decide +kernel
theorem dX6_letDaysGoBy_54 : decode cX6_letDaysGoBy 54 = .ok (.iinc 2 1, 3) := by decide +kernel
theorem dX6_letDaysGoBy_57 : decode cX6_letDaysGoBy 57 = .ok (.goto (-55), 3) := by decide +kernel
theorem dX6_letDaysGoBy_60 : decode cX6_letDaysGoBy 60 = .ok (.aload_n 0, 1) := by decide +kernel
theorem dX6_letDaysGoBy_61 : decode cX6_letDaysGoBy 61 = .ok (.dup, 1) := by decide +kernel
theorem dX6_letDaysGoBy_62 : decode cX6_letDaysGoBy 62 = .ok (.getfield 38, 3) := by decide +kernel
theorem dX6_letDaysGoBy_65 : decode cX6_letDaysGoBy 65 = .ok (.iload_n 1, 1) := by decide +kernel
theorem dX6_letDaysGoBy_66 : decode cX6_letDaysGoBy 66 = .ok (.iadd, 1) := by decide +kernel
theorem dX6_letDaysGoBy_67 : decode cX6_letDaysGoBy 67 = .ok (.putfield 38, 3) := by decide +kernel
theorem dX6_letDaysGoBy_70 : decode cX6_letDaysGoBy 70 = .ok (.aload_n 0, 1) := by decide +kernel
theorem dX6_letDaysGoBy_71 : decode cX6_letDaysGoBy 71 = .ok (.getfield 38, 3) := by decide +kernel
theorem dX6_letDaysGoBy_74 : decode cX6_letDaysGoBy 74 = .ok (.ireturn, 1) := by decide +kernel
theorem dX6_lay_0 : decode cX6_lay 0 = .ok (.aload_n 0, 1) := by decide +kernel
theorem dX6_lay_1 : decode cX6_lay 1 = .ok (.invokevirtual 56, 3) := by decide +kernel
theorem dX6_lay_4 : decode cX6_lay 4 = .ok (.istore 7, 2) := by decide +kernel
theorem dX6_lay_6 : decode cX6_lay 6 = .ok (.aload_n 0, 1) := by decide +kernel
theorem dX6_lay_7 : decode cX6_lay 7 = .ok (.getfield 16, 3) := by decide +kernel
theorem dX6_lay_10 : decode cX6_lay 10 = .ok (.iload_n 1, 1) := by decide +kernel
theorem dX6_lay_11 : decode cX6_lay 11 = .ok (.invokevirtual 76, 3) := by decide +kernel
theorem dX6_lay_14 : decode cX6_lay 14 = .ok (.pop, 1) := by decide +kernel
theorem dX6_lay_15 : decode cX6_lay 15 = .ok (.aload_n 0, 1) := by decide +kernel
theorem dX6_lay_16 : decode cX6_lay 16 = .ok (.getfield 20, 3) := by decide +kernel
theorem dX6_lay_19 : decode cX6_lay 19 = .ok (.iload_n 2, 1) := by decide +kernel
theorem dX6_lay_20 : decode cX6_lay 20 = .ok (.invokevirtual 76, 3) := by decide +kernel
theorem dX6_lay_23 : decode cX6_lay 23 = .ok (.pop, 1) := by decide +kernel
theorem dX6_lay_24 : decode cX6_lay 24 = .ok (.aload_n 0, 1) := by decide +kernel
theorem dX6_lay_25 : decode cX6_lay 25 = .ok (.getfield 23, 3) := by decide +kernel
theorem dX6_lay_28 : decode cX6_lay 28 = .ok (.iload_n 3, 1) := by decide +kernel
theorem dX6_lay_29 : decode cX6_lay 29 = .ok (.invokevirtual 76, 3) := by decide +kernel
theorem dX6_lay_32 : decode cX6_lay 32 = .ok (.pop, 1) := by decide +kernel
theorem dX6_lay_33 : decode cX6_lay 33 = .ok (.aload_n 0, 1) := by decide +kernel
theorem dX6_lay_34 : decode cX6_lay 34 = .ok (.getfield 26, 3) := by decide +kernel
theorem dX6_lay_37 : decode cX6_lay 37 = .ok (.iload 4, 2) := by decide +kernel
theorem dX6_lay_39 : decode cX6_lay 39 = .ok (.invokevirtual 76, 3) := by decide +kernel
theorem dX6_lay_42 : decode cX6_lay 42 = .ok (.pop, 1) := by decide +kernel
theorem dX6_lay_43 : decode cX6_lay 43 = .ok (.aload_n 0, 1) := by decide +kernel
theorem dX6_lay_44 : decode cX6_lay 44 = .ok (.getfield 29, 3) := by decide +kernel
theorem dX6_lay_47 : decode cX6_lay 47 = .ok (.aload_n 0, 1) := by decide +kernel
theorem dX6_lay_48 : decode cX6_lay 48 = .ok (.getfield 38, 3) := by decide +kernel
theorem dX6_lay_51 : decode cX6_lay 51 = .ok (.invokevirtual 76, 3) := by decide +kernel
theorem dX6_lay_54 : decode cX6_lay 54 = .ok (.pop, 1) := by decide +kernel
theorem dX6_lay_55 : decode cX6_lay 55 = .ok (.aload_n 0, 1) := by decide +kernel
theorem dX6_lay_56 : decode cX6_lay 56 = .ok (.getfield 32, 3) := by decide +kernel
theorem dX6_lay_59 : decode cX6_lay 59 = .ok (.iconst 0, 1) := by decide +kernel
theorem dX6_lay_60 : decode cX6_lay 60 = .ok (.invokevirtual 76, 3) := by decide +kernel
theorem dX6_lay_63 : decode cX6_lay 63 = .ok (.pop, 1) := by decide +kernel
theorem dX6_lay_64 : decode cX6_lay 64 = .ok (.aload_n 0, 1) := by decide +kernel
theorem dX6_lay_65 : decode cX6_lay 65 = .ok (.getfield 35, 3) := by decide +kernel
theorem dX6_lay_68 : decode cX6_lay 68 = .ok (.iload 6, 2) := by decide +kernel
theorem dX6_lay_70 : decode cX6_lay 70 = .ok (.ifCond .eq 11, 3) := by decide +kernel
theorem dX6_lay_73 : decode cX6_lay 73 = .ok (.iload 5, 2) := by decide +kernel
theorem dX6_lay_75 : decode cX6_lay 75 = .ok (.ldc 79, 2) := by decide +kernel
theorem dX6_lay_77 : decode cX6_lay 77 = .ok (.ior, 1) := by decide +kernel
theorem dX6_lay_78 : decode cX6_lay 78 = .ok (.goto 5, 3) := by decide +kernel
theorem dX6_lay_81 : decode cX6_lay 81 = .ok (.iload 5, 2) := by decide +kernel
theorem dX6_lay_83 : decode cX6_lay 83 = .ok (.invokevirtual 76, 3) := by decide +kernel
theorem dX6_lay_86 : decode cX6_lay 86 = .ok (.pop, 1) := by decide +kernel
theorem dX6_lay_87 : decode cX6_lay 87 = .ok (.iload 7, 2) := by decide +kernel
theorem dX6_lay_89 : decode cX6_lay 89 = .ok (.ireturn, 1) := by decide +kernel
theorem dX6_pointTo_0 : decode cX6_pointTo 0 = .ok (.aload_n 0, 1) := by decide +kernel
theorem dX6_pointTo_1 : decode cX6_pointTo 1 = .ok (.iload_n 1, 1) := by decide +kernel
theorem dX6_pointTo_2 : decode cX6_pointTo 2 = .ok (.invokevirtual 80, 3) := by decide +kernel
theorem dX6_pointTo_5 : decode cX6_pointTo 5 = .ok (.istore_n 3, 1) := by decide +kernel
theorem dX6_pointTo_6 : decode cX6_pointTo 6 = .ok (.aload_n 0, 1) := by decide +kernel
theorem dX6_pointTo_7 : decode cX6_pointTo 7 = .ok (.getfield 23, 3) := by decide +kernel
theorem dX6_pointTo_10 : decode cX6_pointTo 10 = .ok (.iload_n 1, 1) := by decide +kernel
theorem dX6_pointTo_11 : decode cX6_pointTo 11 = .ok (.iload_n 2, 1) := by decide +kernel
theorem dX6_pointTo_12 : decode cX6_pointTo 12 = .ok (.invokevirtual 72, 3) := by decide +kernel
theorem dX6_pointTo_15 : decode cX6_pointTo 15 = .ok (.aload_n 0, 1) := by decide +kernel
theorem dX6_pointTo_16 : decode cX6_pointTo 16 = .ok (.getfield 32, 3) := by decide +kernel
theorem dX6_pointTo_19 : decode cX6_pointTo 19 = .ok (.iload_n 1, 1) := by decide +kernel
theorem dX6_pointTo_20 : decode cX6_pointTo 20 = .ok (.iconst 1, 1) := by decide +kernel
theorem dX6_pointTo_21 : decode cX6_pointTo 21 = .ok (.invokevirtual 72, 3) := by decide +kernel
theorem dX6_pointTo_24 : decode cX6_pointTo 24 = .ok (.iload_n 3, 1) := by decide +kernel
theorem dX6_pointTo_25 : decode cX6_pointTo 25 = .ok (.ireturn, 1) := by decide +kernel
theorem dX6_placeOf_0 : decode cX6_placeOf 0 = .ok (.aload_n 0, 1) := by decide +kernel
theorem dX6_placeOf_1 : decode cX6_placeOf 1 = .ok (.getfield 16, 3) := by decide +kernel
theorem dX6_placeOf_4 : decode cX6_placeOf 4 = .ok (.iload_n 1, 1) := by decide +kernel
theorem dX6_placeOf_5 : decode cX6_placeOf 5 = .ok (.invokevirtual 63, 3) := by decide +kernel
theorem dX6_placeOf_8 : decode cX6_placeOf 8 = .ok (.ireturn, 1) := by decide +kernel
theorem dX6_kindOf_0 : decode cX6_kindOf 0 = .ok (.aload_n 0, 1) := by decide +kernel
theorem dX6_kindOf_1 : decode cX6_kindOf 1 = .ok (.getfield 20, 3) := by decide +kernel
theorem dX6_kindOf_4 : decode cX6_kindOf 4 = .ok (.iload_n 1, 1) := by decide +kernel
theorem dX6_kindOf_5 : decode cX6_kindOf 5 = .ok (.invokevirtual 63, 3) := by decide +kernel
theorem dX6_kindOf_8 : decode cX6_kindOf 8 = .ok (.ireturn, 1) := by decide +kernel
theorem dX6_valueOf_0 : decode cX6_valueOf 0 = .ok (.aload_n 0, 1) := by decide +kernel
theorem dX6_valueOf_1 : decode cX6_valueOf 1 = .ok (.getfield 23, 3) := by decide +kernel
theorem dX6_valueOf_4 : decode cX6_valueOf 4 = .ok (.iload_n 1, 1) := by decide +kernel
theorem dX6_valueOf_5 : decode cX6_valueOf 5 = .ok (.invokevirtual 63, 3) := by decide +kernel
theorem dX6_valueOf_8 : decode cX6_valueOf 8 = .ok (.ireturn, 1) := by decide +kernel
theorem dX6_isGone_0 : decode cX6_isGone 0 = .ok (.aload_n 0, 1) := by decide +kernel
theorem dX6_isGone_1 : decode cX6_isGone 1 = .ok (.getfield 26, 3) := by decide +kernel
theorem dX6_isGone_4 : decode cX6_isGone 4 = .ok (.iload_n 1, 1) := by decide +kernel
theorem dX6_isGone_5 : decode cX6_isGone 5 = .ok (.invokevirtual 63, 3) := by decide +kernel
theorem dX6_isGone_8 : decode cX6_isGone 8 = .ok (.ifCond .gt 7, 3) := by decide +kernel
theorem dX6_isGone_11 : decode cX6_isGone 11 = .ok (.iconst 1, 1) := by decide +kernel
theorem dX6_isGone_12 : decode cX6_isGone 12 = .ok (.goto 4, 3) := by decide +kernel
theorem dX6_isGone_15 : decode cX6_isGone 15 = .ok (.iconst 0, 1) := by decide +kernel
theorem dX6_isGone_16 : decode cX6_isGone 16 = .ok (.ireturn, 1) := by decide +kernel
theorem dX6_tell_0 : decode cX6_tell 0 = .ok (.iload_n 2, 1) := by decide +kernel
theorem dX6_tell_1 : decode cX6_tell 1 = .ok (.tableswitch 71 0 4 #[35, 41, 47, 53, 62], 35) := by decide +kernel
theorem dX6_tell_36 : decode cX6_tell 36 = .ok (.aload_n 0, 1) := by decide +kernel
theorem dX6_tell_37 : decode cX6_tell 37 = .ok (.iload_n 1, 1) := by decide +kernel
theorem dX6_tell_38 : decode cX6_tell 38 = .ok (.invokevirtual 83, 3) := by decide +kernel
theorem dX6_tell_41 : decode cX6_tell 41 = .ok (.ireturn, 1) := by decide +kernel
theorem dX6_tell_42 : decode cX6_tell 42 = .ok (.aload_n 0, 1) := by decide +kernel
theorem dX6_tell_43 : decode cX6_tell 43 = .ok (.iload_n 1, 1) := by decide +kernel
theorem dX6_tell_44 : decode cX6_tell 44 = .ok (.invokevirtual 59, 3) := by decide +kernel
theorem dX6_tell_47 : decode cX6_tell 47 = .ok (.ireturn, 1) := by decide +kernel
theorem dX6_tell_48 : decode cX6_tell 48 = .ok (.aload_n 0, 1) := by decide +kernel
theorem dX6_tell_49 : decode cX6_tell 49 = .ok (.iload_n 1, 1) := by decide +kernel
theorem dX6_tell_50 : decode cX6_tell 50 = .ok (.invokevirtual 80, 3) := by decide +kernel
theorem dX6_tell_53 : decode cX6_tell 53 = .ok (.ireturn, 1) := by decide +kernel
theorem dX6_tell_54 : decode cX6_tell 54 = .ok (.aload_n 0, 1) := by decide +kernel
theorem dX6_tell_55 : decode cX6_tell 55 = .ok (.getfield 26, 3) := by decide +kernel
theorem dX6_tell_58 : decode cX6_tell 58 = .ok (.iload_n 1, 1) := by decide +kernel
theorem dX6_tell_59 : decode cX6_tell 59 = .ok (.invokevirtual 63, 3) := by decide +kernel
theorem dX6_tell_62 : decode cX6_tell 62 = .ok (.ireturn, 1) := by decide +kernel
theorem dX6_tell_63 : decode cX6_tell 63 = .ok (.aload_n 0, 1) := by decide +kernel
theorem dX6_tell_64 : decode cX6_tell 64 = .ok (.getfield 29, 3) := by decide +kernel
theorem dX6_tell_67 : decode cX6_tell 67 = .ok (.iload_n 1, 1) := by decide +kernel
theorem dX6_tell_68 : decode cX6_tell 68 = .ok (.invokevirtual 63, 3) := by decide +kernel
theorem dX6_tell_71 : decode cX6_tell 71 = .ok (.ireturn, 1) := by decide +kernel
theorem dX6_tell_72 : decode cX6_tell 72 = .ok (.aload_n 0, 1) := by decide +kernel
theorem dX6_tell_73 : decode cX6_tell 73 = .ok (.getfield 32, 3) := by decide +kernel
theorem dX6_tell_76 : decode cX6_tell 76 = .ok (.iload_n 1, 1) := by decide +kernel
theorem dX6_tell_77 : decode cX6_tell 77 = .ok (.invokevirtual 63, 3) := by decide +kernel
theorem dX6_tell_80 : decode cX6_tell 80 = .ok (.ireturn, 1) := by decide +kernel
theorem dX6_countLeft_0 : decode cX6_countLeft 0 = .ok (.iconst 0, 1) := by decide +kernel
theorem dX6_countLeft_1 : decode cX6_countLeft 1 = .ok (.istore_n 1, 1) := by decide +kernel
theorem dX6_countLeft_2 : decode cX6_countLeft 2 = .ok (.iconst 0, 1) := by decide +kernel
theorem dX6_countLeft_3 : decode cX6_countLeft 3 = .ok (.istore_n 2, 1) := by decide +kernel
theorem dX6_countLeft_4 : decode cX6_countLeft 4 = .ok (.iload_n 2, 1) := by decide +kernel
theorem dX6_countLeft_5 : decode cX6_countLeft 5 = .ok (.aload_n 0, 1) := by decide +kernel
theorem dX6_countLeft_6 : decode cX6_countLeft 6 = .ok (.invokevirtual 56, 3) := by decide +kernel
theorem dX6_countLeft_9 : decode cX6_countLeft 9 = .ok (.if_icmp .ge 25, 3) := by decide +kernel
theorem dX6_countLeft_12 : decode cX6_countLeft 12 = .ok (.iload_n 1, 1) := by decide +kernel
theorem dX6_countLeft_13 : decode cX6_countLeft 13 = .ok (.aload_n 0, 1) := by decide +kernel
theorem dX6_countLeft_14 : decode cX6_countLeft 14 = .ok (.iload_n 2, 1) := by decide +kernel
theorem dX6_countLeft_15 : decode cX6_countLeft 15 = .ok (.invokevirtual 86, 3) := by decide +kernel
theorem dX6_countLeft_18 : decode cX6_countLeft 18 = .ok (.ifCond .eq 7, 3) := by decide +kernel
theorem dX6_countLeft_21 : decode cX6_countLeft 21 = .ok (.iconst 0, 1) := by decide +kernel
theorem dX6_countLeft_22 : decode cX6_countLeft 22 = .ok (.goto 4, 3) := by decide +kernel
theorem dX6_countLeft_25 : decode cX6_countLeft 25 = .ok (.iconst 1, 1) := by decide +kernel
theorem dX6_countLeft_26 : decode cX6_countLeft 26 = .ok (.iadd, 1) := by decide +kernel
theorem dX6_countLeft_27 : decode cX6_countLeft 27 = .ok (.istore_n 1, 1) := by decide +kernel
theorem dX6_countLeft_28 : decode cX6_countLeft 28 = .ok (.iinc 2 1, 3) := by decide +kernel
theorem dX6_countLeft_31 : decode cX6_countLeft 31 = .ok (.goto (-27), 3) := by decide +kernel
theorem dX6_countLeft_34 : decode cX6_countLeft 34 = .ok (.iload_n 1, 1) := by decide +kernel
theorem dX6_countLeft_35 : decode cX6_countLeft 35 = .ok (.ireturn, 1) := by decide +kernel
theorem dX6_isSeen_0 : decode cX6_isSeen 0 = .ok (.aload_n 0, 1) := by decide +kernel
theorem dX6_isSeen_1 : decode cX6_isSeen 1 = .ok (.iload_n 1, 1) := by decide +kernel
theorem dX6_isSeen_2 : decode cX6_isSeen 2 = .ok (.invokevirtual 83, 3) := by decide +kernel
theorem dX6_isSeen_5 : decode cX6_isSeen 5 = .ok (.iload_n 2, 1) := by decide +kernel
theorem dX6_isSeen_6 : decode cX6_isSeen 6 = .ok (.if_icmp .ne 11, 3) := by decide +kernel
theorem dX6_isSeen_9 : decode cX6_isSeen 9 = .ok (.aload_n 0, 1) := by decide +kernel
theorem dX6_isSeen_10 : decode cX6_isSeen 10 = .ok (.iload_n 1, 1) := by decide +kernel
theorem dX6_isSeen_11 : decode cX6_isSeen 11 = .ok (.invokevirtual 86, 3) := by decide +kernel
theorem dX6_isSeen_14 : decode cX6_isSeen 14 = .ok (.ifCond .eq 5, 3) := by decide +kernel
theorem dX6_isSeen_17 : decode cX6_isSeen 17 = .ok (.iconst 0, 1) := by decide +kernel
theorem dX6_isSeen_18 : decode cX6_isSeen 18 = .ok (.ireturn, 1) := by decide +kernel
theorem dX6_isSeen_19 : decode cX6_isSeen 19 = .ok (.iload_n 3, 1) := by decide +kernel
theorem dX6_isSeen_20 : decode cX6_isSeen 20 = .ok (.iconst (-1), 1) := by decide +kernel
theorem dX6_isSeen_21 : decode cX6_isSeen 21 = .ok (.if_icmp .ne 8, 3) := by decide +kernel
theorem dX6_isSeen_24 : decode cX6_isSeen 24 = .ok (.ldc 79, 2) := by decide +kernel
theorem dX6_isSeen_26 : decode cX6_isSeen 26 = .ok (.goto 7, 3) := by decide +kernel
theorem dX6_isSeen_29 : decode cX6_isSeen 29 = .ok (.iload_n 3, 1) := by decide +kernel
theorem dX6_isSeen_30 : decode cX6_isSeen 30 = .ok (.invokestatic 90, 3) := by decide +kernel
theorem dX6_isSeen_33 : decode cX6_isSeen 33 = .ok (.istore 4, 2) := by decide +kernel
theorem dX6_isSeen_35 : decode cX6_isSeen 35 = .ok (.aload_n 0, 1) := by decide +kernel
theorem dX6_isSeen_36 : decode cX6_isSeen 36 = .ok (.getfield 35, 3) := by decide +kernel
theorem dX6_isSeen_39 : decode cX6_isSeen 39 = .ok (.iload_n 1, 1) := by decide +kernel
theorem dX6_isSeen_40 : decode cX6_isSeen 40 = .ok (.invokevirtual 63, 3) := by decide +kernel
theorem dX6_isSeen_43 : decode cX6_isSeen 43 = .ok (.iload 4, 2) := by decide +kernel
theorem dX6_isSeen_45 : decode cX6_isSeen 45 = .ok (.iand, 1) := by decide +kernel
theorem dX6_isSeen_46 : decode cX6_isSeen 46 = .ok (.ifCond .ne 5, 3) := by decide +kernel
theorem dX6_isSeen_49 : decode cX6_isSeen 49 = .ok (.iconst 0, 1) := by decide +kernel
theorem dX6_isSeen_50 : decode cX6_isSeen 50 = .ok (.ireturn, 1) := by decide +kernel
theorem dX6_isSeen_51 : decode cX6_isSeen 51 = .ok (.iload_n 3, 1) := by decide +kernel
theorem dX6_isSeen_52 : decode cX6_isSeen 52 = .ok (.iconst (-1), 1) := by decide +kernel
theorem dX6_isSeen_53 : decode cX6_isSeen 53 = .ok (.if_icmp .eq 29, 3) := by decide +kernel
theorem dX6_isSeen_56 : decode cX6_isSeen 56 = .ok (.aload_n 0, 1) := by decide +kernel
theorem dX6_isSeen_57 : decode cX6_isSeen 57 = .ok (.iload_n 1, 1) := by decide +kernel
theorem dX6_isSeen_58 : decode cX6_isSeen 58 = .ok (.invokevirtual 59, 3) := by decide +kernel
theorem dX6_isSeen_61 : decode cX6_isSeen 61 = .ok (.invokestatic 93, 3) := by decide +kernel
theorem dX6_isSeen_64 : decode cX6_isSeen 64 = .ok (.ifCond .eq 18, 3) := by decide +kernel
theorem dX6_isSeen_67 : decode cX6_isSeen 67 = .ok (.aload_n 0, 1) := by decide +kernel
theorem dX6_isSeen_68 : decode cX6_isSeen 68 = .ok (.getfield 48, 3) := by decide +kernel
theorem dX6_isSeen_71 : decode cX6_isSeen 71 = .ok (.iload_n 3, 1) := by decide +kernel
theorem dX6_isSeen_72 : decode cX6_isSeen 72 = .ok (.invokevirtual 96, 3) := by decide +kernel
theorem dX6_isSeen_75 : decode cX6_isSeen 75 = .ok (.aload_n 0, 1) := by decide +kernel
theorem dX6_isSeen_76 : decode cX6_isSeen 76 = .ok (.getfield 45, 3) := by decide +kernel
theorem dX6_isSeen_79 : decode cX6_isSeen 79 = .ok (.if_icmp .lt 7, 3) := by decide +kernel
theorem dX6_isSeen_82 : decode cX6_isSeen 82 = .ok (.iconst 1, 1) := by decide +kernel
theorem dX6_isSeen_83 : decode cX6_isSeen 83 = .ok (.goto 4, 3) := by decide +kernel
theorem dX6_isSeen_86 : decode cX6_isSeen 86 = .ok (.iconst 0, 1) := by decide +kernel
theorem dX6_isSeen_87 : decode cX6_isSeen 87 = .ok (.ireturn, 1) := by decide +kernel
theorem dX6_allSeen_0 : decode cX6_allSeen 0 = .ok (.iconst 0, 1) := by decide +kernel
theorem dX6_allSeen_1 : decode cX6_allSeen 1 = .ok (.istore_n 3, 1) := by decide +kernel
theorem dX6_allSeen_2 : decode cX6_allSeen 2 = .ok (.iconst 0, 1) := by decide +kernel
theorem dX6_allSeen_3 : decode cX6_allSeen 3 = .ok (.istore 4, 2) := by decide +kernel
theorem dX6_allSeen_5 : decode cX6_allSeen 5 = .ok (.iload 4, 2) := by decide +kernel
theorem dX6_allSeen_7 : decode cX6_allSeen 7 = .ok (.aload_n 0, 1) := by decide +kernel
theorem dX6_allSeen_8 : decode cX6_allSeen 8 = .ok (.invokevirtual 56, 3) := by decide +kernel
theorem dX6_allSeen_11 : decode cX6_allSeen 11 = .ok (.if_icmp .ge 31, 3) := by decide +kernel
theorem dX6_allSeen_14 : decode cX6_allSeen 14 = .ok (.iload_n 3, 1) := by decide +kernel
theorem dX6_allSeen_15 : decode cX6_allSeen 15 = .ok (.aload_n 0, 1) := by decide +kernel
theorem dX6_allSeen_16 : decode cX6_allSeen 16 = .ok (.iload 4, 2) := by decide +kernel
theorem dX6_allSeen_18 : decode cX6_allSeen 18 = .ok (.iload_n 1, 1) := by decide +kernel
theorem dX6_allSeen_19 : decode cX6_allSeen 19 = .ok (.iload_n 2, 1) := by decide +kernel
theorem dX6_allSeen_20 : decode cX6_allSeen 20 = .ok (.invokevirtual 101, 3) := by decide +kernel
theorem dX6_allSeen_23 : decode cX6_allSeen 23 = .ok (.ifCond .eq 10, 3) := by decide +kernel
theorem dX6_allSeen_26 : decode cX6_allSeen 26 = .ok (.iconst 1, 1) := by decide +kernel
theorem dX6_allSeen_27 : decode cX6_allSeen 27 = .ok (.iload 4, 2) := by decide +kernel
theorem dX6_allSeen_29 : decode cX6_allSeen 29 = .ok (.ishl, 1) := by decide +kernel
theorem dX6_allSeen_30 : decode cX6_allSeen 30 = .ok (.goto 4, 3) := by decide +kernel
theorem dX6_allSeen_33 : decode cX6_allSeen 33 = .ok (.iconst 0, 1) := by decide +kernel
theorem dX6_allSeen_34 : decode cX6_allSeen 34 = .ok (.ior, 1) := by decide +kernel
theorem dX6_allSeen_35 : decode cX6_allSeen 35 = .ok (.istore_n 3, 1) := by decide +kernel
theorem dX6_allSeen_36 : decode cX6_allSeen 36 = .ok (.iinc 4 1, 3) := by decide +kernel
theorem dX6_allSeen_39 : decode cX6_allSeen 39 = .ok (.goto (-34), 3) := by decide +kernel
theorem dX6_allSeen_42 : decode cX6_allSeen 42 = .ok (.iload_n 3, 1) := by decide +kernel
theorem dX6_allSeen_43 : decode cX6_allSeen 43 = .ok (.ireturn, 1) := by decide +kernel
theorem dX6_kindsSeen_0 : decode cX6_kindsSeen 0 = .ok (.iconst 0, 1) := by decide +kernel
theorem dX6_kindsSeen_1 : decode cX6_kindsSeen 1 = .ok (.istore_n 3, 1) := by decide +kernel
theorem dX6_kindsSeen_2 : decode cX6_kindsSeen 2 = .ok (.iconst 0, 1) := by decide +kernel
theorem dX6_kindsSeen_3 : decode cX6_kindsSeen 3 = .ok (.istore 4, 2) := by decide +kernel
theorem dX6_kindsSeen_5 : decode cX6_kindsSeen 5 = .ok (.iload 4, 2) := by decide +kernel
theorem dX6_kindsSeen_7 : decode cX6_kindsSeen 7 = .ok (.aload_n 0, 1) := by decide +kernel
theorem dX6_kindsSeen_8 : decode cX6_kindsSeen 8 = .ok (.invokevirtual 56, 3) := by decide +kernel
theorem dX6_kindsSeen_11 : decode cX6_kindsSeen 11 = .ok (.if_icmp .ge 35, 3) := by decide +kernel
theorem dX6_kindsSeen_14 : decode cX6_kindsSeen 14 = .ok (.iload_n 3, 1) := by decide +kernel
theorem dX6_kindsSeen_15 : decode cX6_kindsSeen 15 = .ok (.aload_n 0, 1) := by decide +kernel
theorem dX6_kindsSeen_16 : decode cX6_kindsSeen 16 = .ok (.iload 4, 2) := by decide +kernel
theorem dX6_kindsSeen_18 : decode cX6_kindsSeen 18 = .ok (.iload_n 1, 1) := by decide +kernel
theorem dX6_kindsSeen_19 : decode cX6_kindsSeen 19 = .ok (.iload_n 2, 1) := by decide +kernel
theorem dX6_kindsSeen_20 : decode cX6_kindsSeen 20 = .ok (.invokevirtual 101, 3) := by decide +kernel
theorem dX6_kindsSeen_23 : decode cX6_kindsSeen 23 = .ok (.ifCond .eq 14, 3) := by decide +kernel
theorem dX6_kindsSeen_26 : decode cX6_kindsSeen 26 = .ok (.iconst 1, 1) := by decide +kernel
theorem dX6_kindsSeen_27 : decode cX6_kindsSeen 27 = .ok (.aload_n 0, 1) := by decide +kernel
theorem dX6_kindsSeen_28 : decode cX6_kindsSeen 28 = .ok (.iload 4, 2) := by decide +kernel
theorem dX6_kindsSeen_30 : decode cX6_kindsSeen 30 = .ok (.invokevirtual 59, 3) := by decide +kernel
theorem dX6_kindsSeen_33 : decode cX6_kindsSeen 33 = .ok (.ishl, 1) := by decide +kernel
theorem dX6_kindsSeen_34 : decode cX6_kindsSeen 34 = .ok (.goto 4, 3) := by decide +kernel
theorem dX6_kindsSeen_37 : decode cX6_kindsSeen 37 = .ok (.iconst 0, 1) := by decide +kernel
theorem dX6_kindsSeen_38 : decode cX6_kindsSeen 38 = .ok (.ior, 1) := by decide +kernel
theorem dX6_kindsSeen_39 : decode cX6_kindsSeen 39 = .ok (.istore_n 3, 1) := by decide +kernel
theorem dX6_kindsSeen_40 : decode cX6_kindsSeen 40 = .ok (.iinc 4 1, 3) := by decide +kernel
theorem dX6_kindsSeen_43 : decode cX6_kindsSeen 43 = .ok (.goto (-38), 3) := by decide +kernel
theorem dX6_kindsSeen_46 : decode cX6_kindsSeen 46 = .ok (.iload_n 3, 1) := by decide +kernel
theorem dX6_kindsSeen_47 : decode cX6_kindsSeen 47 = .ok (.ireturn, 1) := by decide +kernel
theorem dX7_init_0 : decode cX7_init 0 = .ok (.aload_n 0, 1) := by decide +kernel
theorem dX7_init_1 : decode cX7_init 1 = .ok (.invokespecial 3, 3) := by decide +kernel
theorem dX7_init_4 : decode cX7_init 4 = .ok (.aload_n 0, 1) := by decide +kernel
theorem dX7_init_5 : decode cX7_init 5 = .ok (.new 9, 3) := by decide +kernel
theorem dX7_init_8 : decode cX7_init 8 = .ok (.dup, 1) := by decide +kernel
theorem dX7_init_9 : decode cX7_init 9 = .ok (.bipush 36, 2) := by decide +kernel
theorem dX7_init_11 : decode cX7_init 11 = .ok (.invokespecial 13, 3) := by decide +kernel
theorem dX7_init_14 : decode cX7_init 14 = .ok (.invokevirtual 16, 3) := by decide +kernel
theorem dX7_init_17 : decode cX7_init 17 = .ok (.putfield 20, 3) := by decide +kernel
theorem dX7_init_20 : decode cX7_init 20 = .ok (.aload_n 0, 1) := by decide +kernel
theorem dX7_init_21 : decode cX7_init 21 = .ok (.new 9, 3) := by decide +kernel
theorem dX7_init_24 : decode cX7_init 24 = .ok (.dup, 1) := by decide +kernel
theorem dX7_init_25 : decode cX7_init 25 = .ok (.bipush 6, 2) := by decide +kernel
theorem dX7_init_27 : decode cX7_init 27 = .ok (.invokespecial 13, 3) := by decide +kernel
theorem dX7_init_30 : decode cX7_init 30 = .ok (.putfield 24, 3) := by decide +kernel
theorem dX7_init_33 : decode cX7_init 33 = .ok (.aload_n 0, 1) := by decide +kernel
theorem dX7_init_34 : decode cX7_init 34 = .ok (.new 9, 3) := by decide +kernel
theorem dX7_init_37 : decode cX7_init 37 = .ok (.dup, 1) := by decide +kernel
theorem dX7_init_38 : decode cX7_init 38 = .ok (.bipush 6, 2) := by decide +kernel
theorem dX7_init_40 : decode cX7_init 40 = .ok (.invokespecial 13, 3) := by decide +kernel
theorem dX7_init_43 : decode cX7_init 43 = .ok (.putfield 27, 3) := by decide +kernel
theorem dX7_init_46 : decode cX7_init 46 = .ok (.aload_n 0, 1) := by decide +kernel
theorem dX7_init_47 : decode cX7_init 47 = .ok (.bipush 12, 2) := by decide +kernel
theorem dX7_init_49 : decode cX7_init 49 = .ok (.putfield 30, 3) := by decide +kernel
theorem dX7_init_52 : decode cX7_init 52 = .ok (.aload_n 0, 1) := by decide +kernel
theorem dX7_init_53 : decode cX7_init 53 = .ok (.aload_n 1, 1) := by decide +kernel
theorem dX7_init_54 : decode cX7_init 54 = .ok (.putfield 34, 3) := by decide +kernel
theorem dX7_init_57 : decode cX7_init 57 = .ok (.aload_n 0, 1) := by decide +kernel
theorem dX7_init_58 : decode cX7_init 58 = .ok (.aload_n 2, 1) := by decide +kernel
theorem dX7_init_59 : decode cX7_init 59 = .ok (.putfield 38, 3) := by decide +kernel
theorem dX7_init_62 : decode cX7_init 62 = .ok (.return_, 1) := by decide +kernel
theorem dX7_trailCount_0 : decode cX7_trailCount 0 = .ok (.aload_n 0, 1) := by decide +kernel
theorem dX7_trailCount_1 : decode cX7_trailCount 1 = .ok (.getfield 24, 3) := by decide +kernel
theorem dX7_trailCount_4 : decode cX7_trailCount 4 = .ok (.invokevirtual 42, 3) := by decide +kernel
theorem dX7_trailCount_7 : decode cX7_trailCount 7 = .ok (.ireturn, 1) := by decide +kernel
theorem dX7_sizeOf_0 : decode cX7_sizeOf 0 = .ok (.aload_n 0, 1) := by decide +kernel
theorem dX7_sizeOf_1 : decode cX7_sizeOf 1 = .ok (.getfield 24, 3) := by decide +kernel
theorem dX7_sizeOf_4 : decode cX7_sizeOf 4 = .ok (.iload_n 1, 1) := by decide +kernel
theorem dX7_sizeOf_5 : decode cX7_sizeOf 5 = .ok (.invokevirtual 46, 3) := by decide +kernel
theorem dX7_sizeOf_8 : decode cX7_sizeOf 8 = .ok (.ireturn, 1) := by decide +kernel
theorem dX7_changeReach_0 : decode cX7_changeReach 0 = .ok (.aload_n 0, 1) := by decide +kernel
theorem dX7_changeReach_1 : decode cX7_changeReach 1 = .ok (.getfield 30, 3) := by decide +kernel
theorem dX7_changeReach_4 : decode cX7_changeReach 4 = .ok (.istore_n 2, 1) := by decide +kernel
theorem dX7_changeReach_5 : decode cX7_changeReach 5 = .ok (.aload_n 0, 1) := by decide +kernel
theorem dX7_changeReach_6 : decode cX7_changeReach 6 = .ok (.iload_n 1, 1) := by decide +kernel
theorem dX7_changeReach_7 : decode cX7_changeReach 7 = .ok (.putfield 30, 3) := by decide +kernel
theorem dX7_changeReach_10 : decode cX7_changeReach 10 = .ok (.iload_n 2, 1) := by decide +kernel
theorem dX7_changeReach_11 : decode cX7_changeReach 11 = .ok (.ireturn, 1) := by decide +kernel
theorem dX7_begin_0 : decode cX7_begin 0 = .ok (.aload_n 0, 1) := by decide +kernel
theorem dX7_begin_1 : decode cX7_begin 1 = .ok (.invokevirtual 50, 3) := by decide +kernel
theorem dX7_begin_4 : decode cX7_begin 4 = .ok (.istore_n 3, 1) := by decide +kernel
theorem dX7_begin_5 : decode cX7_begin 5 = .ok (.aload_n 0, 1) := by decide +kernel
theorem dX7_begin_6 : decode cX7_begin 6 = .ok (.getfield 24, 3) := by decide +kernel
theorem dX7_begin_9 : decode cX7_begin 9 = .ok (.iconst 0, 1) := by decide +kernel
theorem dX7_begin_10 : decode cX7_begin 10 = .ok (.invokevirtual 53, 3) := by decide +kernel
theorem dX7_begin_13 : decode cX7_begin 13 = .ok (.pop, 1) := by decide +kernel
theorem dX7_begin_14 : decode cX7_begin 14 = .ok (.aload_n 0, 1) := by decide +kernel
theorem dX7_begin_15 : decode cX7_begin 15 = .ok (.getfield 27, 3) := by decide +kernel
theorem dX7_begin_18 : decode cX7_begin 18 = .ok (.iload_n 2, 1) := by decide +kernel
theorem dX7_begin_19 : decode cX7_begin 19 = .ok (.ifCond .eq 7, 3) := by decide +kernel
theorem dX7_begin_22 : decode cX7_begin 22 = .ok (.iconst 1, 1) := by decide +kernel
theorem dX7_begin_23 : decode cX7_begin 23 = .ok (.goto 4, 3) := by decide +kernel
theorem dX7_begin_26 : decode cX7_begin 26 = .ok (.iconst 0, 1) := by decide +kernel
theorem dX7_begin_27 : decode cX7_begin 27 = .ok (.invokevirtual 53, 3) := by decide +kernel
theorem dX7_begin_30 : decode cX7_begin 30 = .ok (.pop, 1) := by decide +kernel
theorem dX7_begin_31 : decode cX7_begin 31 = .ok (.aload_n 0, 1) := by decide +kernel
theorem dX7_begin_32 : decode cX7_begin 32 = .ok (.iload_n 3, 1) := by decide +kernel
theorem dX7_begin_33 : decode cX7_begin 33 = .ok (.iload_n 1, 1) := by decide +kernel
theorem dX7_begin_34 : decode cX7_begin 34 = .ok (.invokevirtual 56, 3) := by decide +kernel
theorem dX7_begin_37 : decode cX7_begin 37 = .ok (.pop, 1) := by decide +kernel
theorem dX7_begin_38 : decode cX7_begin 38 = .ok (.iload_n 3, 1) := by decide +kernel
theorem dX7_begin_39 : decode cX7_begin 39 = .ok (.ireturn, 1) := by decide +kernel
theorem dX7_placeAt_0 : decode cX7_placeAt 0 = .ok (.iload_n 2, 1) := by decide +kernel
theorem dX7_placeAt_1 : decode cX7_placeAt 1 = .ok (.ifCond .lt 28, 3) := by decide +kernel
theorem dX7_placeAt_4 : decode cX7_placeAt 4 = .ok (.iload_n 2, 1) := by decide +kernel
theorem dX7_placeAt_5 : decode cX7_placeAt 5 = .ok (.aload_n 0, 1) := by decide +kernel
theorem dX7_placeAt_6 : decode cX7_placeAt 6 = .ok (.iload_n 1, 1) := by decide +kernel
theorem dX7_placeAt_7 : decode cX7_placeAt 7 = .ok (.invokevirtual 60, 3) := by decide +kernel
theorem dX7_placeAt_10 : decode cX7_placeAt 10 = .ok (.if_icmp .ge 19, 3) := by decide +kernel
theorem dX7_placeAt_13 : decode cX7_placeAt 13 = .ok (.aload_n 0, 1) := by decide +kernel
theorem dX7_placeAt_14 : decode cX7_placeAt 14 = .ok (.getfield 20, 3) := by decide +kernel
theorem dX7_placeAt_17 : decode cX7_placeAt 17 = .ok (.iload_n 1, 1) := by decide +kernel
theorem dX7_placeAt_18 : decode cX7_placeAt 18 = .ok (.bipush 6, 2) := by decide +kernel
theorem dX7_placeAt_20 : decode cX7_placeAt 20 = .ok (.imul, 1) := by decide +kernel
theorem dX7_placeAt_21 : decode cX7_placeAt 21 = .ok (.iload_n 2, 1) := by decide +kernel
theorem dX7_placeAt_22 : decode cX7_placeAt 22 = .ok (.iadd, 1) := by decide +kernel
theorem dX7_placeAt_23 : decode cX7_placeAt 23 = .ok (.invokevirtual 46, 3) := by decide +kernel
theorem dX7_placeAt_26 : decode cX7_placeAt 26 = .ok (.goto 4, 3) := by decide +kernel
theorem dX7_placeAt_29 : decode cX7_placeAt 29 = .ok (.iconst (-1), 1) := by decide +kernel
theorem dX7_placeAt_30 : decode cX7_placeAt 30 = .ok (.ireturn, 1) := by decide +kernel
theorem dX7_indexOf_0 : decode cX7_indexOf 0 = .ok (.iconst 0, 1) := by decide +kernel
theorem dX7_indexOf_1 : decode cX7_indexOf 1 = .ok (.istore_n 3, 1) := by decide +kernel
theorem dX7_indexOf_2 : decode cX7_indexOf 2 = .ok (.iload_n 3, 1) := by decide +kernel
theorem dX7_indexOf_3 : decode cX7_indexOf 3 = .ok (.aload_n 0, 1) := by decide +kernel
theorem dX7_indexOf_4 : decode cX7_indexOf 4 = .ok (.iload_n 1, 1) := by decide +kernel
theorem dX7_indexOf_5 : decode cX7_indexOf 5 = .ok (.invokevirtual 60, 3) := by decide +kernel
theorem dX7_indexOf_8 : decode cX7_indexOf 8 = .ok (.if_icmp .ge 21, 3) := by decide +kernel
theorem dX7_indexOf_11 : decode cX7_indexOf 11 = .ok (.aload_n 0, 1) := by decide +kernel
theorem dX7_indexOf_12 : decode cX7_indexOf 12 = .ok (.iload_n 1, 1) := by decide +kernel
theorem dX7_indexOf_13 : decode cX7_indexOf 13 = .ok (.iload_n 3, 1) := by decide +kernel
theorem dX7_indexOf_14 : decode cX7_indexOf 14 = .ok (.invokevirtual 63, 3) := by decide +kernel
theorem dX7_indexOf_17 : decode cX7_indexOf 17 = .ok (.iload_n 2, 1) := by decide +kernel
theorem dX7_indexOf_18 : decode cX7_indexOf 18 = .ok (.if_icmp .ne 5, 3) := by decide +kernel
theorem dX7_indexOf_21 : decode cX7_indexOf 21 = .ok (.iload_n 3, 1) := by decide +kernel
theorem dX7_indexOf_22 : decode cX7_indexOf 22 = .ok (.ireturn, 1) := by decide +kernel
theorem dX7_indexOf_23 : decode cX7_indexOf 23 = .ok (.iinc 3 1, 3) := by decide +kernel
theorem dX7_indexOf_26 : decode cX7_indexOf 26 = .ok (.goto (-24), 3) := by decide +kernel
theorem dX7_indexOf_29 : decode cX7_indexOf 29 = .ok (.iconst (-1), 1) := by decide +kernel
theorem dX7_indexOf_30 : decode cX7_indexOf 30 = .ok (.ireturn, 1) := by decide +kernel
theorem dX7_mayGoOnTo_0 : decode cX7_mayGoOnTo 0 = .ok (.aload_n 0, 1) := by decide +kernel
theorem dX7_mayGoOnTo_1 : decode cX7_mayGoOnTo 1 = .ok (.iload_n 1, 1) := by decide +kernel
theorem dX7_mayGoOnTo_2 : decode cX7_mayGoOnTo 2 = .ok (.aload_n 0, 1) := by decide +kernel
theorem dX7_mayGoOnTo_3 : decode cX7_mayGoOnTo 3 = .ok (.iload_n 1, 1) := by decide +kernel
theorem dX7_mayGoOnTo_4 : decode cX7_mayGoOnTo 4 = .ok (.invokevirtual 60, 3) := by decide +kernel
theorem dX7_mayGoOnTo_7 : decode cX7_mayGoOnTo 7 = .ok (.iconst 1, 1) := by decide +kernel
theorem dX7_mayGoOnTo_8 : decode cX7_mayGoOnTo 8 = .ok (.isub, 1) := by decide +kernel
theorem dX7_mayGoOnTo_9 : decode cX7_mayGoOnTo 9 = .ok (.invokevirtual 63, 3) := by decide +kernel
theorem dX7_mayGoOnTo_12 : decode cX7_mayGoOnTo 12 = .ok (.istore_n 3, 1) := by decide +kernel
theorem dX7_mayGoOnTo_13 : decode cX7_mayGoOnTo 13 = .ok (.aload_n 0, 1) := by decide +kernel
theorem dX7_mayGoOnTo_14 : decode cX7_mayGoOnTo 14 = .ok (.iload_n 1, 1) := by decide +kernel
theorem dX7_mayGoOnTo_15 : decode cX7_mayGoOnTo 15 = .ok (.iload_n 2, 1) := by decide +kernel
theorem dX7_mayGoOnTo_16 : decode cX7_mayGoOnTo 16 = .ok (.invokevirtual 66, 3) := by decide +kernel
theorem dX7_mayGoOnTo_19 : decode cX7_mayGoOnTo 19 = .ok (.iconst (-1), 1) := by decide +kernel
theorem dX7_mayGoOnTo_20 : decode cX7_mayGoOnTo 20 = .ok (.if_icmp .ne 20, 3) := by decide +kernel
theorem dX7_mayGoOnTo_23 : decode cX7_mayGoOnTo 23 = .ok (.aload_n 0, 1) := by decide +kernel
theorem dX7_mayGoOnTo_24 : decode cX7_mayGoOnTo 24 = .ok (.getfield 34, 3) := by decide +kernel
theorem dX7_mayGoOnTo_27 : decode cX7_mayGoOnTo 27 = .ok (.iload_n 3, 1) := by decide +kernel
theorem dX7_mayGoOnTo_28 : decode cX7_mayGoOnTo 28 = .ok (.iload_n 2, 1) := by decide +kernel
theorem dX7_mayGoOnTo_29 : decode cX7_mayGoOnTo 29 = .ok (.invokevirtual 69, 3) := by decide +kernel
theorem dX7_mayGoOnTo_32 : decode cX7_mayGoOnTo 32 = .ok (.iconst (-1), 1) := by decide +kernel
theorem dX7_mayGoOnTo_33 : decode cX7_mayGoOnTo 33 = .ok (.if_icmp .eq 7, 3) := by decide +kernel
theorem dX7_mayGoOnTo_36 : decode cX7_mayGoOnTo 36 = .ok (.iconst 1, 1) := by decide +kernel
theorem dX7_mayGoOnTo_37 : decode cX7_mayGoOnTo 37 = .ok (.goto 4, 3) := by decide +kernel
theorem dX7_mayGoOnTo_40 : decode cX7_mayGoOnTo 40 = .ok (.iconst 0, 1) := by decide +kernel
theorem dX7_mayGoOnTo_41 : decode cX7_mayGoOnTo 41 = .ok (.ireturn, 1) := by decide +kernel
theorem dX7_goOnTo_0 : decode cX7_goOnTo 0 = .ok (.aload_n 0, 1) := by decide +kernel
theorem dX7_goOnTo_1 : decode cX7_goOnTo 1 = .ok (.iload_n 1, 1) := by decide +kernel
theorem dX7_goOnTo_2 : decode cX7_goOnTo 2 = .ok (.invokevirtual 60, 3) := by decide +kernel
theorem dX7_goOnTo_5 : decode cX7_goOnTo 5 = .ok (.istore_n 3, 1) := by decide +kernel
theorem dX7_goOnTo_6 : decode cX7_goOnTo 6 = .ok (.aload_n 0, 1) := by decide +kernel
theorem dX7_goOnTo_7 : decode cX7_goOnTo 7 = .ok (.getfield 20, 3) := by decide +kernel
theorem dX7_goOnTo_10 : decode cX7_goOnTo 10 = .ok (.iload_n 1, 1) := by decide +kernel
theorem dX7_goOnTo_11 : decode cX7_goOnTo 11 = .ok (.bipush 6, 2) := by decide +kernel
theorem dX7_goOnTo_13 : decode cX7_goOnTo 13 = .ok (.imul, 1) := by decide +kernel
theorem dX7_goOnTo_14 : decode cX7_goOnTo 14 = .ok (.iload_n 3, 1) := by decide +kernel
theorem dX7_goOnTo_15 : decode cX7_goOnTo 15 = .ok (.iadd, 1) := by decide +kernel
theorem dX7_goOnTo_16 : decode cX7_goOnTo 16 = .ok (.iload_n 2, 1) := by decide +kernel
theorem dX7_goOnTo_17 : decode cX7_goOnTo 17 = .ok (.invokevirtual 74, 3) := by decide +kernel
theorem dX7_goOnTo_20 : decode cX7_goOnTo 20 = .ok (.aload_n 0, 1) := by decide +kernel
theorem dX7_goOnTo_21 : decode cX7_goOnTo 21 = .ok (.getfield 24, 3) := by decide +kernel
theorem dX7_goOnTo_24 : decode cX7_goOnTo 24 = .ok (.iload_n 1, 1) := by decide +kernel
theorem dX7_goOnTo_25 : decode cX7_goOnTo 25 = .ok (.iload_n 3, 1) := by decide +kernel
theorem dX7_goOnTo_26 : decode cX7_goOnTo 26 = .ok (.iconst 1, 1) := by decide +kernel
theorem dX7_goOnTo_27 : decode cX7_goOnTo 27 = .ok (.iadd, 1) := by decide +kernel
theorem dX7_goOnTo_28 : decode cX7_goOnTo 28 = .ok (.invokevirtual 74, 3) := by decide +kernel
theorem dX7_goOnTo_31 : decode cX7_goOnTo 31 = .ok (.iload_n 3, 1) := by decide +kernel
theorem dX7_goOnTo_32 : decode cX7_goOnTo 32 = .ok (.iconst 1, 1) := by decide +kernel
theorem dX7_goOnTo_33 : decode cX7_goOnTo 33 = .ok (.iadd, 1) := by decide +kernel
theorem dX7_goOnTo_34 : decode cX7_goOnTo 34 = .ok (.ireturn, 1) := by decide +kernel
theorem dX7_faultsOf_0 : decode cX7_faultsOf 0 = .ok (.aload_n 0, 1) := by decide +kernel
theorem dX7_faultsOf_1 : decode cX7_faultsOf 1 = .ok (.iload_n 1, 1) := by decide +kernel
theorem dX7_faultsOf_2 : decode cX7_faultsOf 2 = .ok (.invokevirtual 78, 3) := by decide +kernel
theorem dX7_faultsOf_5 : decode cX7_faultsOf 5 = .ok (.ifCond .ne 5, 3) := by decide +kernel
theorem dX7_faultsOf_8 : decode cX7_faultsOf 8 = .ok (.iconst 0, 1) := by decide +kernel
theorem dX7_faultsOf_9 : decode cX7_faultsOf 9 = .ok (.ireturn, 1) := by decide +kernel
theorem dX7_faultsOf_10 : decode cX7_faultsOf 10 = .ok (.aload_n 0, 1) := by decide +kernel
theorem dX7_faultsOf_11 : decode cX7_faultsOf 11 = .ok (.getfield 38, 3) := by decide +kernel
theorem dX7_faultsOf_14 : decode cX7_faultsOf 14 = .ok (.aload_n 0, 1) := by decide +kernel
theorem dX7_faultsOf_15 : decode cX7_faultsOf 15 = .ok (.iload_n 1, 1) := by decide +kernel
theorem dX7_faultsOf_16 : decode cX7_faultsOf 16 = .ok (.iconst 0, 1) := by decide +kernel
theorem dX7_faultsOf_17 : decode cX7_faultsOf 17 = .ok (.invokevirtual 63, 3) := by decide +kernel
theorem dX7_faultsOf_20 : decode cX7_faultsOf 20 = .ok (.invokevirtual 82, 3) := by decide +kernel
theorem dX7_faultsOf_23 : decode cX7_faultsOf 23 = .ok (.ifCond .eq 7, 3) := by decide +kernel
theorem dX7_faultsOf_26 : decode cX7_faultsOf 26 = .ok (.iconst 0, 1) := by decide +kernel
theorem dX7_faultsOf_27 : decode cX7_faultsOf 27 = .ok (.goto 4, 3) := by decide +kernel
theorem dX7_faultsOf_30 : decode cX7_faultsOf 30 = .ok (.iconst 1, 1) := by decide +kernel
theorem dX7_faultsOf_31 : decode cX7_faultsOf 31 = .ok (.istore_n 2, 1) := by decide +kernel
theorem dX7_faultsOf_32 : decode cX7_faultsOf 32 = .ok (.iload_n 2, 1) := by decide +kernel
theorem dX7_faultsOf_33 : decode cX7_faultsOf 33 = .ok (.aload_n 0, 1) := by decide +kernel
theorem dX7_faultsOf_34 : decode cX7_faultsOf 34 = .ok (.iload_n 1, 1) := by decide +kernel
theorem dX7_faultsOf_35 : decode cX7_faultsOf 35 = .ok (.invokevirtual 87, 3) := by decide +kernel
theorem dX7_faultsOf_38 : decode cX7_faultsOf 38 = .ok (.ifCond .eq 7, 3) := by decide +kernel
theorem dX7_faultsOf_41 : decode cX7_faultsOf 41 = .ok (.iconst 2, 1) := by decide +kernel
theorem dX7_faultsOf_42 : decode cX7_faultsOf 42 = .ok (.goto 4, 3) := by decide +kernel
theorem dX7_faultsOf_45 : decode cX7_faultsOf 45 = .ok (.iconst 0, 1) := by decide +kernel
theorem dX7_faultsOf_46 : decode cX7_faultsOf 46 = .ok (.ior, 1) := by decide +kernel
theorem dX7_faultsOf_47 : decode cX7_faultsOf 47 = .ok (.istore_n 2, 1) := by decide +kernel
theorem dX7_faultsOf_48 : decode cX7_faultsOf 48 = .ok (.iload_n 2, 1) := by decide +kernel
theorem dX7_faultsOf_49 : decode cX7_faultsOf 49 = .ok (.aload_n 0, 1) := by decide +kernel
theorem dX7_faultsOf_50 : decode cX7_faultsOf 50 = .ok (.iload_n 1, 1) := by decide +kernel
theorem dX7_faultsOf_51 : decode cX7_faultsOf 51 = .ok (.invokevirtual 90, 3) := by decide +kernel
theorem dX7_faultsOf_54 : decode cX7_faultsOf 54 = .ok (.aload_n 0, 1) := by decide +kernel
theorem dX7_faultsOf_55 : decode cX7_faultsOf 55 = .ok (.getfield 30, 3) := by decide +kernel
theorem dX7_faultsOf_58 : decode cX7_faultsOf 58 = .ok (.if_icmp .le 7, 3) := by decide +kernel
theorem dX7_faultsOf_61 : decode cX7_faultsOf 61 = .ok (.iconst 4, 1) := by decide +kernel
theorem dX7_faultsOf_62 : decode cX7_faultsOf 62 = .ok (.goto 4, 3) := by decide +kernel
theorem dX7_faultsOf_65 : decode cX7_faultsOf 65 = .ok (.iconst 0, 1) := by decide +kernel
theorem dX7_faultsOf_66 : decode cX7_faultsOf 66 = .ok (.ior, 1) := by decide +kernel
theorem dX7_faultsOf_67 : decode cX7_faultsOf 67 = .ok (.istore_n 2, 1) := by decide +kernel
theorem dX7_faultsOf_68 : decode cX7_faultsOf 68 = .ok (.iconst 0, 1) := by decide +kernel
theorem dX7_faultsOf_69 : decode cX7_faultsOf 69 = .ok (.istore_n 3, 1) := by decide +kernel
theorem dX7_faultsOf_70 : decode cX7_faultsOf 70 = .ok (.iload_n 3, 1) := by decide +kernel
theorem dX7_faultsOf_71 : decode cX7_faultsOf 71 = .ok (.aload_n 0, 1) := by decide +kernel
theorem dX7_faultsOf_72 : decode cX7_faultsOf 72 = .ok (.invokevirtual 50, 3) := by decide +kernel
theorem dX7_faultsOf_75 : decode cX7_faultsOf 75 = .ok (.if_icmp .ge 40, 3) := by decide +kernel
theorem dX7_faultsOf_78 : decode cX7_faultsOf 78 = .ok (.iload_n 2, 1) := by decide +kernel
theorem dX7_faultsOf_79 : decode cX7_faultsOf 79 = .ok (.iload_n 3, 1) := by decide +kernel
theorem dX7_faultsOf_80 : decode cX7_faultsOf 80 = .ok (.iload_n 1, 1) := by decide +kernel
theorem dX7_faultsOf_81 : decode cX7_faultsOf 81 = .ok (.if_icmp .eq 25, 3) := by decide +kernel
theorem dX7_faultsOf_84 : decode cX7_faultsOf 84 = .ok (.aload_n 0, 1) := by decide +kernel
theorem dX7_faultsOf_85 : decode cX7_faultsOf 85 = .ok (.iload_n 3, 1) := by decide +kernel
theorem dX7_faultsOf_86 : decode cX7_faultsOf 86 = .ok (.invokevirtual 78, 3) := by decide +kernel
theorem dX7_faultsOf_89 : decode cX7_faultsOf 89 = .ok (.ifCond .eq 17, 3) := by decide +kernel
theorem dX7_faultsOf_92 : decode cX7_faultsOf 92 = .ok (.aload_n 0, 1) := by decide +kernel
theorem dX7_faultsOf_93 : decode cX7_faultsOf 93 = .ok (.iload_n 1, 1) := by decide +kernel
theorem dX7_faultsOf_94 : decode cX7_faultsOf 94 = .ok (.iload_n 3, 1) := by decide +kernel
theorem dX7_faultsOf_95 : decode cX7_faultsOf 95 = .ok (.invokevirtual 93, 3) := by decide +kernel
theorem dX7_faultsOf_98 : decode cX7_faultsOf 98 = .ok (.ifCond .eq 8, 3) := by decide +kernel
theorem dX7_faultsOf_101 : decode cX7_faultsOf 101 = .ok (.bipush 8, 2) := by decide +kernel
theorem dX7_faultsOf_103 : decode cX7_faultsOf 103 = .ok (.goto 4, 3) := by decide +kernel
theorem dX7_faultsOf_106 : decode cX7_faultsOf 106 = .ok (.iconst 0, 1) := by decide +kernel
theorem dX7_faultsOf_107 : decode cX7_faultsOf 107 = .ok (.ior, 1) := by decide +kernel
theorem dX7_faultsOf_108 : decode cX7_faultsOf 108 = .ok (.istore_n 2, 1) := by decide +kernel
theorem dX7_faultsOf_109 : decode cX7_faultsOf 109 = .ok (.iinc 3 1, 3) := by decide +kernel
theorem dX7_faultsOf_112 : decode cX7_faultsOf 112 = .ok (.goto (-42), 3) := by decide +kernel
theorem dX7_faultsOf_115 : decode cX7_faultsOf 115 = .ok (.iload_n 2, 1) := by decide +kernel
theorem dX7_faultsOf_116 : decode cX7_faultsOf 116 = .ok (.ireturn, 1) := by decide +kernel
theorem dX7_isFalse_0 : decode cX7_isFalse 0 = .ok (.aload_n 0, 1) := by decide +kernel
theorem dX7_isFalse_1 : decode cX7_isFalse 1 = .ok (.getfield 27, 3) := by decide +kernel
theorem dX7_isFalse_4 : decode cX7_isFalse 4 = .ok (.iload_n 1, 1) := by decide +kernel
theorem dX7_isFalse_5 : decode cX7_isFalse 5 = .ok (.invokevirtual 46, 3) := by decide +kernel
theorem dX7_isFalse_8 : decode cX7_isFalse 8 = .ok (.iconst 1, 1) := by decide +kernel
theorem dX7_isFalse_9 : decode cX7_isFalse 9 = .ok (.if_icmp .ne 7, 3) := by decide +kernel
theorem dX7_isFalse_12 : decode cX7_isFalse 12 = .ok (.iconst 1, 1) := by decide +kernel
theorem dX7_isFalse_13 : decode cX7_isFalse 13 = .ok (.goto 4, 3) := by decide +kernel
theorem dX7_isFalse_16 : decode cX7_isFalse 16 = .ok (.iconst 0, 1) := by decide +kernel
theorem dX7_isFalse_17 : decode cX7_isFalse 17 = .ok (.ireturn, 1) := by decide +kernel
theorem dX7_comesBackToRoute_0 : decode cX7_comesBackToRoute 0 = .ok (.iconst 1, 1) := by decide +kernel
theorem dX7_comesBackToRoute_1 : decode cX7_comesBackToRoute 1 = .ok (.istore_n 2, 1) := by decide +kernel
theorem dX7_comesBackToRoute_2 : decode cX7_comesBackToRoute 2 = .ok (.iload_n 2, 1) := by decide +kernel
theorem dX7_comesBackToRoute_3 : decode cX7_comesBackToRoute 3 = .ok (.aload_n 0, 1) := by decide +kernel
theorem dX7_comesBackToRoute_4 : decode cX7_comesBackToRoute 4 = .ok (.iload_n 1, 1) := by decide +kernel
theorem dX7_comesBackToRoute_5 : decode cX7_comesBackToRoute 5 = .ok (.invokevirtual 60, 3) := by decide +kernel
theorem dX7_comesBackToRoute_8 : decode cX7_comesBackToRoute 8 = .ok (.if_icmp .ge 27, 3) := by decide +kernel
theorem dX7_comesBackToRoute_11 : decode cX7_comesBackToRoute 11 = .ok (.aload_n 0, 1) := by decide +kernel
theorem dX7_comesBackToRoute_12 : decode cX7_comesBackToRoute 12 = .ok (.getfield 38, 3) := by decide +kernel
theorem dX7_comesBackToRoute_15 : decode cX7_comesBackToRoute 15 = .ok (.aload_n 0, 1) := by decide +kernel
theorem dX7_comesBackToRoute_16 : decode cX7_comesBackToRoute 16 = .ok (.iload_n 1, 1) := by decide +kernel
theorem dX7_comesBackToRoute_17 : decode cX7_comesBackToRoute 17 = .ok (.iload_n 2, 1) := by decide +kernel
theorem dX7_comesBackToRoute_18 : decode cX7_comesBackToRoute 18 = .ok (.invokevirtual 63, 3) := by decide +kernel
theorem dX7_comesBackToRoute_21 : decode cX7_comesBackToRoute 21 = .ok (.invokevirtual 82, 3) := by decide +kernel
theorem dX7_comesBackToRoute_24 : decode cX7_comesBackToRoute 24 = .ok (.ifCond .eq 5, 3) := by decide +kernel
theorem dX7_comesBackToRoute_27 : decode cX7_comesBackToRoute 27 = .ok (.iconst 1, 1) := by decide +kernel
theorem dX7_comesBackToRoute_28 : decode cX7_comesBackToRoute 28 = .ok (.ireturn, 1) := by decide +kernel
theorem dX7_comesBackToRoute_29 : decode cX7_comesBackToRoute 29 = .ok (.iinc 2 1, 3) := by decide +kernel
theorem dX7_comesBackToRoute_32 : decode cX7_comesBackToRoute 32 = .ok (.goto (-30), 3) := by decide +kernel
theorem dX7_comesBackToRoute_35 : decode cX7_comesBackToRoute 35 = .ok (.iconst 0, 1) := by decide +kernel
theorem dX7_comesBackToRoute_36 : decode cX7_comesBackToRoute 36 = .ok (.ireturn, 1) := by decide +kernel
theorem dX7_wholeLength_0 : decode cX7_wholeLength 0 = .ok (.iconst 0, 1) := by decide +kernel
theorem dX7_wholeLength_1 : decode cX7_wholeLength 1 = .ok (.istore_n 2, 1) := by decide +kernel
theorem dX7_wholeLength_2 : decode cX7_wholeLength 2 = .ok (.iconst 1, 1) := by decide +kernel
theorem dX7_wholeLength_3 : decode cX7_wholeLength 3 = .ok (.istore_n 3, 1) := by decide +kernel
theorem dX7_wholeLength_4 : decode cX7_wholeLength 4 = .ok (.iload_n 3, 1) := by decide +kernel
theorem dX7_wholeLength_5 : decode cX7_wholeLength 5 = .ok (.aload_n 0, 1) := by decide +kernel
theorem dX7_wholeLength_6 : decode cX7_wholeLength 6 = .ok (.iload_n 1, 1) := by decide +kernel
theorem dX7_wholeLength_7 : decode cX7_wholeLength 7 = .ok (.invokevirtual 60, 3) := by decide +kernel
theorem dX7_wholeLength_10 : decode cX7_wholeLength 10 = .ok (.if_icmp .ge 40, 3) := by decide +kernel
theorem dX7_wholeLength_13 : decode cX7_wholeLength 13 = .ok (.iload_n 2, 1) := by decide +kernel
theorem dX7_wholeLength_14 : decode cX7_wholeLength 14 = .ok (.aload_n 0, 1) := by decide +kernel
theorem dX7_wholeLength_15 : decode cX7_wholeLength 15 = .ok (.getfield 34, 3) := by decide +kernel
theorem dX7_wholeLength_18 : decode cX7_wholeLength 18 = .ok (.aload_n 0, 1) := by decide +kernel
theorem dX7_wholeLength_19 : decode cX7_wholeLength 19 = .ok (.getfield 34, 3) := by decide +kernel
theorem dX7_wholeLength_22 : decode cX7_wholeLength 22 = .ok (.aload_n 0, 1) := by decide +kernel
theorem dX7_wholeLength_23 : decode cX7_wholeLength 23 = .ok (.iload_n 1, 1) := by decide +kernel
theorem dX7_wholeLength_24 : decode cX7_wholeLength 24 = .ok (.iload_n 3, 1) := by decide +kernel
theorem dX7_wholeLength_25 : decode cX7_wholeLength 25 = .ok (.iconst 1, 1) := by decide +kernel
theorem dX7_wholeLength_26 : decode cX7_wholeLength 26 = .ok (.isub, 1) := by decide +kernel
theorem dX7_wholeLength_27 : decode cX7_wholeLength 27 = .ok (.invokevirtual 63, 3) := by decide +kernel
theorem dX7_wholeLength_30 : decode cX7_wholeLength 30 = .ok (.aload_n 0, 1) := by decide +kernel
theorem dX7_wholeLength_31 : decode cX7_wholeLength 31 = .ok (.iload_n 1, 1) := by decide +kernel
theorem dX7_wholeLength_32 : decode cX7_wholeLength 32 = .ok (.iload_n 3, 1) := by decide +kernel
theorem dX7_wholeLength_33 : decode cX7_wholeLength 33 = .ok (.invokevirtual 63, 3) := by decide +kernel
theorem dX7_wholeLength_36 : decode cX7_wholeLength 36 = .ok (.invokevirtual 69, 3) := by decide +kernel
theorem dX7_wholeLength_39 : decode cX7_wholeLength 39 = .ok (.invokevirtual 97, 3) := by decide +kernel
theorem dX7_wholeLength_42 : decode cX7_wholeLength 42 = .ok (.iadd, 1) := by decide +kernel
theorem dX7_wholeLength_43 : decode cX7_wholeLength 43 = .ok (.istore_n 2, 1) := by decide +kernel
theorem dX7_wholeLength_44 : decode cX7_wholeLength 44 = .ok (.iinc 3 1, 3) := by decide +kernel
theorem dX7_wholeLength_47 : decode cX7_wholeLength 47 = .ok (.goto (-43), 3) := by decide +kernel
theorem dX7_wholeLength_50 : decode cX7_wholeLength 50 = .ok (.iload_n 2, 1) := by decide +kernel
theorem dX7_wholeLength_51 : decode cX7_wholeLength 51 = .ok (.ireturn, 1) := by decide +kernel
theorem dX7_crosses_0 : decode cX7_crosses 0 = .ok (.iconst 0, 1) := by decide +kernel
theorem dX7_crosses_1 : decode cX7_crosses 1 = .ok (.istore_n 3, 1) := by decide +kernel
theorem dX7_crosses_2 : decode cX7_crosses 2 = .ok (.iload_n 3, 1) := by decide +kernel
theorem dX7_crosses_3 : decode cX7_crosses 3 = .ok (.aload_n 0, 1) := by decide +kernel
theorem dX7_crosses_4 : decode cX7_crosses 4 = .ok (.iload_n 1, 1) := by decide +kernel
theorem dX7_crosses_5 : decode cX7_crosses 5 = .ok (.invokevirtual 60, 3) := by decide +kernel
theorem dX7_crosses_8 : decode cX7_crosses 8 = .ok (.if_icmp .ge 38, 3) := by decide +kernel
theorem dX7_crosses_11 : decode cX7_crosses 11 = .ok (.aload_n 0, 1) := by decide +kernel
theorem dX7_crosses_12 : decode cX7_crosses 12 = .ok (.iload_n 2, 1) := by decide +kernel
theorem dX7_crosses_13 : decode cX7_crosses 13 = .ok (.aload_n 0, 1) := by decide +kernel
theorem dX7_crosses_14 : decode cX7_crosses 14 = .ok (.iload_n 1, 1) := by decide +kernel
theorem dX7_crosses_15 : decode cX7_crosses 15 = .ok (.iload_n 3, 1) := by decide +kernel
theorem dX7_crosses_16 : decode cX7_crosses 16 = .ok (.invokevirtual 63, 3) := by decide +kernel
theorem dX7_crosses_19 : decode cX7_crosses 19 = .ok (.invokevirtual 66, 3) := by decide +kernel
theorem dX7_crosses_22 : decode cX7_crosses 22 = .ok (.istore 4, 2) := by decide +kernel
theorem dX7_crosses_24 : decode cX7_crosses 24 = .ok (.iload 4, 2) := by decide +kernel
theorem dX7_crosses_26 : decode cX7_crosses 26 = .ok (.ifCond .gt 12, 3) := by decide +kernel
theorem dX7_crosses_29 : decode cX7_crosses 29 = .ok (.iload 4, 2) := by decide +kernel
theorem dX7_crosses_31 : decode cX7_crosses 31 = .ok (.ifCond .ne 9, 3) := by decide +kernel
theorem dX7_crosses_34 : decode cX7_crosses 34 = .ok (.iload_n 3, 1) := by decide +kernel
theorem dX7_crosses_35 : decode cX7_crosses 35 = .ok (.ifCond .le 5, 3) := by decide +kernel
theorem dX7_crosses_38 : decode cX7_crosses 38 = .ok (.iconst 1, 1) := by decide +kernel
theorem dX7_crosses_39 : decode cX7_crosses 39 = .ok (.ireturn, 1) := by decide +kernel
theorem dX7_crosses_40 : decode cX7_crosses 40 = .ok (.iinc 3 1, 3) := by decide +kernel
theorem dX7_crosses_43 : decode cX7_crosses 43 = .ok (.goto (-41), 3) := by decide +kernel
theorem dX7_crosses_46 : decode cX7_crosses 46 = .ok (.iconst 0, 1) := by decide +kernel
theorem dX7_crosses_47 : decode cX7_crosses 47 = .ok (.ireturn, 1) := by decide +kernel
theorem dX8_init_0 : decode cX8_init 0 = .ok (.aload_n 0, 1) := by decide +kernel
theorem dX8_init_1 : decode cX8_init 1 = .ok (.invokespecial 3, 3) := by decide +kernel
theorem dX8_init_4 : decode cX8_init 4 = .ok (.aload_n 0, 1) := by decide +kernel
theorem dX8_init_5 : decode cX8_init 5 = .ok (.new 9, 3) := by decide +kernel
theorem dX8_init_8 : decode cX8_init 8 = .ok (.dup, 1) := by decide +kernel
theorem dX8_init_9 : decode cX8_init 9 = .ok (.bipush 31, 2) := by decide +kernel
theorem dX8_init_11 : decode cX8_init 11 = .ok (.invokespecial 13, 3) := by decide +kernel
theorem dX8_init_14 : decode cX8_init 14 = .ok (.putfield 16, 3) := by decide +kernel
theorem dX8_init_17 : decode cX8_init 17 = .ok (.aload_n 0, 1) := by decide +kernel
theorem dX8_init_18 : decode cX8_init 18 = .ok (.iconst 0, 1) := by decide +kernel
theorem dX8_init_19 : decode cX8_init 19 = .ok (.putfield 20, 3) := by decide +kernel
theorem dX8_init_22 : decode cX8_init 22 = .ok (.aload_n 0, 1) := by decide +kernel
theorem dX8_init_23 : decode cX8_init 23 = .ok (.iconst 0, 1) := by decide +kernel
theorem dX8_init_24 : decode cX8_init 24 = .ok (.putfield 24, 3) := by decide +kernel
theorem dX8_init_27 : decode cX8_init 27 = .ok (.aload_n 0, 1) := by decide +kernel
theorem dX8_init_28 : decode cX8_init 28 = .ok (.aload_n 1, 1) := by decide +kernel
theorem dX8_init_29 : decode cX8_init 29 = .ok (.putfield 27, 3) := by decide +kernel
theorem dX8_init_32 : decode cX8_init 32 = .ok (.aload_n 0, 1) := by decide +kernel
theorem dX8_init_33 : decode cX8_init 33 = .ok (.aload_n 2, 1) := by decide +kernel
theorem dX8_init_34 : decode cX8_init 34 = .ok (.putfield 31, 3) := by decide +kernel
theorem dX8_init_37 : decode cX8_init 37 = .ok (.return_, 1) := by decide +kernel
theorem dX8_choice_0 : decode cX8_choice 0 = .ok (.iconst (-1), 1) := by decide +kernel
theorem dX8_choice_1 : decode cX8_choice 1 = .ok (.istore_n 3, 1) := by decide +kernel
theorem dX8_choice_2 : decode cX8_choice 2 = .ok (.iconst 0, 1) := by decide +kernel
theorem dX8_choice_3 : decode cX8_choice 3 = .ok (.istore 4, 2) := by decide +kernel
theorem dX8_choice_5 : decode cX8_choice 5 = .ok (.iconst 0, 1) := by decide +kernel
theorem dX8_choice_6 : decode cX8_choice 6 = .ok (.istore 5, 2) := by decide +kernel
theorem dX8_choice_8 : decode cX8_choice 8 = .ok (.iload 5, 2) := by decide +kernel
theorem dX8_choice_10 : decode cX8_choice 10 = .ok (.aload_n 0, 1) := by decide +kernel
theorem dX8_choice_11 : decode cX8_choice 11 = .ok (.getfield 31, 3) := by decide +kernel
theorem dX8_choice_14 : decode cX8_choice 14 = .ok (.invokevirtual 35, 3) := by decide +kernel
theorem dX8_choice_17 : decode cX8_choice 17 = .ok (.if_icmp .ge 94, 3) := by decide +kernel
theorem dX8_choice_20 : decode cX8_choice 20 = .ok (.aload_n 0, 1) := by decide +kernel
theorem dX8_choice_21 : decode cX8_choice 21 = .ok (.getfield 31, 3) := by decide +kernel
theorem dX8_choice_24 : decode cX8_choice 24 = .ok (.iload 5, 2) := by decide +kernel
theorem dX8_choice_26 : decode cX8_choice 26 = .ok (.iload_n 1, 1) := by decide +kernel
theorem dX8_choice_27 : decode cX8_choice 27 = .ok (.iload_n 2, 1) := by decide +kernel
theorem dX8_choice_28 : decode cX8_choice 28 = .ok (.invokevirtual 41, 3) := by decide +kernel
theorem dX8_choice_31 : decode cX8_choice 31 = .ok (.ifCond .ne 6, 3) := by decide +kernel
theorem dX8_choice_34 : decode cX8_choice 34 = .ok (.goto 71, 3) := by decide +kernel
theorem dX8_choice_37 : decode cX8_choice 37 = .ok (.aload_n 0, 1) := by decide +kernel
theorem dX8_choice_38 : decode cX8_choice 38 = .ok (.getfield 31, 3) := by decide +kernel
theorem dX8_choice_41 : decode cX8_choice 41 = .ok (.iload 5, 2) := by decide +kernel
theorem dX8_choice_43 : decode cX8_choice 43 = .ok (.invokevirtual 45, 3) := by decide +kernel
theorem dX8_choice_46 : decode cX8_choice 46 = .ok (.istore 6, 2) := by decide +kernel
theorem dX8_choice_48 : decode cX8_choice 48 = .ok (.aload_n 0, 1) := by decide +kernel
theorem dX8_choice_49 : decode cX8_choice 49 = .ok (.getfield 31, 3) := by decide +kernel
theorem dX8_choice_52 : decode cX8_choice 52 = .ok (.iload 5, 2) := by decide +kernel
theorem dX8_choice_54 : decode cX8_choice 54 = .ok (.invokevirtual 49, 3) := by decide +kernel
theorem dX8_choice_57 : decode cX8_choice 57 = .ok (.istore 7, 2) := by decide +kernel
theorem dX8_choice_59 : decode cX8_choice 59 = .ok (.iload 6, 2) := by decide +kernel
theorem dX8_choice_61 : decode cX8_choice 61 = .ok (.iconst 2, 1) := by decide +kernel
theorem dX8_choice_62 : decode cX8_choice 62 = .ok (.if_icmp .ne 11, 3) := by decide +kernel
theorem dX8_choice_65 : decode cX8_choice 65 = .ok (.iload 7, 2) := by decide +kernel
theorem dX8_choice_67 : decode cX8_choice 67 = .ok (.ifCond .ne 6, 3) := by decide +kernel
theorem dX8_choice_70 : decode cX8_choice 70 = .ok (.bipush (-3), 2) := by decide +kernel
theorem dX8_choice_72 : decode cX8_choice 72 = .ok (.ireturn, 1) := by decide +kernel
theorem dX8_choice_73 : decode cX8_choice 73 = .ok (.iload 6, 2) := by decide +kernel
theorem dX8_choice_75 : decode cX8_choice 75 = .ok (.ifCond .ne 8, 3) := by decide +kernel
theorem dX8_choice_78 : decode cX8_choice 78 = .ok (.iload 7, 2) := by decide +kernel
theorem dX8_choice_80 : decode cX8_choice 80 = .ok (.goto 4, 3) := by decide +kernel
theorem dX8_choice_83 : decode cX8_choice 83 = .ok (.iload_n 3, 1) := by decide +kernel
theorem dX8_choice_84 : decode cX8_choice 84 = .ok (.istore_n 3, 1) := by decide +kernel
theorem dX8_choice_85 : decode cX8_choice 85 = .ok (.iload 4, 2) := by decide +kernel
theorem dX8_choice_87 : decode cX8_choice 87 = .ok (.iload 6, 2) := by decide +kernel
theorem dX8_choice_89 : decode cX8_choice 89 = .ok (.iconst 1, 1) := by decide +kernel
theorem dX8_choice_90 : decode cX8_choice 90 = .ok (.if_icmp .ne 11, 3) := by decide +kernel
theorem dX8_choice_93 : decode cX8_choice 93 = .ok (.iload 7, 2) := by decide +kernel
theorem dX8_choice_95 : decode cX8_choice 95 = .ok (.invokestatic 52, 3) := by decide +kernel
theorem dX8_choice_98 : decode cX8_choice 98 = .ok (.goto 4, 3) := by decide +kernel
theorem dX8_choice_101 : decode cX8_choice 101 = .ok (.iconst 0, 1) := by decide +kernel
theorem dX8_choice_102 : decode cX8_choice 102 = .ok (.ior, 1) := by decide +kernel
theorem dX8_choice_103 : decode cX8_choice 103 = .ok (.istore 4, 2) := by decide +kernel
theorem dX8_choice_105 : decode cX8_choice 105 = .ok (.iinc 5 1, 3) := by decide +kernel
theorem dX8_choice_108 : decode cX8_choice 108 = .ok (.goto (-100), 3) := by decide +kernel
theorem dX8_choice_111 : decode cX8_choice 111 = .ok (.iload_n 3, 1) := by decide +kernel
theorem dX8_choice_112 : decode cX8_choice 112 = .ok (.iconst (-1), 1) := by decide +kernel
theorem dX8_choice_113 : decode cX8_choice 113 = .ok (.if_icmp .eq 7, 3) := by decide +kernel
theorem dX8_choice_116 : decode cX8_choice 116 = .ok (.iload_n 3, 1) := by decide +kernel
theorem dX8_choice_117 : decode cX8_choice 117 = .ok (.goto 24, 3) := by decide +kernel
theorem dX8_choice_120 : decode cX8_choice 120 = .ok (.aload_n 0, 1) := by decide +kernel
theorem dX8_choice_121 : decode cX8_choice 121 = .ok (.aload_n 0, 1) := by decide +kernel
theorem dX8_choice_122 : decode cX8_choice 122 = .ok (.getfield 27, 3) := by decide +kernel
theorem dX8_choice_125 : decode cX8_choice 125 = .ok (.iload_n 1, 1) := by decide +kernel
theorem dX8_choice_126 : decode cX8_choice 126 = .ok (.invokevirtual 55, 3) := by decide +kernel
theorem dX8_choice_129 : decode cX8_choice 129 = .ok (.iload_n 2, 1) := by decide +kernel
theorem dX8_choice_130 : decode cX8_choice 130 = .ok (.invokestatic 52, 3) := by decide +kernel
theorem dX8_choice_133 : decode cX8_choice 133 = .ok (.iconst (-1), 1) := by decide +kernel
theorem dX8_choice_134 : decode cX8_choice 134 = .ok (.ixor, 1) := by decide +kernel
theorem dX8_choice_135 : decode cX8_choice 135 = .ok (.iand, 1) := by decide +kernel
theorem dX8_choice_136 : decode cX8_choice 136 = .ok (.iload 4, 2) := by decide +kernel
theorem dX8_choice_138 : decode cX8_choice 138 = .ok (.invokevirtual 60, 3) := by decide +kernel
theorem dX8_choice_141 : decode cX8_choice 141 = .ok (.ireturn, 1) := by decide +kernel
theorem dX8_choiceAmong_0 : decode cX8_choiceAmong 0 = .ok (.iload_n 1, 1) := by decide +kernel
theorem dX8_choiceAmong_1 : decode cX8_choiceAmong 1 = .ok (.iload_n 2, 1) := by decide +kernel
theorem dX8_choiceAmong_2 : decode cX8_choiceAmong 2 = .ok (.iconst (-1), 1) := by decide +kernel
theorem dX8_choiceAmong_3 : decode cX8_choiceAmong 3 = .ok (.ixor, 1) := by decide +kernel
theorem dX8_choiceAmong_4 : decode cX8_choiceAmong 4 = .ok (.iand, 1) := by decide +kernel
theorem dX8_choiceAmong_5 : decode cX8_choiceAmong 5 = .ok (.istore_n 3, 1) := by decide +kernel
theorem dX8_choiceAmong_6 : decode cX8_choiceAmong 6 = .ok (.iload_n 3, 1) := by decide +kernel
theorem dX8_choiceAmong_7 : decode cX8_choiceAmong 7 = .ok (.invokestatic 64, 3) := by decide +kernel
theorem dX8_choiceAmong_10 : decode cX8_choiceAmong 10 = .ok (.iconst 1, 1) := by decide +kernel
theorem dX8_choiceAmong_11 : decode cX8_choiceAmong 11 = .ok (.if_icmp .ne 10, 3) := by decide +kernel
theorem dX8_choiceAmong_14 : decode cX8_choiceAmong 14 = .ok (.iload_n 3, 1) := by decide +kernel
theorem dX8_choiceAmong_15 : decode cX8_choiceAmong 15 = .ok (.iconst 1, 1) := by decide +kernel
theorem dX8_choiceAmong_16 : decode cX8_choiceAmong 16 = .ok (.isub, 1) := by decide +kernel
theorem dX8_choiceAmong_17 : decode cX8_choiceAmong 17 = .ok (.invokestatic 64, 3) := by decide +kernel
theorem dX8_choiceAmong_20 : decode cX8_choiceAmong 20 = .ok (.ireturn, 1) := by decide +kernel
theorem dX8_choiceAmong_21 : decode cX8_choiceAmong 21 = .ok (.iload_n 1, 1) := by decide +kernel
theorem dX8_choiceAmong_22 : decode cX8_choiceAmong 22 = .ok (.ifCond .ne 8, 3) := by decide +kernel
theorem dX8_choiceAmong_25 : decode cX8_choiceAmong 25 = .ok (.bipush (-2), 2) := by decide +kernel
theorem dX8_choiceAmong_27 : decode cX8_choiceAmong 27 = .ok (.goto 4, 3) := by decide +kernel
theorem dX8_choiceAmong_30 : decode cX8_choiceAmong 30 = .ok (.iconst (-1), 1) := by decide +kernel
theorem dX8_choiceAmong_31 : decode cX8_choiceAmong 31 = .ok (.ireturn, 1) := by decide +kernel
theorem dX8_goFrom_0 : decode cX8_goFrom 0 = .ok (.aload_n 0, 1) := by decide +kernel
theorem dX8_goFrom_1 : decode cX8_goFrom 1 = .ok (.getfield 16, 3) := by decide +kernel
theorem dX8_goFrom_4 : decode cX8_goFrom 4 = .ok (.invokevirtual 69, 3) := by decide +kernel
theorem dX8_goFrom_7 : decode cX8_goFrom 7 = .ok (.pop, 1) := by decide +kernel
theorem dX8_goFrom_8 : decode cX8_goFrom 8 = .ok (.aload_n 0, 1) := by decide +kernel
theorem dX8_goFrom_9 : decode cX8_goFrom 9 = .ok (.getfield 16, 3) := by decide +kernel
theorem dX8_goFrom_12 : decode cX8_goFrom 12 = .ok (.iload_n 1, 1) := by decide +kernel
theorem dX8_goFrom_13 : decode cX8_goFrom 13 = .ok (.invokevirtual 72, 3) := by decide +kernel
theorem dX8_goFrom_16 : decode cX8_goFrom 16 = .ok (.pop, 1) := by decide +kernel
theorem dX8_goFrom_17 : decode cX8_goFrom 17 = .ok (.aload_n 0, 1) := by decide +kernel
theorem dX8_goFrom_18 : decode cX8_goFrom 18 = .ok (.iconst 0, 1) := by decide +kernel
theorem dX8_goFrom_19 : decode cX8_goFrom 19 = .ok (.putfield 24, 3) := by decide +kernel
theorem dX8_goFrom_22 : decode cX8_goFrom 22 = .ok (.iload_n 1, 1) := by decide +kernel
theorem dX8_goFrom_23 : decode cX8_goFrom 23 = .ok (.istore_n 2, 1) := by decide +kernel
theorem dX8_goFrom_24 : decode cX8_goFrom 24 = .ok (.iconst (-1), 1) := by decide +kernel
theorem dX8_goFrom_25 : decode cX8_goFrom 25 = .ok (.istore_n 3, 1) := by decide +kernel
theorem dX8_goFrom_26 : decode cX8_goFrom 26 = .ok (.iconst 0, 1) := by decide +kernel
theorem dX8_goFrom_27 : decode cX8_goFrom 27 = .ok (.istore 4, 2) := by decide +kernel
theorem dX8_goFrom_29 : decode cX8_goFrom 29 = .ok (.iconst 0, 1) := by decide +kernel
theorem dX8_goFrom_30 : decode cX8_goFrom 30 = .ok (.istore 5, 2) := by decide +kernel
theorem dX8_goFrom_32 : decode cX8_goFrom 32 = .ok (.iload 5, 2) := by decide +kernel
theorem dX8_goFrom_34 : decode cX8_goFrom 34 = .ok (.bipush 30, 2) := by decide +kernel
theorem dX8_goFrom_36 : decode cX8_goFrom 36 = .ok (.if_icmp .gt 118, 3) := by decide +kernel
theorem dX8_goFrom_39 : decode cX8_goFrom 39 = .ok (.aload_n 0, 1) := by decide +kernel
theorem dX8_goFrom_40 : decode cX8_goFrom 40 = .ok (.iload_n 2, 1) := by decide +kernel
theorem dX8_goFrom_41 : decode cX8_goFrom 41 = .ok (.iload_n 3, 1) := by decide +kernel
theorem dX8_goFrom_42 : decode cX8_goFrom 42 = .ok (.invokevirtual 75, 3) := by decide +kernel
theorem dX8_goFrom_45 : decode cX8_goFrom 45 = .ok (.istore 6, 2) := by decide +kernel
theorem dX8_goFrom_47 : decode cX8_goFrom 47 = .ok (.iload 6, 2) := by decide +kernel
theorem dX8_goFrom_49 : decode cX8_goFrom 49 = .ok (.ifCond .ge 12, 3) := by decide +kernel
theorem dX8_goFrom_52 : decode cX8_goFrom 52 = .ok (.aload_n 0, 1) := by decide +kernel
theorem dX8_goFrom_53 : decode cX8_goFrom 53 = .ok (.iconst (-1), 1) := by decide +kernel
theorem dX8_goFrom_54 : decode cX8_goFrom 54 = .ok (.iload 6, 2) := by decide +kernel
theorem dX8_goFrom_56 : decode cX8_goFrom 56 = .ok (.isub, 1) := by decide +kernel
theorem dX8_goFrom_57 : decode cX8_goFrom 57 = .ok (.putfield 20, 3) := by decide +kernel
theorem dX8_goFrom_60 : decode cX8_goFrom 60 = .ok (.return_, 1) := by decide +kernel
theorem dX8_goFrom_61 : decode cX8_goFrom 61 = .ok (.iload 5, 2) := by decide +kernel
theorem dX8_goFrom_63 : decode cX8_goFrom 63 = .ok (.bipush 30, 2) := by decide +kernel
theorem dX8_goFrom_65 : decode cX8_goFrom 65 = .ok (.if_icmp .ne 6, 3) := by decide +kernel
theorem dX8_goFrom_68 : decode cX8_goFrom 68 = .ok (.goto 86, 3) := by decide +kernel
theorem dX8_goFrom_71 : decode cX8_goFrom 71 = .ok (.aload_n 0, 1) := by decide +kernel
theorem dX8_goFrom_72 : decode cX8_goFrom 72 = .ok (.getfield 27, 3) := by decide +kernel
theorem dX8_goFrom_75 : decode cX8_goFrom 75 = .ok (.iload_n 2, 1) := by decide +kernel
theorem dX8_goFrom_76 : decode cX8_goFrom 76 = .ok (.iload 6, 2) := by decide +kernel
