theorem dX8_goFrom_78 : decode cX8_goFrom 78 = .ok (.invokevirtual 78, 3) := by decide +kernel
theorem dX8_goFrom_81 : decode cX8_goFrom 81 = .ok (.istore 7, 2) := by decide +kernel
theorem dX8_goFrom_83 : decode cX8_goFrom 83 = .ok (.aload_n 0, 1) := by decide +kernel
theorem dX8_goFrom_84 : decode cX8_goFrom 84 = .ok (.getfield 27, 3) := by decide +kernel
theorem dX8_goFrom_87 : decode cX8_goFrom 87 = .ok (.iload 7, 2) := by decide +kernel
theorem dX8_goFrom_89 : decode cX8_goFrom 89 = .ok (.invokevirtual 81, 3) := by decide +kernel
theorem dX8_goFrom_92 : decode cX8_goFrom 92 = .ok (.istore_n 2, 1) := by decide +kernel
theorem dX8_goFrom_93 : decode cX8_goFrom 93 = .ok (.iload 6, 2) := by decide +kernel
theorem dX8_goFrom_95 : decode cX8_goFrom 95 = .ok (.istore_n 3, 1) := by decide +kernel
theorem dX8_goFrom_96 : decode cX8_goFrom 96 = .ok (.aload_n 0, 1) := by decide +kernel
theorem dX8_goFrom_97 : decode cX8_goFrom 97 = .ok (.getfield 16, 3) := by decide +kernel
theorem dX8_goFrom_100 : decode cX8_goFrom 100 = .ok (.iload_n 2, 1) := by decide +kernel
theorem dX8_goFrom_101 : decode cX8_goFrom 101 = .ok (.invokevirtual 72, 3) := by decide +kernel
theorem dX8_goFrom_104 : decode cX8_goFrom 104 = .ok (.pop, 1) := by decide +kernel
theorem dX8_goFrom_105 : decode cX8_goFrom 105 = .ok (.aload_n 0, 1) := by decide +kernel
theorem dX8_goFrom_106 : decode cX8_goFrom 106 = .ok (.dup, 1) := by decide +kernel
theorem dX8_goFrom_107 : decode cX8_goFrom 107 = .ok (.getfield 24, 3) := by decide +kernel
theorem dX8_goFrom_110 : decode cX8_goFrom 110 = .ok (.aload_n 0, 1) := by decide +kernel
theorem dX8_goFrom_111 : decode cX8_goFrom 111 = .ok (.getfield 27, 3) := by decide +kernel
theorem dX8_goFrom_114 : decode cX8_goFrom 114 = .ok (.iload 6, 2) := by decide +kernel
theorem dX8_goFrom_116 : decode cX8_goFrom 116 = .ok (.invokevirtual 84, 3) := by decide +kernel
theorem dX8_goFrom_119 : decode cX8_goFrom 119 = .ok (.iadd, 1) := by decide +kernel
theorem dX8_goFrom_120 : decode cX8_goFrom 120 = .ok (.putfield 24, 3) := by decide +kernel
theorem dX8_goFrom_123 : decode cX8_goFrom 123 = .ok (.iload 4, 2) := by decide +kernel
theorem dX8_goFrom_125 : decode cX8_goFrom 125 = .ok (.iconst 1, 1) := by decide +kernel
theorem dX8_goFrom_126 : decode cX8_goFrom 126 = .ok (.iload 7, 2) := by decide +kernel
theorem dX8_goFrom_128 : decode cX8_goFrom 128 = .ok (.ishl, 1) := by decide +kernel
theorem dX8_goFrom_129 : decode cX8_goFrom 129 = .ok (.iand, 1) := by decide +kernel
theorem dX8_goFrom_130 : decode cX8_goFrom 130 = .ok (.ifCond .eq 9, 3) := by decide +kernel
theorem dX8_goFrom_133 : decode cX8_goFrom 133 = .ok (.aload_n 0, 1) := by decide +kernel
theorem dX8_goFrom_134 : decode cX8_goFrom 134 = .ok (.iconst 3, 1) := by decide +kernel
theorem dX8_goFrom_135 : decode cX8_goFrom 135 = .ok (.putfield 20, 3) := by decide +kernel
theorem dX8_goFrom_138 : decode cX8_goFrom 138 = .ok (.return_, 1) := by decide +kernel
theorem dX8_goFrom_139 : decode cX8_goFrom 139 = .ok (.iload 4, 2) := by decide +kernel
theorem dX8_goFrom_141 : decode cX8_goFrom 141 = .ok (.iconst 1, 1) := by decide +kernel
theorem dX8_goFrom_142 : decode cX8_goFrom 142 = .ok (.iload 7, 2) := by decide +kernel
theorem dX8_goFrom_144 : decode cX8_goFrom 144 = .ok (.ishl, 1) := by decide +kernel
theorem dX8_goFrom_145 : decode cX8_goFrom 145 = .ok (.ior, 1) := by decide +kernel
theorem dX8_goFrom_146 : decode cX8_goFrom 146 = .ok (.istore 4, 2) := by decide +kernel
theorem dX8_goFrom_148 : decode cX8_goFrom 148 = .ok (.iinc 5 1, 3) := by decide +kernel
theorem dX8_goFrom_151 : decode cX8_goFrom 151 = .ok (.goto (-119), 3) := by decide +kernel
theorem dX8_goFrom_154 : decode cX8_goFrom 154 = .ok (.aload_n 0, 1) := by decide +kernel
theorem dX8_goFrom_155 : decode cX8_goFrom 155 = .ok (.iconst 4, 1) := by decide +kernel
theorem dX8_goFrom_156 : decode cX8_goFrom 156 = .ok (.putfield 20, 3) := by decide +kernel
theorem dX8_goFrom_159 : decode cX8_goFrom 159 = .ok (.return_, 1) := by decide +kernel
theorem dX8_tell_0 : decode cX8_tell 0 = .ok (.iload_n 1, 1) := by decide +kernel
theorem dX8_tell_1 : decode cX8_tell 1 = .ok (.tableswitch 59 0 2 #[27, 32, 49], 27) := by decide +kernel
theorem dX8_tell_28 : decode cX8_tell 28 = .ok (.aload_n 0, 1) := by decide +kernel
theorem dX8_tell_29 : decode cX8_tell 29 = .ok (.getfield 20, 3) := by decide +kernel
theorem dX8_tell_32 : decode cX8_tell 32 = .ok (.ireturn, 1) := by decide +kernel
theorem dX8_tell_33 : decode cX8_tell 33 = .ok (.aload_n 0, 1) := by decide +kernel
theorem dX8_tell_34 : decode cX8_tell 34 = .ok (.getfield 16, 3) := by decide +kernel
theorem dX8_tell_37 : decode cX8_tell 37 = .ok (.aload_n 0, 1) := by decide +kernel
theorem dX8_tell_38 : decode cX8_tell 38 = .ok (.getfield 16, 3) := by decide +kernel
theorem dX8_tell_41 : decode cX8_tell 41 = .ok (.invokevirtual 87, 3) := by decide +kernel
theorem dX8_tell_44 : decode cX8_tell 44 = .ok (.iconst 1, 1) := by decide +kernel
theorem dX8_tell_45 : decode cX8_tell 45 = .ok (.isub, 1) := by decide +kernel
theorem dX8_tell_46 : decode cX8_tell 46 = .ok (.invokevirtual 90, 3) := by decide +kernel
theorem dX8_tell_49 : decode cX8_tell 49 = .ok (.ireturn, 1) := by decide +kernel
theorem dX8_tell_50 : decode cX8_tell 50 = .ok (.aload_n 0, 1) := by decide +kernel
theorem dX8_tell_51 : decode cX8_tell 51 = .ok (.getfield 16, 3) := by decide +kernel
theorem dX8_tell_54 : decode cX8_tell 54 = .ok (.invokevirtual 87, 3) := by decide +kernel
theorem dX8_tell_57 : decode cX8_tell 57 = .ok (.iconst 1, 1) := by decide +kernel
theorem dX8_tell_58 : decode cX8_tell 58 = .ok (.isub, 1) := by decide +kernel
theorem dX8_tell_59 : decode cX8_tell 59 = .ok (.ireturn, 1) := by decide +kernel
theorem dX8_tell_60 : decode cX8_tell 60 = .ok (.aload_n 0, 1) := by decide +kernel
theorem dX8_tell_61 : decode cX8_tell 61 = .ok (.getfield 24, 3) := by decide +kernel
theorem dX8_tell_64 : decode cX8_tell 64 = .ok (.ireturn, 1) := by decide +kernel
theorem dX8_placeBehind_0 : decode cX8_placeBehind 0 = .ok (.aload_n 0, 1) := by decide +kernel
theorem dX8_placeBehind_1 : decode cX8_placeBehind 1 = .ok (.getfield 16, 3) := by decide +kernel
theorem dX8_placeBehind_4 : decode cX8_placeBehind 4 = .ok (.iload_n 1, 1) := by decide +kernel
theorem dX8_placeBehind_5 : decode cX8_placeBehind 5 = .ok (.invokevirtual 90, 3) := by decide +kernel
theorem dX8_placeBehind_8 : decode cX8_placeBehind 8 = .ok (.ireturn, 1) := by decide +kernel
theorem dX9_init_0 : decode cX9_init 0 = .ok (.aload_n 0, 1) := by decide +kernel
theorem dX9_init_1 : decode cX9_init 1 = .ok (.invokespecial 1, 3) := by decide +kernel
theorem dX9_init_4 : decode cX9_init 4 = .ok (.aload_n 0, 1) := by decide +kernel
theorem dX9_init_5 : decode cX9_init 5 = .ok (.new 7, 3) := by decide +kernel
theorem dX9_init_8 : decode cX9_init 8 = .ok (.dup, 1) := by decide +kernel
theorem dX9_init_9 : decode cX9_init 9 = .ok (.invokespecial 9, 3) := by decide +kernel
theorem dX9_init_12 : decode cX9_init 12 = .ok (.putfield 10, 3) := by decide +kernel
theorem dX9_init_15 : decode cX9_init 15 = .ok (.aload_n 0, 1) := by decide +kernel
theorem dX9_init_16 : decode cX9_init 16 = .ok (.new 16, 3) := by decide +kernel
theorem dX9_init_19 : decode cX9_init 19 = .ok (.dup, 1) := by decide +kernel
theorem dX9_init_20 : decode cX9_init 20 = .ok (.aload_n 0, 1) := by decide +kernel
theorem dX9_init_21 : decode cX9_init 21 = .ok (.getfield 10, 3) := by decide +kernel
theorem dX9_init_24 : decode cX9_init 24 = .ok (.invokespecial 18, 3) := by decide +kernel
theorem dX9_init_27 : decode cX9_init 27 = .ok (.putfield 21, 3) := by decide +kernel
theorem dX9_init_30 : decode cX9_init 30 = .ok (.aload_n 0, 1) := by decide +kernel
theorem dX9_init_31 : decode cX9_init 31 = .ok (.new 25, 3) := by decide +kernel
theorem dX9_init_34 : decode cX9_init 34 = .ok (.dup, 1) := by decide +kernel
theorem dX9_init_35 : decode cX9_init 35 = .ok (.aload_n 0, 1) := by decide +kernel
theorem dX9_init_36 : decode cX9_init 36 = .ok (.getfield 10, 3) := by decide +kernel
theorem dX9_init_39 : decode cX9_init 39 = .ok (.aload_n 0, 1) := by decide +kernel
theorem dX9_init_40 : decode cX9_init 40 = .ok (.getfield 21, 3) := by decide +kernel
theorem dX9_init_43 : decode cX9_init 43 = .ok (.invokespecial 27, 3) := by decide +kernel
theorem dX9_init_46 : decode cX9_init 46 = .ok (.putfield 30, 3) := by decide +kernel
theorem dX9_init_49 : decode cX9_init 49 = .ok (.aload_n 0, 1) := by decide +kernel
theorem dX9_init_50 : decode cX9_init 50 = .ok (.new 34, 3) := by decide +kernel
theorem dX9_init_53 : decode cX9_init 53 = .ok (.dup, 1) := by decide +kernel
theorem dX9_init_54 : decode cX9_init 54 = .ok (.aload_n 0, 1) := by decide +kernel
theorem dX9_init_55 : decode cX9_init 55 = .ok (.getfield 10, 3) := by decide +kernel
theorem dX9_init_58 : decode cX9_init 58 = .ok (.aload_n 0, 1) := by decide +kernel
theorem dX9_init_59 : decode cX9_init 59 = .ok (.getfield 21, 3) := by decide +kernel
theorem dX9_init_62 : decode cX9_init 62 = .ok (.invokespecial 36, 3) := by decide +kernel
theorem dX9_init_65 : decode cX9_init 65 = .ok (.putfield 37, 3) := by decide +kernel
theorem dX9_init_68 : decode cX9_init 68 = .ok (.aload_n 0, 1) := by decide +kernel
theorem dX9_init_69 : decode cX9_init 69 = .ok (.new 41, 3) := by decide +kernel
theorem dX9_init_72 : decode cX9_init 72 = .ok (.dup, 1) := by decide +kernel
theorem dX9_init_73 : decode cX9_init 73 = .ok (.aload_n 0, 1) := by decide +kernel
theorem dX9_init_74 : decode cX9_init 74 = .ok (.getfield 10, 3) := by decide +kernel
theorem dX9_init_77 : decode cX9_init 77 = .ok (.aload_n 0, 1) := by decide +kernel
theorem dX9_init_78 : decode cX9_init 78 = .ok (.getfield 30, 3) := by decide +kernel
theorem dX9_init_81 : decode cX9_init 81 = .ok (.invokespecial 43, 3) := by decide +kernel
theorem dX9_init_84 : decode cX9_init 84 = .ok (.putfield 46, 3) := by decide +kernel
theorem dX9_init_87 : decode cX9_init 87 = .ok (.aload_n 0, 1) := by decide +kernel
theorem dX9_init_88 : decode cX9_init 88 = .ok (.new 50, 3) := by decide +kernel
theorem dX9_init_91 : decode cX9_init 91 = .ok (.dup, 1) := by decide +kernel
theorem dX9_init_92 : decode cX9_init 92 = .ok (.aload_n 0, 1) := by decide +kernel
theorem dX9_init_93 : decode cX9_init 93 = .ok (.getfield 10, 3) := by decide +kernel
theorem dX9_init_96 : decode cX9_init 96 = .ok (.aload_n 0, 1) := by decide +kernel
theorem dX9_init_97 : decode cX9_init 97 = .ok (.getfield 46, 3) := by decide +kernel
theorem dX9_init_100 : decode cX9_init 100 = .ok (.invokespecial 52, 3) := by decide +kernel
theorem dX9_init_103 : decode cX9_init 103 = .ok (.putfield 55, 3) := by decide +kernel
theorem dX9_init_106 : decode cX9_init 106 = .ok (.aload_n 0, 1) := by decide +kernel
theorem dX9_init_107 : decode cX9_init 107 = .ok (.new 59, 3) := by decide +kernel
theorem dX9_init_110 : decode cX9_init 110 = .ok (.dup, 1) := by decide +kernel
theorem dX9_init_111 : decode cX9_init 111 = .ok (.invokespecial 61, 3) := by decide +kernel
theorem dX9_init_114 : decode cX9_init 114 = .ok (.putfield 62, 3) := by decide +kernel
theorem dX9_init_117 : decode cX9_init 117 = .ok (.aload_n 0, 1) := by decide +kernel
theorem dX9_init_118 : decode cX9_init 118 = .ok (.new 66, 3) := by decide +kernel
theorem dX9_init_121 : decode cX9_init 121 = .ok (.dup, 1) := by decide +kernel
theorem dX9_init_122 : decode cX9_init 122 = .ok (.invokespecial 68, 3) := by decide +kernel
theorem dX9_init_125 : decode cX9_init 125 = .ok (.putfield 69, 3) := by decide +kernel
theorem dX9_init_128 : decode cX9_init 128 = .ok (.return_, 1) := by decide +kernel
theorem dX9_path_0 : decode cX9_path 0 = .ok (.iload_n 1, 1) := by decide +kernel
theorem dX9_path_1 : decode cX9_path 1 = .ok (.invokestatic 73, 3) := by decide +kernel
theorem dX9_path_4 : decode cX9_path 4 = .ok (.ifCond .eq 10, 3) := by decide +kernel
theorem dX9_path_7 : decode cX9_path 7 = .ok (.iload_n 2, 1) := by decide +kernel
theorem dX9_path_8 : decode cX9_path 8 = .ok (.invokestatic 73, 3) := by decide +kernel
theorem dX9_path_11 : decode cX9_path 11 = .ok (.ifCond .ne 6, 3) := by decide +kernel
theorem dX9_path_14 : decode cX9_path 14 = .ok (.bipush (-2), 2) := by decide +kernel
theorem dX9_path_16 : decode cX9_path 16 = .ok (.ireturn, 1) := by decide +kernel
theorem dX9_path_17 : decode cX9_path 17 = .ok (.iload_n 1, 1) := by decide +kernel
theorem dX9_path_18 : decode cX9_path 18 = .ok (.iload_n 2, 1) := by decide +kernel
theorem dX9_path_19 : decode cX9_path 19 = .ok (.if_icmp .eq 13, 3) := by decide +kernel
theorem dX9_path_22 : decode cX9_path 22 = .ok (.iload_n 3, 1) := by decide +kernel
theorem dX9_path_23 : decode cX9_path 23 = .ok (.iconst 1, 1) := by decide +kernel
theorem dX9_path_24 : decode cX9_path 24 = .ok (.bipush 9, 2) := by decide +kernel
theorem dX9_path_26 : decode cX9_path 26 = .ok (.invokestatic 77, 3) := by decide +kernel
theorem dX9_path_29 : decode cX9_path 29 = .ok (.ifCond .ne 6, 3) := by decide +kernel
theorem dX9_path_32 : decode cX9_path 32 = .ok (.bipush (-3), 2) := by decide +kernel
theorem dX9_path_34 : decode cX9_path 34 = .ok (.ireturn, 1) := by decide +kernel
theorem dX9_path_35 : decode cX9_path 35 = .ok (.aload_n 0, 1) := by decide +kernel
theorem dX9_path_36 : decode cX9_path 36 = .ok (.getfield 10, 3) := by decide +kernel
theorem dX9_path_39 : decode cX9_path 39 = .ok (.iload_n 1, 1) := by decide +kernel
theorem dX9_path_40 : decode cX9_path 40 = .ok (.iload_n 2, 1) := by decide +kernel
theorem dX9_path_41 : decode cX9_path 41 = .ok (.invokevirtual 81, 3) := by decide +kernel
theorem dX9_path_44 : decode cX9_path 44 = .ok (.iconst (-1), 1) := by decide +kernel
theorem dX9_path_45 : decode cX9_path 45 = .ok (.if_icmp .eq 6, 3) := by decide +kernel
theorem dX9_path_48 : decode cX9_path 48 = .ok (.bipush (-4), 2) := by decide +kernel
theorem dX9_path_50 : decode cX9_path 50 = .ok (.ireturn, 1) := by decide +kernel
theorem dX9_path_51 : decode cX9_path 51 = .ok (.aload_n 0, 1) := by decide +kernel
theorem dX9_path_52 : decode cX9_path 52 = .ok (.getfield 10, 3) := by decide +kernel
theorem dX9_path_55 : decode cX9_path 55 = .ok (.invokevirtual 85, 3) := by decide +kernel
theorem dX9_path_58 : decode cX9_path 58 = .ok (.bipush 16, 2) := by decide +kernel
theorem dX9_path_60 : decode cX9_path 60 = .ok (.if_icmp .lt 8, 3) := by decide +kernel
theorem dX9_path_63 : decode cX9_path 63 = .ok (.bipush (-5), 2) := by decide +kernel
theorem dX9_path_65 : decode cX9_path 65 = .ok (.goto 13, 3) := by decide +kernel
theorem dX9_path_68 : decode cX9_path 68 = .ok (.aload_n 0, 1) := by decide +kernel
theorem dX9_path_69 : decode cX9_path 69 = .ok (.getfield 10, 3) := by decide +kernel
theorem dX9_path_72 : decode cX9_path 72 = .ok (.iload_n 1, 1) := by decide +kernel
theorem dX9_path_73 : decode cX9_path 73 = .ok (.iload_n 2, 1) := by decide +kernel
theorem dX9_path_74 : decode cX9_path 74 = .ok (.iload_n 3, 1) := by decide +kernel
theorem dX9_path_75 : decode cX9_path 75 = .ok (.invokevirtual 89, 3) := by decide +kernel
theorem dX9_path_78 : decode cX9_path 78 = .ok (.ireturn, 1) := by decide +kernel
theorem dX9_weather_0 : decode cX9_weather 0 = .ok (.iload_n 1, 1) := by decide +kernel
theorem dX9_weather_1 : decode cX9_weather 1 = .ok (.iconst 0, 1) := by decide +kernel
theorem dX9_weather_2 : decode cX9_weather 2 = .ok (.iconst 2, 1) := by decide +kernel
theorem dX9_weather_3 : decode cX9_weather 3 = .ok (.invokestatic 77, 3) := by decide +kernel
theorem dX9_weather_6 : decode cX9_weather 6 = .ok (.ifCond .eq 14, 3) := by decide +kernel
theorem dX9_weather_9 : decode cX9_weather 9 = .ok (.aload_n 0, 1) := by decide +kernel
theorem dX9_weather_10 : decode cX9_weather 10 = .ok (.getfield 21, 3) := by decide +kernel
theorem dX9_weather_13 : decode cX9_weather 13 = .ok (.iload_n 1, 1) := by decide +kernel
theorem dX9_weather_14 : decode cX9_weather 14 = .ok (.invokevirtual 93, 3) := by decide +kernel
theorem dX9_weather_17 : decode cX9_weather 17 = .ok (.goto 5, 3) := by decide +kernel
theorem dX9_weather_20 : decode cX9_weather 20 = .ok (.bipush (-3), 2) := by decide +kernel
theorem dX9_weather_22 : decode cX9_weather 22 = .ok (.ireturn, 1) := by decide +kernel
theorem dX9_days_0 : decode cX9_days 0 = .ok (.iload_n 1, 1) := by decide +kernel
theorem dX9_days_1 : decode cX9_days 1 = .ok (.iconst 1, 1) := by decide +kernel
theorem dX9_days_2 : decode cX9_days 2 = .ok (.bipush 30, 2) := by decide +kernel
theorem dX9_days_4 : decode cX9_days 4 = .ok (.invokestatic 77, 3) := by decide +kernel
theorem dX9_days_7 : decode cX9_days 7 = .ok (.ifCond .eq 18, 3) := by decide +kernel
theorem dX9_days_10 : decode cX9_days 10 = .ok (.aload_n 0, 1) := by decide +kernel
theorem dX9_days_11 : decode cX9_days 11 = .ok (.getfield 21, 3) := by decide +kernel
theorem dX9_days_14 : decode cX9_days 14 = .ok (.invokevirtual 97, 3) := by decide +kernel
theorem dX9_days_17 : decode cX9_days 17 = .ok (.iload_n 1, 1) := by decide +kernel
theorem dX9_days_18 : decode cX9_days 18 = .ok (.iadd, 1) := by decide +kernel
theorem dX9_days_19 : decode cX9_days 19 = .ok (.sipush 400, 3) := by decide +kernel
theorem dX9_days_22 : decode cX9_days 22 = .ok (.if_icmp .le 6, 3) := by decide +kernel
theorem dX9_days_25 : decode cX9_days 25 = .ok (.bipush (-3), 2) := by decide +kernel
theorem dX9_days_27 : decode cX9_days 27 = .ok (.ireturn, 1) := by decide +kernel
theorem dX9_days_28 : decode cX9_days 28 = .ok (.aload_n 0, 1) := by decide +kernel
theorem dX9_days_29 : decode cX9_days 29 = .ok (.getfield 21, 3) := by decide +kernel
theorem dX9_days_32 : decode cX9_days 32 = .ok (.iload_n 1, 1) := by decide +kernel
theorem dX9_days_33 : decode cX9_days 33 = .ok (.invokevirtual 100, 3) := by decide +kernel
theorem dX9_days_36 : decode cX9_days 36 = .ok (.ireturn, 1) := by decide +kernel
theorem dX9_sign_0 : decode cX9_sign 0 = .ok (.iload_n 1, 1) := by decide +kernel
theorem dX9_sign_1 : decode cX9_sign 1 = .ok (.invokestatic 73, 3) := by decide +kernel
theorem dX9_sign_4 : decode cX9_sign 4 = .ok (.ifCond .eq 22, 3) := by decide +kernel
theorem dX9_sign_7 : decode cX9_sign 7 = .ok (.iload_n 2, 1) := by decide +kernel
theorem dX9_sign_8 : decode cX9_sign 8 = .ok (.invokestatic 103, 3) := by decide +kernel
theorem dX9_sign_11 : decode cX9_sign 11 = .ok (.ifCond .eq 18, 3) := by decide +kernel
theorem dX9_sign_14 : decode cX9_sign 14 = .ok (.aload_n 0, 1) := by decide +kernel
theorem dX9_sign_15 : decode cX9_sign 15 = .ok (.getfield 10, 3) := by decide +kernel
theorem dX9_sign_18 : decode cX9_sign 18 = .ok (.iload_n 3, 1) := by decide +kernel
theorem dX9_sign_19 : decode cX9_sign 19 = .ok (.iload_n 1, 1) := by decide +kernel
theorem dX9_sign_20 : decode cX9_sign 20 = .ok (.invokevirtual 106, 3) := by decide +kernel
theorem dX9_sign_23 : decode cX9_sign 23 = .ok (.ifCond .ne 6, 3) := by decide +kernel
theorem dX9_sign_26 : decode cX9_sign 26 = .ok (.bipush (-2), 2) := by decide +kernel
theorem dX9_sign_28 : decode cX9_sign 28 = .ok (.ireturn, 1) := by decide +kernel
theorem dX9_sign_29 : decode cX9_sign 29 = .ok (.iload_n 2, 1) := by decide +kernel
theorem dX9_sign_30 : decode cX9_sign 30 = .ok (.iload_n 3, 1) := by decide +kernel
theorem dX9_sign_31 : decode cX9_sign 31 = .ok (.invokestatic 110, 3) := by decide +kernel
theorem dX9_sign_34 : decode cX9_sign 34 = .ok (.ifCond .eq 30, 3) := by decide +kernel
theorem dX9_sign_37 : decode cX9_sign 37 = .ok (.iload 4, 2) := by decide +kernel
theorem dX9_sign_39 : decode cX9_sign 39 = .ok (.iconst 1, 1) := by decide +kernel
theorem dX9_sign_40 : decode cX9_sign 40 = .ok (.bipush 60, 2) := by decide +kernel
theorem dX9_sign_42 : decode cX9_sign 42 = .ok (.invokestatic 77, 3) := by decide +kernel
theorem dX9_sign_45 : decode cX9_sign 45 = .ok (.ifCond .eq 19, 3) := by decide +kernel
theorem dX9_sign_48 : decode cX9_sign 48 = .ok (.iload 5, 2) := by decide +kernel
theorem dX9_sign_50 : decode cX9_sign 50 = .ok (.aload_n 0, 1) := by decide +kernel
theorem dX9_sign_51 : decode cX9_sign 51 = .ok (.getfield 10, 3) := by decide +kernel
theorem dX9_sign_54 : decode cX9_sign 54 = .ok (.iload_n 1, 1) := by decide +kernel
theorem dX9_sign_55 : decode cX9_sign 55 = .ok (.invokevirtual 113, 3) := by decide +kernel
theorem dX9_sign_58 : decode cX9_sign 58 = .ok (.iconst (-1), 1) := by decide +kernel
theorem dX9_sign_59 : decode cX9_sign 59 = .ok (.ixor, 1) := by decide +kernel
theorem dX9_sign_60 : decode cX9_sign 60 = .ok (.iand, 1) := by decide +kernel
theorem dX9_sign_61 : decode cX9_sign 61 = .ok (.ifCond .eq 6, 3) := by decide +kernel
theorem dX9_sign_64 : decode cX9_sign 64 = .ok (.bipush (-3), 2) := by decide +kernel
theorem dX9_sign_66 : decode cX9_sign 66 = .ok (.ireturn, 1) := by decide +kernel
theorem dX9_sign_67 : decode cX9_sign 67 = .ok (.aload_n 0, 1) := by decide +kernel
theorem dX9_sign_68 : decode cX9_sign 68 = .ok (.getfield 21, 3) := by decide +kernel
theorem dX9_sign_71 : decode cX9_sign 71 = .ok (.invokevirtual 116, 3) := by decide +kernel
theorem dX9_sign_74 : decode cX9_sign 74 = .ok (.bipush 24, 2) := by decide +kernel
theorem dX9_sign_76 : decode cX9_sign 76 = .ok (.if_icmp .lt 8, 3) := by decide +kernel
theorem dX9_sign_79 : decode cX9_sign 79 = .ok (.bipush (-5), 2) := by decide +kernel
theorem dX9_sign_81 : decode cX9_sign 81 = .ok (.goto 19, 3) := by decide +kernel
theorem dX9_sign_84 : decode cX9_sign 84 = .ok (.aload_n 0, 1) := by decide +kernel
theorem dX9_sign_85 : decode cX9_sign 85 = .ok (.getfield 21, 3) := by decide +kernel
theorem dX9_sign_88 : decode cX9_sign 88 = .ok (.iload_n 1, 1) := by decide +kernel
theorem dX9_sign_89 : decode cX9_sign 89 = .ok (.iload_n 2, 1) := by decide +kernel
theorem dX9_sign_90 : decode cX9_sign 90 = .ok (.iload_n 3, 1) := by decide +kernel
theorem dX9_sign_91 : decode cX9_sign 91 = .ok (.iload 4, 2) := by decide +kernel
theorem dX9_sign_93 : decode cX9_sign 93 = .ok (.iload 5, 2) := by decide +kernel
theorem dX9_sign_95 : decode cX9_sign 95 = .ok (.iload 6, 2) := by decide +kernel
theorem dX9_sign_97 : decode cX9_sign 97 = .ok (.invokevirtual 119, 3) := by decide +kernel
theorem dX9_sign_100 : decode cX9_sign 100 = .ok (.ireturn, 1) := by decide +kernel
theorem dX9_turn_0 : decode cX9_turn 0 = .ok (.iload_n 1, 1) := by decide +kernel
theorem dX9_turn_1 : decode cX9_turn 1 = .ok (.iconst 0, 1) := by decide +kernel
theorem dX9_turn_2 : decode cX9_turn 2 = .ok (.aload_n 0, 1) := by decide +kernel
theorem dX9_turn_3 : decode cX9_turn 3 = .ok (.getfield 21, 3) := by decide +kernel
theorem dX9_turn_6 : decode cX9_turn 6 = .ok (.invokevirtual 116, 3) := by decide +kernel
theorem dX9_turn_9 : decode cX9_turn 9 = .ok (.iconst 1, 1) := by decide +kernel
theorem dX9_turn_10 : decode cX9_turn 10 = .ok (.isub, 1) := by decide +kernel
theorem dX9_turn_11 : decode cX9_turn 11 = .ok (.invokestatic 77, 3) := by decide +kernel
theorem dX9_turn_14 : decode cX9_turn 14 = .ok (.ifCond .eq 22, 3) := by decide +kernel
theorem dX9_turn_17 : decode cX9_turn 17 = .ok (.aload_n 0, 1) := by decide +kernel
theorem dX9_turn_18 : decode cX9_turn 18 = .ok (.getfield 10, 3) := by decide +kernel
theorem dX9_turn_21 : decode cX9_turn 21 = .ok (.iload_n 2, 1) := by decide +kernel
theorem dX9_turn_22 : decode cX9_turn 22 = .ok (.aload_n 0, 1) := by decide +kernel
theorem dX9_turn_23 : decode cX9_turn 23 = .ok (.getfield 21, 3) := by decide +kernel
theorem dX9_turn_26 : decode cX9_turn 26 = .ok (.iload_n 1, 1) := by decide +kernel
theorem dX9_turn_27 : decode cX9_turn 27 = .ok (.invokevirtual 123, 3) := by decide +kernel
theorem dX9_turn_30 : decode cX9_turn 30 = .ok (.invokevirtual 106, 3) := by decide +kernel
theorem dX9_turn_33 : decode cX9_turn 33 = .ok (.ifCond .ne 6, 3) := by decide +kernel
theorem dX9_turn_36 : decode cX9_turn 36 = .ok (.bipush (-2), 2) := by decide +kernel
theorem dX9_turn_38 : decode cX9_turn 38 = .ok (.ireturn, 1) := by decide +kernel
theorem dX9_turn_39 : decode cX9_turn 39 = .ok (.aload_n 0, 1) := by decide +kernel
theorem dX9_turn_40 : decode cX9_turn 40 = .ok (.getfield 21, 3) := by decide +kernel
theorem dX9_turn_43 : decode cX9_turn 43 = .ok (.iload_n 1, 1) := by decide +kernel
theorem dX9_turn_44 : decode cX9_turn 44 = .ok (.invokevirtual 126, 3) := by decide +kernel
theorem dX9_turn_47 : decode cX9_turn 47 = .ok (.ifCond .ne 26, 3) := by decide +kernel
theorem dX9_turn_50 : decode cX9_turn 50 = .ok (.aload_n 0, 1) := by decide +kernel
theorem dX9_turn_51 : decode cX9_turn 51 = .ok (.getfield 21, 3) := by decide +kernel
theorem dX9_turn_54 : decode cX9_turn 54 = .ok (.iload_n 1, 1) := by decide +kernel
theorem dX9_turn_55 : decode cX9_turn 55 = .ok (.invokevirtual 129, 3) := by decide +kernel
theorem dX9_turn_58 : decode cX9_turn 58 = .ok (.ifCond .ne 15, 3) := by decide +kernel
theorem dX9_turn_61 : decode cX9_turn 61 = .ok (.aload_n 0, 1) := by decide +kernel
theorem dX9_turn_62 : decode cX9_turn 62 = .ok (.getfield 21, 3) := by decide +kernel
theorem dX9_turn_65 : decode cX9_turn 65 = .ok (.iload_n 1, 1) := by decide +kernel
theorem dX9_turn_66 : decode cX9_turn 66 = .ok (.invokevirtual 132, 3) := by decide +kernel
theorem dX9_turn_69 : decode cX9_turn 69 = .ok (.iload_n 2, 1) := by decide +kernel
theorem dX9_turn_70 : decode cX9_turn 70 = .ok (.if_icmp .ne 6, 3) := by decide +kernel
theorem dX9_turn_73 : decode cX9_turn 73 = .ok (.bipush (-4), 2) := by decide +kernel
theorem dX9_turn_75 : decode cX9_turn 75 = .ok (.ireturn, 1) := by decide +kernel
theorem dX9_turn_76 : decode cX9_turn 76 = .ok (.aload_n 0, 1) := by decide +kernel
theorem dX9_turn_77 : decode cX9_turn 77 = .ok (.getfield 21, 3) := by decide +kernel
theorem dX9_turn_80 : decode cX9_turn 80 = .ok (.iload_n 1, 1) := by decide +kernel
theorem dX9_turn_81 : decode cX9_turn 81 = .ok (.iload_n 2, 1) := by decide +kernel
theorem dX9_turn_82 : decode cX9_turn 82 = .ok (.invokevirtual 135, 3) := by decide +kernel
theorem dX9_turn_85 : decode cX9_turn 85 = .ok (.ireturn, 1) := by decide +kernel
theorem dX9_at_0 : decode cX9_at 0 = .ok (.iload_n 1, 1) := by decide +kernel
theorem dX9_at_1 : decode cX9_at 1 = .ok (.iconst 0, 1) := by decide +kernel
theorem dX9_at_2 : decode cX9_at 2 = .ok (.aload_n 0, 1) := by decide +kernel
theorem dX9_at_3 : decode cX9_at 3 = .ok (.getfield 21, 3) := by decide +kernel
theorem dX9_at_6 : decode cX9_at 6 = .ok (.invokevirtual 116, 3) := by decide +kernel
theorem dX9_at_9 : decode cX9_at 9 = .ok (.iconst 1, 1) := by decide +kernel
theorem dX9_at_10 : decode cX9_at 10 = .ok (.isub, 1) := by decide +kernel
theorem dX9_at_11 : decode cX9_at 11 = .ok (.invokestatic 77, 3) := by decide +kernel
theorem dX9_at_14 : decode cX9_at 14 = .ok (.ifCond .ne 6, 3) := by decide +kernel
theorem dX9_at_17 : decode cX9_at 17 = .ok (.bipush (-2), 2) := by decide +kernel
theorem dX9_at_19 : decode cX9_at 19 = .ok (.ireturn, 1) := by decide +kernel
theorem dX9_at_20 : decode cX9_at 20 = .ok (.iload_n 2, 1) := by decide +kernel
theorem dX9_at_21 : decode cX9_at 21 = .ok (.iconst 0, 1) := by decide +kernel
theorem dX9_at_22 : decode cX9_at 22 = .ok (.iconst 5, 1) := by decide +kernel
theorem dX9_at_23 : decode cX9_at 23 = .ok (.invokestatic 77, 3) := by decide +kernel
theorem dX9_at_26 : decode cX9_at 26 = .ok (.ifCond .eq 15, 3) := by decide +kernel
theorem dX9_at_29 : decode cX9_at 29 = .ok (.aload_n 0, 1) := by decide +kernel
theorem dX9_at_30 : decode cX9_at 30 = .ok (.getfield 21, 3) := by decide +kernel
theorem dX9_at_33 : decode cX9_at 33 = .ok (.iload_n 1, 1) := by decide +kernel
theorem dX9_at_34 : decode cX9_at 34 = .ok (.iload_n 2, 1) := by decide +kernel
theorem dX9_at_35 : decode cX9_at 35 = .ok (.invokevirtual 138, 3) := by decide +kernel
theorem dX9_at_38 : decode cX9_at 38 = .ok (.goto 5, 3) := by decide +kernel
theorem dX9_at_41 : decode cX9_at 41 = .ok (.bipush (-3), 2) := by decide +kernel
theorem dX9_at_43 : decode cX9_at 43 = .ok (.ireturn, 1) := by decide +kernel
theorem dX9_set_0 : decode cX9_set 0 = .ok (.iload_n 1, 1) := by decide +kernel
theorem dX9_set_1 : decode cX9_set 1 = .ok (.ifCond .ne 22, 3) := by decide +kernel
theorem dX9_set_4 : decode cX9_set 4 = .ok (.iload_n 2, 1) := by decide +kernel
theorem dX9_set_5 : decode cX9_set 5 = .ok (.iconst 0, 1) := by decide +kernel
theorem dX9_set_6 : decode cX9_set 6 = .ok (.bipush 9, 2) := by decide +kernel
theorem dX9_set_8 : decode cX9_set 8 = .ok (.invokestatic 77, 3) := by decide +kernel
theorem dX9_set_11 : decode cX9_set 11 = .ok (.ifCond .eq 12, 3) := by decide +kernel
theorem dX9_set_14 : decode cX9_set 14 = .ok (.aload_n 0, 1) := by decide +kernel
theorem dX9_set_15 : decode cX9_set 15 = .ok (.getfield 21, 3) := by decide +kernel
theorem dX9_set_18 : decode cX9_set 18 = .ok (.iload_n 2, 1) := by decide +kernel
theorem dX9_set_19 : decode cX9_set 19 = .ok (.invokevirtual 141, 3) := by decide +kernel
theorem dX9_set_22 : decode cX9_set 22 = .ok (.ireturn, 1) := by decide +kernel
theorem dX9_set_23 : decode cX9_set 23 = .ok (.iload_n 1, 1) := by decide +kernel
theorem dX9_set_24 : decode cX9_set 24 = .ok (.iconst 1, 1) := by decide +kernel
theorem dX9_set_25 : decode cX9_set 25 = .ok (.if_icmp .ne 22, 3) := by decide +kernel
theorem dX9_set_28 : decode cX9_set 28 = .ok (.iload_n 2, 1) := by decide +kernel
theorem dX9_set_29 : decode cX9_set 29 = .ok (.iconst 0, 1) := by decide +kernel
theorem dX9_set_30 : decode cX9_set 30 = .ok (.bipush 9, 2) := by decide +kernel
theorem dX9_set_32 : decode cX9_set 32 = .ok (.invokestatic 77, 3) := by decide +kernel
theorem dX9_set_35 : decode cX9_set 35 = .ok (.ifCond .eq 12, 3) := by decide +kernel
theorem dX9_set_38 : decode cX9_set 38 = .ok (.aload_n 0, 1) := by decide +kernel
theorem dX9_set_39 : decode cX9_set 39 = .ok (.getfield 46, 3) := by decide +kernel
theorem dX9_set_42 : decode cX9_set 42 = .ok (.iload_n 2, 1) := by decide +kernel
theorem dX9_set_43 : decode cX9_set 43 = .ok (.invokevirtual 144, 3) := by decide +kernel
theorem dX9_set_46 : decode cX9_set 46 = .ok (.ireturn, 1) := by decide +kernel
theorem dX9_set_47 : decode cX9_set 47 = .ok (.iload_n 1, 1) := by decide +kernel
theorem dX9_set_48 : decode cX9_set 48 = .ok (.iconst 2, 1) := by decide +kernel
theorem dX9_set_49 : decode cX9_set 49 = .ok (.if_icmp .ne 22, 3) := by decide +kernel
theorem dX9_set_52 : decode cX9_set 52 = .ok (.iload_n 2, 1) := by decide +kernel
theorem dX9_set_53 : decode cX9_set 53 = .ok (.iconst 1, 1) := by decide +kernel
theorem dX9_set_54 : decode cX9_set 54 = .ok (.bipush 40, 2) := by decide +kernel
theorem dX9_set_56 : decode cX9_set 56 = .ok (.invokestatic 77, 3) := by decide +kernel
theorem dX9_set_59 : decode cX9_set 59 = .ok (.ifCond .eq 12, 3) := by decide +kernel
theorem dX9_set_62 : decode cX9_set 62 = .ok (.aload_n 0, 1) := by decide +kernel
theorem dX9_set_63 : decode cX9_set 63 = .ok (.getfield 55, 3) := by decide +kernel
theorem dX9_set_66 : decode cX9_set 66 = .ok (.iload_n 2, 1) := by decide +kernel
theorem dX9_set_67 : decode cX9_set 67 = .ok (.invokevirtual 147, 3) := by decide +kernel
theorem dX9_set_70 : decode cX9_set 70 = .ok (.ireturn, 1) := by decide +kernel
theorem dX9_set_71 : decode cX9_set 71 = .ok (.bipush (-3), 2) := by decide +kernel
theorem dX9_set_73 : decode cX9_set 73 = .ok (.ireturn, 1) := by decide +kernel
theorem dX9_seen_0 : decode cX9_seen 0 = .ok (.iload_n 1, 1) := by decide +kernel
theorem dX9_seen_1 : decode cX9_seen 1 = .ok (.invokestatic 73, 3) := by decide +kernel
theorem dX9_seen_4 : decode cX9_seen 4 = .ok (.ifCond .eq 20, 3) := by decide +kernel
theorem dX9_seen_7 : decode cX9_seen 7 = .ok (.iload_n 2, 1) := by decide +kernel
theorem dX9_seen_8 : decode cX9_seen 8 = .ok (.iconst (-1), 1) := by decide +kernel
theorem dX9_seen_9 : decode cX9_seen 9 = .ok (.if_icmp .eq 18, 3) := by decide +kernel
theorem dX9_seen_12 : decode cX9_seen 12 = .ok (.aload_n 0, 1) := by decide +kernel
theorem dX9_seen_13 : decode cX9_seen 13 = .ok (.getfield 10, 3) := by decide +kernel
theorem dX9_seen_16 : decode cX9_seen 16 = .ok (.iload_n 2, 1) := by decide +kernel
theorem dX9_seen_17 : decode cX9_seen 17 = .ok (.iload_n 1, 1) := by decide +kernel
theorem dX9_seen_18 : decode cX9_seen 18 = .ok (.invokevirtual 106, 3) := by decide +kernel
theorem dX9_seen_21 : decode cX9_seen 21 = .ok (.ifCond .ne 6, 3) := by decide +kernel
theorem dX9_seen_24 : decode cX9_seen 24 = .ok (.bipush (-2), 2) := by decide +kernel
theorem dX9_seen_26 : decode cX9_seen 26 = .ok (.ireturn, 1) := by decide +kernel
theorem dX9_seen_27 : decode cX9_seen 27 = .ok (.aload_n 0, 1) := by decide +kernel
theorem dX9_seen_28 : decode cX9_seen 28 = .ok (.getfield 21, 3) := by decide +kernel
theorem dX9_seen_31 : decode cX9_seen 31 = .ok (.iload_n 1, 1) := by decide +kernel
theorem dX9_seen_32 : decode cX9_seen 32 = .ok (.iload_n 2, 1) := by decide +kernel
theorem dX9_seen_33 : decode cX9_seen 33 = .ok (.invokevirtual 150, 3) := by decide +kernel
theorem dX9_seen_36 : decode cX9_seen 36 = .ok (.ireturn, 1) := by decide +kernel
theorem dX9_walk_0 : decode cX9_walk 0 = .ok (.iload_n 1, 1) := by decide +kernel
theorem dX9_walk_1 : decode cX9_walk 1 = .ok (.invokestatic 73, 3) := by decide +kernel
theorem dX9_walk_4 : decode cX9_walk 4 = .ok (.ifCond .ne 6, 3) := by decide +kernel
theorem dX9_walk_7 : decode cX9_walk 7 = .ok (.bipush (-2), 2) := by decide +kernel
theorem dX9_walk_9 : decode cX9_walk 9 = .ok (.ireturn, 1) := by decide +kernel
theorem dX9_walk_10 : decode cX9_walk 10 = .ok (.iload_n 2, 1) := by decide +kernel
theorem dX9_walk_11 : decode cX9_walk 11 = .ok (.iconst 0, 1) := by decide +kernel
theorem dX9_walk_12 : decode cX9_walk 12 = .ok (.iconst 3, 1) := by decide +kernel
theorem dX9_walk_13 : decode cX9_walk 13 = .ok (.invokestatic 77, 3) := by decide +kernel
theorem dX9_walk_16 : decode cX9_walk 16 = .ok (.ifCond .ne 6, 3) := by decide +kernel
theorem dX9_walk_19 : decode cX9_walk 19 = .ok (.bipush (-3), 2) := by decide +kernel
theorem dX9_walk_21 : decode cX9_walk 21 = .ok (.ireturn, 1) := by decide +kernel
theorem dX9_walk_22 : decode cX9_walk 22 = .ok (.aload_n 0, 1) := by decide +kernel
theorem dX9_walk_23 : decode cX9_walk 23 = .ok (.getfield 30, 3) := by decide +kernel
theorem dX9_walk_26 : decode cX9_walk 26 = .ok (.iload_n 1, 1) := by decide +kernel
theorem dX9_walk_27 : decode cX9_walk 27 = .ok (.invokevirtual 153, 3) := by decide +kernel
theorem dX9_walk_30 : decode cX9_walk 30 = .ok (.aload_n 0, 1) := by decide +kernel
theorem dX9_walk_31 : decode cX9_walk 31 = .ok (.getfield 30, 3) := by decide +kernel
theorem dX9_walk_34 : decode cX9_walk 34 = .ok (.iload_n 2, 1) := by decide +kernel
theorem dX9_walk_35 : decode cX9_walk 35 = .ok (.invokevirtual 157, 3) := by decide +kernel
theorem dX9_walk_38 : decode cX9_walk 38 = .ok (.ireturn, 1) := by decide +kernel
theorem dX9_walked_0 : decode cX9_walked 0 = .ok (.iload_n 1, 1) := by decide +kernel
theorem dX9_walked_1 : decode cX9_walked 1 = .ok (.invokestatic 73, 3) := by decide +kernel
theorem dX9_walked_4 : decode cX9_walked 4 = .ok (.ifCond .ne 6, 3) := by decide +kernel
theorem dX9_walked_7 : decode cX9_walked 7 = .ok (.bipush (-2), 2) := by decide +kernel
theorem dX9_walked_9 : decode cX9_walked 9 = .ok (.ireturn, 1) := by decide +kernel
theorem dX9_walked_10 : decode cX9_walked 10 = .ok (.iload_n 2, 1) := by decide +kernel
theorem dX9_walked_11 : decode cX9_walked 11 = .ok (.ifCond .ge 6, 3) := by decide +kernel
theorem dX9_walked_14 : decode cX9_walked 14 = .ok (.bipush (-3), 2) := by decide +kernel
theorem dX9_walked_16 : decode cX9_walked 16 = .ok (.ireturn, 1) := by decide +kernel
theorem dX9_walked_17 : decode cX9_walked 17 = .ok (.aload_n 0, 1) := by decide +kernel
theorem dX9_walked_18 : decode cX9_walked 18 = .ok (.getfield 30, 3) := by decide +kernel
theorem dX9_walked_21 : decode cX9_walked 21 = .ok (.iload_n 1, 1) := by decide +kernel
theorem dX9_walked_22 : decode cX9_walked 22 = .ok (.invokevirtual 153, 3) := by decide +kernel
theorem dX9_walked_25 : decode cX9_walked 25 = .ok (.aload_n 0, 1) := by decide +kernel
theorem dX9_walked_26 : decode cX9_walked 26 = .ok (.getfield 30, 3) := by decide +kernel
theorem dX9_walked_29 : decode cX9_walked 29 = .ok (.iload_n 2, 1) := by decide +kernel
theorem dX9_walked_30 : decode cX9_walked 30 = .ok (.invokevirtual 159, 3) := by decide +kernel
theorem dX9_walked_33 : decode cX9_walked 33 = .ok (.ireturn, 1) := by decide +kernel
theorem dX9_note_0 : decode cX9_note 0 = .ok (.iload_n 1, 1) := by decide +kernel
theorem dX9_note_1 : decode cX9_note 1 = .ok (.iconst (-1), 1) := by decide +kernel
theorem dX9_note_2 : decode cX9_note 2 = .ok (.bipush 15, 2) := by decide +kernel
theorem dX9_note_4 : decode cX9_note 4 = .ok (.invokestatic 77, 3) := by decide +kernel
theorem dX9_note_7 : decode cX9_note 7 = .ok (.ifCond .ne 6, 3) := by decide +kernel
theorem dX9_note_10 : decode cX9_note 10 = .ok (.bipush (-3), 2) := by decide +kernel
theorem dX9_note_12 : decode cX9_note 12 = .ok (.ireturn, 1) := by decide +kernel
theorem dX9_note_13 : decode cX9_note 13 = .ok (.aload_n 0, 1) := by decide +kernel
theorem dX9_note_14 : decode cX9_note 14 = .ok (.getfield 37, 3) := by decide +kernel
theorem dX9_note_17 : decode cX9_note 17 = .ok (.invokevirtual 162, 3) := by decide +kernel
theorem dX9_note_20 : decode cX9_note 20 = .ok (.bipush 8, 2) := by decide +kernel
theorem dX9_note_22 : decode cX9_note 22 = .ok (.if_icmp .lt 8, 3) := by decide +kernel
theorem dX9_note_25 : decode cX9_note 25 = .ok (.bipush (-5), 2) := by decide +kernel
theorem dX9_note_27 : decode cX9_note 27 = .ok (.goto 11, 3) := by decide +kernel
theorem dX9_note_30 : decode cX9_note 30 = .ok (.aload_n 0, 1) := by decide +kernel
theorem dX9_note_31 : decode cX9_note 31 = .ok (.getfield 37, 3) := by decide +kernel
theorem dX9_note_34 : decode cX9_note 34 = .ok (.iload_n 1, 1) := by decide +kernel
theorem dX9_note_35 : decode cX9_note 35 = .ok (.invokevirtual 165, 3) := by decide +kernel
theorem dX9_note_38 : decode cX9_note 38 = .ok (.ireturn, 1) := by decide +kernel
theorem dX9_forget_0 : decode cX9_forget 0 = .ok (.aload_n 0, 1) := by decide +kernel
theorem dX9_forget_1 : decode cX9_forget 1 = .ok (.getfield 37, 3) := by decide +kernel
theorem dX9_forget_4 : decode cX9_forget 4 = .ok (.invokevirtual 168, 3) := by decide +kernel
theorem dX9_forget_7 : decode cX9_forget 7 = .ok (.ireturn, 1) := by decide +kernel
theorem dX9_ways_0 : decode cX9_ways 0 = .ok (.iload_n 1, 1) := by decide +kernel
theorem dX9_ways_1 : decode cX9_ways 1 = .ok (.invokestatic 73, 3) := by decide +kernel
theorem dX9_ways_4 : decode cX9_ways 4 = .ok (.ifCond .eq 14, 3) := by decide +kernel
theorem dX9_ways_7 : decode cX9_ways 7 = .ok (.aload_n 0, 1) := by decide +kernel
theorem dX9_ways_8 : decode cX9_ways 8 = .ok (.getfield 37, 3) := by decide +kernel
theorem dX9_ways_11 : decode cX9_ways 11 = .ok (.iload_n 1, 1) := by decide +kernel
theorem dX9_ways_12 : decode cX9_ways 12 = .ok (.invokevirtual 171, 3) := by decide +kernel
theorem dX9_ways_15 : decode cX9_ways 15 = .ok (.goto 5, 3) := by decide +kernel
theorem dX9_ways_18 : decode cX9_ways 18 = .ok (.bipush (-2), 2) := by decide +kernel
theorem dX9_ways_20 : decode cX9_ways 20 = .ok (.ireturn, 1) := by decide +kernel
theorem dX9_only_0 : decode cX9_only 0 = .ok (.iload_n 1, 1) := by decide +kernel
theorem dX9_only_1 : decode cX9_only 1 = .ok (.invokestatic 73, 3) := by decide +kernel
theorem dX9_only_4 : decode cX9_only 4 = .ok (.ifCond .ne 6, 3) := by decide +kernel
theorem dX9_only_7 : decode cX9_only 7 = .ok (.bipush (-2), 2) := by decide +kernel
theorem dX9_only_9 : decode cX9_only 9 = .ok (.ireturn, 1) := by decide +kernel
theorem dX9_only_10 : decode cX9_only 10 = .ok (.iload_n 2, 1) := by decide +kernel
theorem dX9_only_11 : decode cX9_only 11 = .ok (.ifCond .ge 6, 3) := by decide +kernel
theorem dX9_only_14 : decode cX9_only 14 = .ok (.bipush (-3), 2) := by decide +kernel
theorem dX9_only_16 : decode cX9_only 16 = .ok (.ireturn, 1) := by decide +kernel
theorem dX9_only_17 : decode cX9_only 17 = .ok (.aload_n 0, 1) := by decide +kernel
theorem dX9_only_18 : decode cX9_only 18 = .ok (.getfield 37, 3) := by decide +kernel
theorem dX9_only_21 : decode cX9_only 21 = .ok (.iload_n 1, 1) := by decide +kernel
theorem dX9_only_22 : decode cX9_only 22 = .ok (.invokevirtual 171, 3) := by decide +kernel
theorem dX9_only_25 : decode cX9_only 25 = .ok (.iconst 1, 1) := by decide +kernel
theorem dX9_only_26 : decode cX9_only 26 = .ok (.if_icmp .ne 15, 3) := by decide +kernel
theorem dX9_only_29 : decode cX9_only 29 = .ok (.aload_n 0, 1) := by decide +kernel
theorem dX9_only_30 : decode cX9_only 30 = .ok (.getfield 37, 3) := by decide +kernel
theorem dX9_only_33 : decode cX9_only 33 = .ok (.iload_n 1, 1) := by decide +kernel
theorem dX9_only_34 : decode cX9_only 34 = .ok (.iload_n 2, 1) := by decide +kernel
theorem dX9_only_35 : decode cX9_only 35 = .ok (.invokevirtual 174, 3) := by decide +kernel
theorem dX9_only_38 : decode cX9_only 38 = .ok (.goto 4, 3) := by decide +kernel
theorem dX9_only_41 : decode cX9_only 41 = .ok (.iconst (-1), 1) := by decide +kernel
theorem dX9_only_42 : decode cX9_only 42 = .ok (.ireturn, 1) := by decide +kernel
theorem dX9_route_0 : decode cX9_route 0 = .ok (.iload_n 1, 1) := by decide +kernel
theorem dX9_route_1 : decode cX9_route 1 = .ok (.invokestatic 73, 3) := by decide +kernel
theorem dX9_route_4 : decode cX9_route 4 = .ok (.ifCond .ne 6, 3) := by decide +kernel
theorem dX9_route_7 : decode cX9_route 7 = .ok (.bipush (-2), 2) := by decide +kernel
theorem dX9_route_9 : decode cX9_route 9 = .ok (.ireturn, 1) := by decide +kernel
theorem dX9_route_10 : decode cX9_route 10 = .ok (.aload_n 0, 1) := by decide +kernel
theorem dX9_route_11 : decode cX9_route 11 = .ok (.getfield 46, 3) := by decide +kernel
theorem dX9_route_14 : decode cX9_route 14 = .ok (.iload_n 1, 1) := by decide +kernel
theorem dX9_route_15 : decode cX9_route 15 = .ok (.invokevirtual 177, 3) := by decide +kernel
theorem dX9_route_18 : decode cX9_route 18 = .ok (.ifCond .ne 6, 3) := by decide +kernel
theorem dX9_route_21 : decode cX9_route 21 = .ok (.bipush (-4), 2) := by decide +kernel
theorem dX9_route_23 : decode cX9_route 23 = .ok (.ireturn, 1) := by decide +kernel
theorem dX9_route_24 : decode cX9_route 24 = .ok (.aload_n 0, 1) := by decide +kernel
theorem dX9_route_25 : decode cX9_route 25 = .ok (.getfield 46, 3) := by decide +kernel
theorem dX9_route_28 : decode cX9_route 28 = .ok (.invokevirtual 180, 3) := by decide +kernel
theorem dX9_route_31 : decode cX9_route 31 = .ok (.bipush 10, 2) := by decide +kernel
theorem dX9_route_33 : decode cX9_route 33 = .ok (.if_icmp .lt 8, 3) := by decide +kernel
theorem dX9_route_36 : decode cX9_route 36 = .ok (.bipush (-5), 2) := by decide +kernel
theorem dX9_route_38 : decode cX9_route 38 = .ok (.goto 11, 3) := by decide +kernel
theorem dX9_route_41 : decode cX9_route 41 = .ok (.aload_n 0, 1) := by decide +kernel
theorem dX9_route_42 : decode cX9_route 42 = .ok (.getfield 46, 3) := by decide +kernel
theorem dX9_route_45 : decode cX9_route 45 = .ok (.iload_n 1, 1) := by decide +kernel
theorem dX9_route_46 : decode cX9_route 46 = .ok (.invokevirtual 183, 3) := by decide +kernel
theorem dX9_route_49 : decode cX9_route 49 = .ok (.ireturn, 1) := by decide +kernel
theorem dX9_unroute_0 : decode cX9_unroute 0 = .ok (.aload_n 0, 1) := by decide +kernel
theorem dX9_unroute_1 : decode cX9_unroute 1 = .ok (.getfield 46, 3) := by decide +kernel
theorem dX9_unroute_4 : decode cX9_unroute 4 = .ok (.invokevirtual 186, 3) := by decide +kernel
theorem dX9_unroute_7 : decode cX9_unroute 7 = .ok (.ireturn, 1) := by decide +kernel
theorem dX9_needed_0 : decode cX9_needed 0 = .ok (.iload_n 1, 1) := by decide +kernel
theorem dX9_needed_1 : decode cX9_needed 1 = .ok (.iconst 0, 1) := by decide +kernel
theorem dX9_needed_2 : decode cX9_needed 2 = .ok (.iconst 1, 1) := by decide +kernel
theorem dX9_needed_3 : decode cX9_needed 3 = .ok (.invokestatic 77, 3) := by decide +kernel
theorem dX9_needed_6 : decode cX9_needed 6 = .ok (.ifCond .eq 14, 3) := by decide +kernel
theorem dX9_needed_9 : decode cX9_needed 9 = .ok (.aload_n 0, 1) := by decide +kernel
theorem dX9_needed_10 : decode cX9_needed 10 = .ok (.getfield 46, 3) := by decide +kernel
theorem dX9_needed_13 : decode cX9_needed 13 = .ok (.iload_n 1, 1) := by decide +kernel
theorem dX9_needed_14 : decode cX9_needed 14 = .ok (.invokevirtual 187, 3) := by decide +kernel
theorem dX9_needed_17 : decode cX9_needed 17 = .ok (.goto 5, 3) := by decide +kernel
theorem dX9_needed_20 : decode cX9_needed 20 = .ok (.bipush (-3), 2) := by decide +kernel
theorem dX9_needed_22 : decode cX9_needed 22 = .ok (.ireturn, 1) := by decide +kernel
theorem dX9_trail_0 : decode cX9_trail 0 = .ok (.iload_n 1, 1) := by decide +kernel
theorem dX9_trail_1 : decode cX9_trail 1 = .ok (.invokestatic 73, 3) := by decide +kernel
theorem dX9_trail_4 : decode cX9_trail 4 = .ok (.ifCond .ne 6, 3) := by decide +kernel
theorem dX9_trail_7 : decode cX9_trail 7 = .ok (.bipush (-2), 2) := by decide +kernel
theorem dX9_trail_9 : decode cX9_trail 9 = .ok (.ireturn, 1) := by decide +kernel
theorem dX9_trail_10 : decode cX9_trail 10 = .ok (.aload_n 0, 1) := by decide +kernel
theorem dX9_trail_11 : decode cX9_trail 11 = .ok (.getfield 55, 3) := by decide +kernel
theorem dX9_trail_14 : decode cX9_trail 14 = .ok (.invokevirtual 190, 3) := by decide +kernel
theorem dX9_trail_17 : decode cX9_trail 17 = .ok (.bipush 6, 2) := by decide +kernel
theorem dX9_trail_19 : decode cX9_trail 19 = .ok (.if_icmp .lt 8, 3) := by decide +kernel
theorem dX9_trail_22 : decode cX9_trail 22 = .ok (.bipush (-5), 2) := by decide +kernel
theorem dX9_trail_24 : decode cX9_trail 24 = .ok (.goto 12, 3) := by decide +kernel
theorem dX9_trail_27 : decode cX9_trail 27 = .ok (.aload_n 0, 1) := by decide +kernel
theorem dX9_trail_28 : decode cX9_trail 28 = .ok (.getfield 55, 3) := by decide +kernel
theorem dX9_trail_31 : decode cX9_trail 31 = .ok (.iload_n 1, 1) := by decide +kernel
theorem dX9_trail_32 : decode cX9_trail 32 = .ok (.iload_n 2, 1) := by decide +kernel
theorem dX9_trail_33 : decode cX9_trail 33 = .ok (.invokevirtual 193, 3) := by decide +kernel
theorem dX9_trail_36 : decode cX9_trail 36 = .ok (.ireturn, 1) := by decide +kernel
theorem dX9_add_0 : decode cX9_add 0 = .ok (.iload_n 1, 1) := by decide +kernel
theorem dX9_add_1 : decode cX9_add 1 = .ok (.iconst 0, 1) := by decide +kernel
theorem dX9_add_2 : decode cX9_add 2 = .ok (.aload_n 0, 1) := by decide +kernel
theorem dX9_add_3 : decode cX9_add 3 = .ok (.getfield 55, 3) := by decide +kernel
theorem dX9_add_6 : decode cX9_add 6 = .ok (.invokevirtual 190, 3) := by decide +kernel
theorem dX9_add_9 : decode cX9_add 9 = .ok (.iconst 1, 1) := by decide +kernel
theorem dX9_add_10 : decode cX9_add 10 = .ok (.isub, 1) := by decide +kernel
theorem dX9_add_11 : decode cX9_add 11 = .ok (.invokestatic 77, 3) := by decide +kernel
theorem dX9_add_14 : decode cX9_add 14 = .ok (.ifCond .eq 10, 3) := by decide +kernel
theorem dX9_add_17 : decode cX9_add 17 = .ok (.iload_n 2, 1) := by decide +kernel
theorem dX9_add_18 : decode cX9_add 18 = .ok (.invokestatic 73, 3) := by decide +kernel
theorem dX9_add_21 : decode cX9_add 21 = .ok (.ifCond .ne 6, 3) := by decide +kernel
theorem dX9_add_24 : decode cX9_add 24 = .ok (.bipush (-2), 2) := by decide +kernel
theorem dX9_add_26 : decode cX9_add 26 = .ok (.ireturn, 1) := by decide +kernel
theorem dX9_add_27 : decode cX9_add 27 = .ok (.aload_n 0, 1) := by decide +kernel
theorem dX9_add_28 : decode cX9_add 28 = .ok (.getfield 55, 3) := by decide +kernel
theorem dX9_add_31 : decode cX9_add 31 = .ok (.iload_n 1, 1) := by decide +kernel
theorem dX9_add_32 : decode cX9_add 32 = .ok (.iload_n 2, 1) := by decide +kernel
theorem dX9_add_33 : decode cX9_add 33 = .ok (.invokevirtual 197, 3) := by decide +kernel
theorem dX9_add_36 : decode cX9_add 36 = .ok (.ifCond .ne 6, 3) := by decide +kernel
theorem dX9_add_39 : decode cX9_add 39 = .ok (.bipush (-4), 2) := by decide +kernel
theorem dX9_add_41 : decode cX9_add 41 = .ok (.ireturn, 1) := by decide +kernel
theorem dX9_add_42 : decode cX9_add 42 = .ok (.aload_n 0, 1) := by decide +kernel
theorem dX9_add_43 : decode cX9_add 43 = .ok (.getfield 55, 3) := by decide +kernel
theorem dX9_add_46 : decode cX9_add 46 = .ok (.iload_n 1, 1) := by decide +kernel
theorem dX9_add_47 : decode cX9_add 47 = .ok (.invokevirtual 199, 3) := by decide +kernel
theorem dX9_add_50 : decode cX9_add 50 = .ok (.bipush 6, 2) := by decide +kernel
theorem dX9_add_52 : decode cX9_add 52 = .ok (.if_icmp .lt 8, 3) := by decide +kernel
theorem dX9_add_55 : decode cX9_add 55 = .ok (.bipush (-5), 2) := by decide +kernel
theorem dX9_add_57 : decode cX9_add 57 = .ok (.goto 12, 3) := by decide +kernel
theorem dX9_add_60 : decode cX9_add 60 = .ok (.aload_n 0, 1) := by decide +kernel
theorem dX9_add_61 : decode cX9_add 61 = .ok (.getfield 55, 3) := by decide +kernel
theorem dX9_add_64 : decode cX9_add 64 = .ok (.iload_n 1, 1) := by decide +kernel
theorem dX9_add_65 : decode cX9_add 65 = .ok (.iload_n 2, 1) := by decide +kernel
theorem dX9_add_66 : decode cX9_add 66 = .ok (.invokevirtual 202, 3) := by decide +kernel
theorem dX9_add_69 : decode cX9_add 69 = .ok (.ireturn, 1) := by decide +kernel
theorem dX9_breaks_0 : decode cX9_breaks 0 = .ok (.iload_n 1, 1) := by decide +kernel
theorem dX9_breaks_1 : decode cX9_breaks 1 = .ok (.iconst 0, 1) := by decide +kernel
theorem dX9_breaks_2 : decode cX9_breaks 2 = .ok (.aload_n 0, 1) := by decide +kernel
theorem dX9_breaks_3 : decode cX9_breaks 3 = .ok (.getfield 55, 3) := by decide +kernel
theorem dX9_breaks_6 : decode cX9_breaks 6 = .ok (.invokevirtual 190, 3) := by decide +kernel
theorem dX9_breaks_9 : decode cX9_breaks 9 = .ok (.iconst 1, 1) := by decide +kernel
theorem dX9_breaks_10 : decode cX9_breaks 10 = .ok (.isub, 1) := by decide +kernel
theorem dX9_breaks_11 : decode cX9_breaks 11 = .ok (.invokestatic 77, 3) := by decide +kernel
theorem dX9_breaks_14 : decode cX9_breaks 14 = .ok (.ifCond .eq 14, 3) := by decide +kernel
theorem dX9_breaks_17 : decode cX9_breaks 17 = .ok (.aload_n 0, 1) := by decide +kernel
theorem dX9_breaks_18 : decode cX9_breaks 18 = .ok (.getfield 55, 3) := by decide +kernel
theorem dX9_breaks_21 : decode cX9_breaks 21 = .ok (.iload_n 1, 1) := by decide +kernel
theorem dX9_breaks_22 : decode cX9_breaks 22 = .ok (.invokevirtual 204, 3) := by decide +kernel
theorem dX9_breaks_25 : decode cX9_breaks 25 = .ok (.goto 5, 3) := by decide +kernel
theorem dX9_breaks_28 : decode cX9_breaks 28 = .ok (.bipush (-2), 2) := by decide +kernel
theorem dX9_breaks_30 : decode cX9_breaks 30 = .ok (.ireturn, 1) := by decide +kernel
theorem dX9_branch_0 : decode cX9_branch 0 = .ok (.iload_n 1, 1) := by decide +kernel
theorem dX9_branch_1 : decode cX9_branch 1 = .ok (.iconst 1, 1) := by decide +kernel
theorem dX9_branch_2 : decode cX9_branch 2 = .ok (.bipush 20, 2) := by decide +kernel
theorem dX9_branch_4 : decode cX9_branch 4 = .ok (.invokestatic 77, 3) := by decide +kernel
theorem dX9_branch_7 : decode cX9_branch 7 = .ok (.ifCond .ne 6, 3) := by decide +kernel
theorem dX9_branch_10 : decode cX9_branch 10 = .ok (.bipush (-3), 2) := by decide +kernel
theorem dX9_branch_12 : decode cX9_branch 12 = .ok (.ireturn, 1) := by decide +kernel
theorem dX9_branch_13 : decode cX9_branch 13 = .ok (.aload_n 0, 1) := by decide +kernel
theorem dX9_branch_14 : decode cX9_branch 14 = .ok (.getfield 62, 3) := by decide +kernel
theorem dX9_branch_17 : decode cX9_branch 17 = .ok (.invokevirtual 207, 3) := by decide +kernel
theorem dX9_branch_20 : decode cX9_branch 20 = .ok (.iconst 5, 1) := by decide +kernel
theorem dX9_branch_21 : decode cX9_branch 21 = .ok (.if_icmp .lt 8, 3) := by decide +kernel
theorem dX9_branch_24 : decode cX9_branch 24 = .ok (.bipush (-5), 2) := by decide +kernel
theorem dX9_branch_26 : decode cX9_branch 26 = .ok (.goto 11, 3) := by decide +kernel
theorem dX9_branch_29 : decode cX9_branch 29 = .ok (.aload_n 0, 1) := by decide +kernel
theorem dX9_branch_30 : decode cX9_branch 30 = .ok (.getfield 62, 3) := by decide +kernel
theorem dX9_branch_33 : decode cX9_branch 33 = .ok (.iload_n 1, 1) := by decide +kernel
theorem dX9_branch_34 : decode cX9_branch 34 = .ok (.invokevirtual 210, 3) := by decide +kernel
theorem dX9_branch_37 : decode cX9_branch 37 = .ok (.ireturn, 1) := by decide +kernel
theorem dX9_unbranch_0 : decode cX9_unbranch 0 = .ok (.aload_n 0, 1) := by decide +kernel
theorem dX9_unbranch_1 : decode cX9_unbranch 1 = .ok (.getfield 62, 3) := by decide +kernel
theorem dX9_unbranch_4 : decode cX9_unbranch 4 = .ok (.invokevirtual 213, 3) := by decide +kernel
theorem dX9_unbranch_7 : decode cX9_unbranch 7 = .ok (.ireturn, 1) := by decide +kernel
theorem dX9_worst_0 : decode cX9_worst 0 = .ok (.iload_n 1, 1) := by decide +kernel
theorem dX9_worst_1 : decode cX9_worst 1 = .ok (.iconst 1, 1) := by decide +kernel
theorem dX9_worst_2 : decode cX9_worst 2 = .ok (.iconst 3, 1) := by decide +kernel
theorem dX9_worst_3 : decode cX9_worst 3 = .ok (.invokestatic 77, 3) := by decide +kernel
theorem dX9_worst_6 : decode cX9_worst 6 = .ok (.ifCond .eq 14, 3) := by decide +kernel
theorem dX9_worst_9 : decode cX9_worst 9 = .ok (.aload_n 0, 1) := by decide +kernel
theorem dX9_worst_10 : decode cX9_worst 10 = .ok (.getfield 62, 3) := by decide +kernel
theorem dX9_worst_13 : decode cX9_worst 13 = .ok (.iload_n 1, 1) := by decide +kernel
theorem dX9_worst_14 : decode cX9_worst 14 = .ok (.invokevirtual 214, 3) := by decide +kernel
theorem dX9_worst_17 : decode cX9_worst 17 = .ok (.goto 5, 3) := by decide +kernel
theorem dX9_worst_20 : decode cX9_worst 20 = .ok (.bipush (-3), 2) := by decide +kernel
theorem dX9_worst_22 : decode cX9_worst 22 = .ok (.ireturn, 1) := by decide +kernel
theorem dX9_split_0 : decode cX9_split 0 = .ok (.iload_n 2, 1) := by decide +kernel
theorem dX9_split_1 : decode cX9_split 1 = .ok (.iconst 0, 1) := by decide +kernel
theorem dX9_split_2 : decode cX9_split 2 = .ok (.aload_n 0, 1) := by decide +kernel
theorem dX9_split_3 : decode cX9_split 3 = .ok (.getfield 62, 3) := by decide +kernel
theorem dX9_split_6 : decode cX9_split 6 = .ok (.invokevirtual 207, 3) := by decide +kernel
theorem dX9_split_9 : decode cX9_split 9 = .ok (.iconst 1, 1) := by decide +kernel
theorem dX9_split_10 : decode cX9_split 10 = .ok (.isub, 1) := by decide +kernel
theorem dX9_split_11 : decode cX9_split 11 = .ok (.invokestatic 77, 3) := by decide +kernel
theorem dX9_split_14 : decode cX9_split 14 = .ok (.ifCond .ne 6, 3) := by decide +kernel
theorem dX9_split_17 : decode cX9_split 17 = .ok (.bipush (-2), 2) := by decide +kernel
theorem dX9_split_19 : decode cX9_split 19 = .ok (.ireturn, 1) := by decide +kernel
theorem dX9_split_20 : decode cX9_split 20 = .ok (.iload_n 1, 1) := by decide +kernel
theorem dX9_split_21 : decode cX9_split 21 = .ok (.iconst 1, 1) := by decide +kernel
theorem dX9_split_22 : decode cX9_split 22 = .ok (.iconst 3, 1) := by decide +kernel
theorem dX9_split_23 : decode cX9_split 23 = .ok (.invokestatic 77, 3) := by decide +kernel
theorem dX9_split_26 : decode cX9_split 26 = .ok (.ifCond .eq 12, 3) := by decide +kernel
theorem dX9_split_29 : decode cX9_split 29 = .ok (.iload_n 3, 1) := by decide +kernel
theorem dX9_split_30 : decode cX9_split 30 = .ok (.iconst 0, 1) := by decide +kernel
theorem dX9_split_31 : decode cX9_split 31 = .ok (.iconst 1, 1) := by decide +kernel
theorem dX9_split_32 : decode cX9_split 32 = .ok (.invokestatic 77, 3) := by decide +kernel
theorem dX9_split_35 : decode cX9_split 35 = .ok (.ifCond .ne 6, 3) := by decide +kernel
theorem dX9_split_38 : decode cX9_split 38 = .ok (.bipush (-3), 2) := by decide +kernel
theorem dX9_split_40 : decode cX9_split 40 = .ok (.ireturn, 1) := by decide +kernel
theorem dX9_split_41 : decode cX9_split 41 = .ok (.aload_n 0, 1) := by decide +kernel
theorem dX9_split_42 : decode cX9_split 42 = .ok (.getfield 62, 3) := by decide +kernel
theorem dX9_split_45 : decode cX9_split 45 = .ok (.iload_n 1, 1) := by decide +kernel
theorem dX9_split_46 : decode cX9_split 46 = .ok (.invokevirtual 214, 3) := by decide +kernel
theorem dX9_split_49 : decode cX9_split 49 = .ok (.pop, 1) := by decide +kernel
theorem dX9_split_50 : decode cX9_split 50 = .ok (.iload_n 3, 1) := by decide +kernel
theorem dX9_split_51 : decode cX9_split 51 = .ok (.ifCond .ne 14, 3) := by decide +kernel
theorem dX9_split_54 : decode cX9_split 54 = .ok (.aload_n 0, 1) := by decide +kernel
theorem dX9_split_55 : decode cX9_split 55 = .ok (.getfield 62, 3) := by decide +kernel
theorem dX9_split_58 : decode cX9_split 58 = .ok (.iload_n 2, 1) := by decide +kernel
theorem dX9_split_59 : decode cX9_split 59 = .ok (.invokevirtual 217, 3) := by decide +kernel
theorem dX9_split_62 : decode cX9_split 62 = .ok (.goto 11, 3) := by decide +kernel
theorem dX9_split_65 : decode cX9_split 65 = .ok (.aload_n 0, 1) := by decide +kernel
theorem dX9_split_66 : decode cX9_split 66 = .ok (.getfield 62, 3) := by decide +kernel
theorem dX9_split_69 : decode cX9_split 69 = .ok (.iload_n 2, 1) := by decide +kernel
theorem dX9_split_70 : decode cX9_split 70 = .ok (.invokevirtual 220, 3) := by decide +kernel
theorem dX9_split_73 : decode cX9_split 73 = .ok (.ireturn, 1) := by decide +kernel
theorem dX9_club_0 : decode cX9_club 0 = .ok (.iload_n 1, 1) := by decide +kernel
theorem dX9_club_1 : decode cX9_club 1 = .ok (.invokestatic 223, 3) := by decide +kernel
theorem dX9_club_4 : decode cX9_club 4 = .ok (.ifCond .ne 6, 3) := by decide +kernel
theorem dX9_club_7 : decode cX9_club 7 = .ok (.bipush (-2), 2) := by decide +kernel
theorem dX9_club_9 : decode cX9_club 9 = .ok (.ireturn, 1) := by decide +kernel
theorem dX9_club_10 : decode cX9_club 10 = .ok (.iload_n 2, 1) := by decide +kernel
theorem dX9_club_11 : decode cX9_club 11 = .ok (.aload_n 0, 1) := by decide +kernel
theorem dX9_club_12 : decode cX9_club 12 = .ok (.getfield 10, 3) := by decide +kernel
theorem dX9_club_15 : decode cX9_club 15 = .ok (.invokevirtual 226, 3) := by decide +kernel
theorem dX9_club_18 : decode cX9_club 18 = .ok (.iconst (-1), 1) := by decide +kernel
theorem dX9_club_19 : decode cX9_club 19 = .ok (.ixor, 1) := by decide +kernel
theorem dX9_club_20 : decode cX9_club 20 = .ok (.iand, 1) := by decide +kernel
theorem dX9_club_21 : decode cX9_club 21 = .ok (.ifCond .ne 15, 3) := by decide +kernel
theorem dX9_club_24 : decode cX9_club 24 = .ok (.aload_n 0, 1) := by decide +kernel
theorem dX9_club_25 : decode cX9_club 25 = .ok (.getfield 69, 3) := by decide +kernel
theorem dX9_club_28 : decode cX9_club 28 = .ok (.iload_n 1, 1) := by decide +kernel
theorem dX9_club_29 : decode cX9_club 29 = .ok (.iload_n 2, 1) := by decide +kernel
theorem dX9_club_30 : decode cX9_club 30 = .ok (.invokevirtual 229, 3) := by decide +kernel
theorem dX9_club_33 : decode cX9_club 33 = .ok (.goto 5, 3) := by decide +kernel
theorem dX9_club_36 : decode cX9_club 36 = .ok (.bipush (-3), 2) := by decide +kernel
theorem dX9_club_38 : decode cX9_club 38 = .ok (.ireturn, 1) := by decide +kernel
theorem dX9_colour_0 : decode cX9_colour 0 = .ok (.iload_n 1, 1) := by decide +kernel
theorem dX9_colour_1 : decode cX9_colour 1 = .ok (.invokestatic 223, 3) := by decide +kernel
theorem dX9_colour_4 : decode cX9_colour 4 = .ok (.ifCond .ne 6, 3) := by decide +kernel
theorem dX9_colour_7 : decode cX9_colour 7 = .ok (.bipush (-2), 2) := by decide +kernel
theorem dX9_colour_9 : decode cX9_colour 9 = .ok (.ireturn, 1) := by decide +kernel
theorem dX9_colour_10 : decode cX9_colour 10 = .ok (.iload_n 2, 1) := by decide +kernel
theorem dX9_colour_11 : decode cX9_colour 11 = .ok (.invokestatic 232, 3) := by decide +kernel
theorem dX9_colour_14 : decode cX9_colour 14 = .ok (.ifCond .eq 14, 3) := by decide +kernel
theorem dX9_colour_17 : decode cX9_colour 17 = .ok (.iload_n 3, 1) := by decide +kernel
theorem dX9_colour_18 : decode cX9_colour 18 = .ok (.iconst 0, 1) := by decide +kernel
theorem dX9_colour_19 : decode cX9_colour 19 = .ok (.sipush 400, 3) := by decide +kernel
theorem dX9_colour_22 : decode cX9_colour 22 = .ok (.invokestatic 77, 3) := by decide +kernel
theorem dX9_colour_25 : decode cX9_colour 25 = .ok (.ifCond .ne 6, 3) := by decide +kernel
theorem dX9_colour_28 : decode cX9_colour 28 = .ok (.bipush (-3), 2) := by decide +kernel
theorem dX9_colour_30 : decode cX9_colour 30 = .ok (.ireturn, 1) := by decide +kernel
theorem dX9_colour_31 : decode cX9_colour 31 = .ok (.aload_n 0, 1) := by decide +kernel
theorem dX9_colour_32 : decode cX9_colour 32 = .ok (.getfield 69, 3) := by decide +kernel
theorem dX9_colour_35 : decode cX9_colour 35 = .ok (.invokevirtual 235, 3) := by decide +kernel
theorem dX9_colour_38 : decode cX9_colour 38 = .ok (.bipush 8, 2) := by decide +kernel
theorem dX9_colour_40 : decode cX9_colour 40 = .ok (.if_icmp .lt 8, 3) := by decide +kernel
theorem dX9_colour_43 : decode cX9_colour 43 = .ok (.bipush (-5), 2) := by decide +kernel
theorem dX9_colour_45 : decode cX9_colour 45 = .ok (.goto 13, 3) := by decide +kernel
theorem dX9_colour_48 : decode cX9_colour 48 = .ok (.aload_n 0, 1) := by decide +kernel
theorem dX9_colour_49 : decode cX9_colour 49 = .ok (.getfield 69, 3) := by decide +kernel
theorem dX9_colour_52 : decode cX9_colour 52 = .ok (.iload_n 1, 1) := by decide +kernel
theorem dX9_colour_53 : decode cX9_colour 53 = .ok (.iload_n 2, 1) := by decide +kernel
theorem dX9_colour_54 : decode cX9_colour 54 = .ok (.iload_n 3, 1) := by decide +kernel
theorem dX9_colour_55 : decode cX9_colour 55 = .ok (.invokevirtual 238, 3) := by decide +kernel
theorem dX9_colour_58 : decode cX9_colour 58 = .ok (.ireturn, 1) := by decide +kernel
theorem dX9_whose_0 : decode cX9_whose 0 = .ok (.iload_n 1, 1) := by decide +kernel
theorem dX9_whose_1 : decode cX9_whose 1 = .ok (.iconst 0, 1) := by decide +kernel
theorem dX9_whose_2 : decode cX9_whose 2 = .ok (.aload_n 0, 1) := by decide +kernel
theorem dX9_whose_3 : decode cX9_whose 3 = .ok (.getfield 10, 3) := by decide +kernel
theorem dX9_whose_6 : decode cX9_whose 6 = .ok (.invokevirtual 85, 3) := by decide +kernel
theorem dX9_whose_9 : decode cX9_whose 9 = .ok (.iconst 1, 1) := by decide +kernel
theorem dX9_whose_10 : decode cX9_whose 10 = .ok (.isub, 1) := by decide +kernel
theorem dX9_whose_11 : decode cX9_whose 11 = .ok (.invokestatic 77, 3) := by decide +kernel
theorem dX9_whose_14 : decode cX9_whose 14 = .ok (.ifCond .ne 6, 3) := by decide +kernel
theorem dX9_whose_17 : decode cX9_whose 17 = .ok (.bipush (-2), 2) := by decide +kernel
theorem dX9_whose_19 : decode cX9_whose 19 = .ok (.ireturn, 1) := by decide +kernel
theorem dX9_whose_20 : decode cX9_whose 20 = .ok (.iload_n 2, 1) := by decide +kernel
theorem dX9_whose_21 : decode cX9_whose 21 = .ok (.invokestatic 232, 3) := by decide +kernel
theorem dX9_whose_24 : decode cX9_whose 24 = .ok (.ifCond .eq 24, 3) := by decide +kernel
theorem dX9_whose_27 : decode cX9_whose 27 = .ok (.iload_n 3, 1) := by decide +kernel
theorem dX9_whose_28 : decode cX9_whose 28 = .ok (.iconst 0, 1) := by decide +kernel
theorem dX9_whose_29 : decode cX9_whose 29 = .ok (.sipush 400, 3) := by decide +kernel
theorem dX9_whose_32 : decode cX9_whose 32 = .ok (.invokestatic 77, 3) := by decide +kernel
theorem dX9_whose_35 : decode cX9_whose 35 = .ok (.ifCond .eq 13, 3) := by decide +kernel
theorem dX9_whose_38 : decode cX9_whose 38 = .ok (.iload 4, 2) := by decide +kernel
theorem dX9_whose_40 : decode cX9_whose 40 = .ok (.iconst 0, 1) := by decide +kernel
theorem dX9_whose_41 : decode cX9_whose 41 = .ok (.iconst 1, 1) := by decide +kernel
theorem dX9_whose_42 : decode cX9_whose 42 = .ok (.invokestatic 77, 3) := by decide +kernel
theorem dX9_whose_45 : decode cX9_whose 45 = .ok (.ifCond .ne 6, 3) := by decide +kernel
theorem dX9_whose_48 : decode cX9_whose 48 = .ok (.bipush (-3), 2) := by decide +kernel
theorem dX9_whose_50 : decode cX9_whose 50 = .ok (.ireturn, 1) := by decide +kernel
theorem dX9_whose_51 : decode cX9_whose 51 = .ok (.aload_n 0, 1) := by decide +kernel
theorem dX9_whose_52 : decode cX9_whose 52 = .ok (.getfield 69, 3) := by decide +kernel
theorem dX9_whose_55 : decode cX9_whose 55 = .ok (.iload_n 1, 1) := by decide +kernel
theorem dX9_whose_56 : decode cX9_whose 56 = .ok (.iload_n 2, 1) := by decide +kernel
theorem dX9_whose_57 : decode cX9_whose 57 = .ok (.iload_n 3, 1) := by decide +kernel
theorem dX9_whose_58 : decode cX9_whose 58 = .ok (.iload 4, 2) := by decide +kernel
theorem dX9_whose_60 : decode cX9_whose 60 = .ok (.iconst 1, 1) := by decide +kernel
theorem dX9_whose_61 : decode cX9_whose 61 = .ok (.if_icmp .ne 7, 3) := by decide +kernel
theorem dX9_whose_64 : decode cX9_whose 64 = .ok (.iconst 1, 1) := by decide +kernel
theorem dX9_whose_65 : decode cX9_whose 65 = .ok (.goto 4, 3) := by decide +kernel
theorem dX9_whose_68 : decode cX9_whose 68 = .ok (.iconst 0, 1) := by decide +kernel
theorem dX9_whose_69 : decode cX9_whose 69 = .ok (.invokevirtual 241, 3) := by decide +kernel
theorem dX9_whose_72 : decode cX9_whose 72 = .ok (.ireturn, 1) := by decide +kernel
theorem dX9_count_0 : decode cX9_count 0 = .ok (.iload_n 1, 1) := by decide +kernel
theorem dX9_count_1 : decode cX9_count 1 = .ok (.tableswitch 111 0 7 #[47, 55, 63, 71, 79, 87, 95, 103], 47) := by decide +kernel
theorem dX9_count_48 : decode cX9_count 48 = .ok (.aload_n 0, 1) := by decide +kernel
theorem dX9_count_49 : decode cX9_count 49 = .ok (.getfield 10, 3) := by decide +kernel
theorem dX9_count_52 : decode cX9_count 52 = .ok (.invokevirtual 85, 3) := by decide +kernel
theorem dX9_count_55 : decode cX9_count 55 = .ok (.ireturn, 1) := by decide +kernel
theorem dX9_count_56 : decode cX9_count 56 = .ok (.aload_n 0, 1) := by decide +kernel
theorem dX9_count_57 : decode cX9_count 57 = .ok (.getfield 21, 3) := by decide +kernel
theorem dX9_count_60 : decode cX9_count 60 = .ok (.invokevirtual 116, 3) := by decide +kernel
theorem dX9_count_63 : decode cX9_count 63 = .ok (.ireturn, 1) := by decide +kernel
theorem dX9_count_64 : decode cX9_count 64 = .ok (.aload_n 0, 1) := by decide +kernel
theorem dX9_count_65 : decode cX9_count 65 = .ok (.getfield 21, 3) := by decide +kernel
theorem dX9_count_68 : decode cX9_count 68 = .ok (.invokevirtual 245, 3) := by decide +kernel
theorem dX9_count_71 : decode cX9_count 71 = .ok (.ireturn, 1) := by decide +kernel
theorem dX9_count_72 : decode cX9_count 72 = .ok (.aload_n 0, 1) := by decide +kernel
theorem dX9_count_73 : decode cX9_count 73 = .ok (.getfield 21, 3) := by decide +kernel
theorem dX9_count_76 : decode cX9_count 76 = .ok (.invokevirtual 97, 3) := by decide +kernel
theorem dX9_count_79 : decode cX9_count 79 = .ok (.ireturn, 1) := by decide +kernel
theorem dX9_count_80 : decode cX9_count 80 = .ok (.aload_n 0, 1) := by decide +kernel
theorem dX9_count_81 : decode cX9_count 81 = .ok (.getfield 37, 3) := by decide +kernel
theorem dX9_count_84 : decode cX9_count 84 = .ok (.invokevirtual 162, 3) := by decide +kernel
theorem dX9_count_87 : decode cX9_count 87 = .ok (.ireturn, 1) := by decide +kernel
theorem dX9_count_88 : decode cX9_count 88 = .ok (.aload_n 0, 1) := by decide +kernel
theorem dX9_count_89 : decode cX9_count 89 = .ok (.getfield 46, 3) := by decide +kernel
theorem dX9_count_92 : decode cX9_count 92 = .ok (.invokevirtual 180, 3) := by decide +kernel
theorem dX9_count_95 : decode cX9_count 95 = .ok (.ireturn, 1) := by decide +kernel
theorem dX9_count_96 : decode cX9_count 96 = .ok (.aload_n 0, 1) := by decide +kernel
theorem dX9_count_97 : decode cX9_count 97 = .ok (.getfield 55, 3) := by decide +kernel
theorem dX9_count_100 : decode cX9_count 100 = .ok (.invokevirtual 190, 3) := by decide +kernel
theorem dX9_count_103 : decode cX9_count 103 = .ok (.ireturn, 1) := by decide +kernel
theorem dX9_count_104 : decode cX9_count 104 = .ok (.aload_n 0, 1) := by decide +kernel
theorem dX9_count_105 : decode cX9_count 105 = .ok (.getfield 62, 3) := by decide +kernel
theorem dX9_count_108 : decode cX9_count 108 = .ok (.invokevirtual 207, 3) := by decide +kernel
theorem dX9_count_111 : decode cX9_count 111 = .ok (.ireturn, 1) := by decide +kernel
theorem dX9_count_112 : decode cX9_count 112 = .ok (.bipush (-3), 2) := by decide +kernel
theorem dX9_count_114 : decode cX9_count 114 = .ok (.ireturn, 1) := by decide +kernel
theorem dX9_isWithin_0 : decode cX9_isWithin 0 = .ok (.iload_n 0, 1) := by decide +kernel
theorem dX9_isWithin_1 : decode cX9_isWithin 1 = .ok (.iload_n 1, 1) := by decide +kernel
theorem dX9_isWithin_2 : decode cX9_isWithin 2 = .ok (.if_icmp .lt 12, 3) := by decide +kernel
theorem dX9_isWithin_5 : decode cX9_isWithin 5 = .ok (.iload_n 0, 1) := by decide +kernel
theorem dX9_isWithin_6 : decode cX9_isWithin 6 = .ok (.iload_n 2, 1) := by decide +kernel
theorem dX9_isWithin_7 : decode cX9_isWithin 7 = .ok (.if_icmp .gt 7, 3) := by decide +kernel
theorem dX9_isWithin_10 : decode cX9_isWithin 10 = .ok (.iconst 1, 1) := by decide +kernel
theorem dX9_isWithin_11 : decode cX9_isWithin 11 = .ok (.goto 4, 3) := by decide +kernel
theorem dX9_isWithin_14 : decode cX9_isWithin 14 = .ok (.iconst 0, 1) := by decide +kernel
theorem dX9_isWithin_15 : decode cX9_isWithin 15 = .ok (.ireturn, 1) := by decide +kernel
theorem dX9_isPlace_0 : decode cX9_isPlace 0 = .ok (.iload_n 0, 1) := by decide +kernel
theorem dX9_isPlace_1 : decode cX9_isPlace 1 = .ok (.iconst 0, 1) := by decide +kernel
theorem dX9_isPlace_2 : decode cX9_isPlace 2 = .ok (.bipush 9, 2) := by decide +kernel
theorem dX9_isPlace_4 : decode cX9_isPlace 4 = .ok (.invokestatic 77, 3) := by decide +kernel
theorem dX9_isPlace_7 : decode cX9_isPlace 7 = .ok (.ireturn, 1) := by decide +kernel
theorem dX9_isClub_0 : decode cX9_isClub 0 = .ok (.iload_n 0, 1) := by decide +kernel
theorem dX9_isClub_1 : decode cX9_isClub 1 = .ok (.iconst 0, 1) := by decide +kernel
theorem dX9_isClub_2 : decode cX9_isClub 2 = .ok (.iconst 3, 1) := by decide +kernel
theorem dX9_isClub_3 : decode cX9_isClub 3 = .ok (.invokestatic 77, 3) := by decide +kernel
theorem dX9_isClub_6 : decode cX9_isClub 6 = .ok (.ireturn, 1) := by decide +kernel
theorem dX9_isColour_0 : decode cX9_isColour 0 = .ok (.iload_n 0, 1) := by decide +kernel
theorem dX9_isColour_1 : decode cX9_isColour 1 = .ok (.iconst 0, 1) := by decide +kernel
theorem dX9_isColour_2 : decode cX9_isColour 2 = .ok (.iconst 5, 1) := by decide +kernel
theorem dX9_isColour_3 : decode cX9_isColour 3 = .ok (.invokestatic 77, 3) := by decide +kernel
theorem dX9_isColour_6 : decode cX9_isColour 6 = .ok (.ireturn, 1) := by decide +kernel
theorem dX9_isOfPath_0 : decode cX9_isOfPath 0 = .ok (.iload_n 0, 1) := by decide +kernel
theorem dX9_isOfPath_1 : decode cX9_isOfPath 1 = .ok (.ifCond .eq 8, 3) := by decide +kernel
theorem dX9_isOfPath_4 : decode cX9_isOfPath 4 = .ok (.iload_n 0, 1) := by decide +kernel
theorem dX9_isOfPath_5 : decode cX9_isOfPath 5 = .ok (.iconst 1, 1) := by decide +kernel
theorem dX9_isOfPath_6 : decode cX9_isOfPath 6 = .ok (.if_icmp .ne 7, 3) := by decide +kernel
theorem dX9_isOfPath_9 : decode cX9_isOfPath 9 = .ok (.iconst 1, 1) := by decide +kernel
theorem dX9_isOfPath_10 : decode cX9_isOfPath 10 = .ok (.goto 4, 3) := by decide +kernel
theorem dX9_isOfPath_13 : decode cX9_isOfPath 13 = .ok (.iconst 0, 1) := by decide +kernel
theorem dX9_isOfPath_14 : decode cX9_isOfPath 14 = .ok (.ireturn, 1) := by decide +kernel
theorem dX9_isSignValue_0 : decode cX9_isSignValue 0 = .ok (.iload_n 0, 1) := by decide +kernel
theorem dX9_isSignValue_1 : decode cX9_isSignValue 1 = .ok (.iconst 2, 1) := by decide +kernel
theorem dX9_isSignValue_2 : decode cX9_isSignValue 2 = .ok (.if_icmp .ne 11, 3) := by decide +kernel
theorem dX9_isSignValue_5 : decode cX9_isSignValue 5 = .ok (.iload_n 1, 1) := by decide +kernel
theorem dX9_isSignValue_6 : decode cX9_isSignValue 6 = .ok (.iconst 0, 1) := by decide +kernel
theorem dX9_isSignValue_7 : decode cX9_isSignValue 7 = .ok (.bipush 9, 2) := by decide +kernel
theorem dX9_isSignValue_9 : decode cX9_isSignValue 9 = .ok (.invokestatic 77, 3) := by decide +kernel
theorem dX9_isSignValue_12 : decode cX9_isSignValue 12 = .ok (.ireturn, 1) := by decide +kernel
theorem dX9_isSignValue_13 : decode cX9_isSignValue 13 = .ok (.iload_n 0, 1) := by decide +kernel
theorem dX9_isSignValue_14 : decode cX9_isSignValue 14 = .ok (.iconst 3, 1) := by decide +kernel
theorem dX9_isSignValue_15 : decode cX9_isSignValue 15 = .ok (.if_icmp .ne 10, 3) := by decide +kernel
theorem dX9_isSignValue_18 : decode cX9_isSignValue 18 = .ok (.iload_n 1, 1) := by decide +kernel
theorem dX9_isSignValue_19 : decode cX9_isSignValue 19 = .ok (.invokestatic 232, 3) := by decide +kernel
theorem dX9_isSignValue_22 : decode cX9_isSignValue 22 = .ok (.goto 7, 3) := by decide +kernel
theorem dX9_isSignValue_25 : decode cX9_isSignValue 25 = .ok (.iload_n 0, 1) := by decide +kernel
theorem dX9_isSignValue_26 : decode cX9_isSignValue 26 = .ok (.invokestatic 103, 3) := by decide +kernel
theorem dX9_isSignValue_29 : decode cX9_isSignValue 29 = .ok (.ireturn, 1) := by decide +kernel
theorem dX9_bitOf_0 : decode cX9_bitOf 0 = .ok (.iload_n 0, 1) := by decide +kernel
theorem dX9_bitOf_1 : decode cX9_bitOf 1 = .ok (.iconst 0, 1) := by decide +kernel
theorem dX9_bitOf_2 : decode cX9_bitOf 2 = .ok (.bipush 15, 2) := by decide +kernel
theorem dX9_bitOf_4 : decode cX9_bitOf 4 = .ok (.invokestatic 77, 3) := by decide +kernel
theorem dX9_bitOf_7 : decode cX9_bitOf 7 = .ok (.ifCond .eq 9, 3) := by decide +kernel
theorem dX9_bitOf_10 : decode cX9_bitOf 10 = .ok (.iconst 1, 1) := by decide +kernel
theorem dX9_bitOf_11 : decode cX9_bitOf 11 = .ok (.iload_n 0, 1) := by decide +kernel
theorem dX9_bitOf_12 : decode cX9_bitOf 12 = .ok (.ishl, 1) := by decide +kernel
theorem dX9_bitOf_13 : decode cX9_bitOf 13 = .ok (.goto 4, 3) := by decide +kernel
theorem dX9_bitOf_16 : decode cX9_bitOf 16 = .ok (.iconst 0, 1) := by decide +kernel
theorem dX9_bitOf_17 : decode cX9_bitOf 17 = .ok (.ireturn, 1) := by decide +kernel
