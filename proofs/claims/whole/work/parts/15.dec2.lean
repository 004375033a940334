theorem dX11_init_118 : decode cX11_init 118 = .ok (.aload_n 0, 1) := by decide +kernel
theorem dX11_init_119 : decode cX11_init 119 = .ok (.getfield 24, 3) := by decide +kernel
theorem dX11_init_122 : decode cX11_init 122 = .ok (.aload_n 0, 1) := by decide +kernel
theorem dX11_init_123 : decode cX11_init 123 = .ok (.getfield 31, 3) := by decide +kernel
theorem dX11_init_126 : decode cX11_init 126 = .ok (.aload_n 0, 1) := by decide +kernel
theorem dX11_init_127 : decode cX11_init 127 = .ok (.getfield 38, 3) := by decide +kernel
theorem dX11_init_130 : decode cX11_init 130 = .ok (.aload_n 0, 1) := by decide +kernel
theorem dX11_init_131 : decode cX11_init 131 = .ok (.getfield 45, 3) := by decide +kernel
theorem dX11_init_134 : decode cX11_init 134 = .ok (.aload_n 0, 1) := by decide +kernel
theorem dX11_init_135 : decode cX11_init 135 = .ok (.getfield 52, 3) := by decide +kernel
theorem dX11_init_138 : decode cX11_init 138 = .ok (.invokespecial 72, 3) := by decide +kernel
theorem dX11_init_141 : decode cX11_init 141 = .ok (.putfield 75, 3) := by decide +kernel
theorem dX11_init_144 : decode cX11_init 144 = .ok (.aload_n 0, 1) := by decide +kernel
theorem dX11_init_145 : decode cX11_init 145 = .ok (.new 79, 3) := by decide +kernel
theorem dX11_init_148 : decode cX11_init 148 = .ok (.dup, 1) := by decide +kernel
theorem dX11_init_149 : decode cX11_init 149 = .ok (.aload_n 0, 1) := by decide +kernel
theorem dX11_init_150 : decode cX11_init 150 = .ok (.getfield 24, 3) := by decide +kernel
theorem dX11_init_153 : decode cX11_init 153 = .ok (.aload_n 0, 1) := by decide +kernel
theorem dX11_init_154 : decode cX11_init 154 = .ok (.getfield 31, 3) := by decide +kernel
theorem dX11_init_157 : decode cX11_init 157 = .ok (.aload_n 0, 1) := by decide +kernel
theorem dX11_init_158 : decode cX11_init 158 = .ok (.getfield 38, 3) := by decide +kernel
theorem dX11_init_161 : decode cX11_init 161 = .ok (.aload_n 0, 1) := by decide +kernel
theorem dX11_init_162 : decode cX11_init 162 = .ok (.getfield 59, 3) := by decide +kernel
theorem dX11_init_165 : decode cX11_init 165 = .ok (.aload_n 0, 1) := by decide +kernel
theorem dX11_init_166 : decode cX11_init 166 = .ok (.getfield 66, 3) := by decide +kernel
theorem dX11_init_169 : decode cX11_init 169 = .ok (.invokespecial 81, 3) := by decide +kernel
theorem dX11_init_172 : decode cX11_init 172 = .ok (.putfield 84, 3) := by decide +kernel
theorem dX11_init_175 : decode cX11_init 175 = .ok (.aload_n 0, 1) := by decide +kernel
theorem dX11_init_176 : decode cX11_init 176 = .ok (.iconst (-1), 1) := by decide +kernel
theorem dX11_init_177 : decode cX11_init 177 = .ok (.putfield 88, 3) := by decide +kernel
theorem dX11_init_180 : decode cX11_init 180 = .ok (.return_, 1) := by decide +kernel
theorem dX11_feed_0 : decode cX11_feed 0 = .ok (.aload_n 0, 1) := by decide +kernel
theorem dX11_feed_1 : decode cX11_feed 1 = .ok (.getfield 14, 3) := by decide +kernel
theorem dX11_feed_4 : decode cX11_feed 4 = .ok (.getfield 92, 3) := by decide +kernel
theorem dX11_feed_7 : decode cX11_feed 7 = .ok (.bipush 20, 2) := by decide +kernel
theorem dX11_feed_9 : decode cX11_feed 9 = .ok (.iadd, 1) := by decide +kernel
theorem dX11_feed_10 : decode cX11_feed 10 = .ok (.sipush 3000, 3) := by decide +kernel
theorem dX11_feed_13 : decode cX11_feed 13 = .ok (.if_icmp .le 5, 3) := by decide +kernel
theorem dX11_feed_16 : decode cX11_feed 16 = .ok (.iconst (-1), 1) := by decide +kernel
theorem dX11_feed_17 : decode cX11_feed 17 = .ok (.ireturn, 1) := by decide +kernel
theorem dX11_feed_18 : decode cX11_feed 18 = .ok (.aload_n 0, 1) := by decide +kernel
theorem dX11_feed_19 : decode cX11_feed 19 = .ok (.getfield 14, 3) := by decide +kernel
theorem dX11_feed_22 : decode cX11_feed 22 = .ok (.iload_n 1, 1) := by decide +kernel
theorem dX11_feed_23 : decode cX11_feed 23 = .ok (.invokevirtual 95, 3) := by decide +kernel
theorem dX11_feed_26 : decode cX11_feed 26 = .ok (.aload_n 0, 1) := by decide +kernel
theorem dX11_feed_27 : decode cX11_feed 27 = .ok (.getfield 14, 3) := by decide +kernel
theorem dX11_feed_30 : decode cX11_feed 30 = .ok (.iload_n 2, 1) := by decide +kernel
theorem dX11_feed_31 : decode cX11_feed 31 = .ok (.invokevirtual 95, 3) := by decide +kernel
theorem dX11_feed_34 : decode cX11_feed 34 = .ok (.aload_n 0, 1) := by decide +kernel
theorem dX11_feed_35 : decode cX11_feed 35 = .ok (.getfield 14, 3) := by decide +kernel
theorem dX11_feed_38 : decode cX11_feed 38 = .ok (.iload_n 3, 1) := by decide +kernel
theorem dX11_feed_39 : decode cX11_feed 39 = .ok (.invokevirtual 95, 3) := by decide +kernel
theorem dX11_feed_42 : decode cX11_feed 42 = .ok (.aload_n 0, 1) := by decide +kernel
theorem dX11_feed_43 : decode cX11_feed 43 = .ok (.getfield 14, 3) := by decide +kernel
theorem dX11_feed_46 : decode cX11_feed 46 = .ok (.iload 4, 2) := by decide +kernel
theorem dX11_feed_48 : decode cX11_feed 48 = .ok (.invokevirtual 95, 3) := by decide +kernel
theorem dX11_feed_51 : decode cX11_feed 51 = .ok (.aload_n 0, 1) := by decide +kernel
theorem dX11_feed_52 : decode cX11_feed 52 = .ok (.getfield 14, 3) := by decide +kernel
theorem dX11_feed_55 : decode cX11_feed 55 = .ok (.iload 5, 2) := by decide +kernel
theorem dX11_feed_57 : decode cX11_feed 57 = .ok (.invokevirtual 95, 3) := by decide +kernel
theorem dX11_feed_60 : decode cX11_feed 60 = .ok (.aload_n 0, 1) := by decide +kernel
theorem dX11_feed_61 : decode cX11_feed 61 = .ok (.getfield 14, 3) := by decide +kernel
theorem dX11_feed_64 : decode cX11_feed 64 = .ok (.getfield 92, 3) := by decide +kernel
theorem dX11_feed_67 : decode cX11_feed 67 = .ok (.ireturn, 1) := by decide +kernel
theorem dX11_sitting_0 : decode cX11_sitting 0 = .ok (.aload_n 0, 1) := by decide +kernel
theorem dX11_sitting_1 : decode cX11_sitting 1 = .ok (.iload_n 1, 1) := by decide +kernel
theorem dX11_sitting_2 : decode cX11_sitting 2 = .ok (.invokevirtual 98, 3) := by decide +kernel
theorem dX11_sitting_5 : decode cX11_sitting 5 = .ok (.aload_n 0, 1) := by decide +kernel
theorem dX11_sitting_6 : decode cX11_sitting 6 = .ok (.getfield 101, 3) := by decide +kernel
theorem dX11_sitting_9 : decode cX11_sitting 9 = .ok (.bipush 8, 2) := by decide +kernel
theorem dX11_sitting_11 : decode cX11_sitting 11 = .ok (.if_icmp .lt 11, 3) := by decide +kernel
theorem dX11_sitting_14 : decode cX11_sitting 14 = .ok (.aload_n 0, 1) := by decide +kernel
theorem dX11_sitting_15 : decode cX11_sitting 15 = .ok (.iconst (-1), 1) := by decide +kernel
theorem dX11_sitting_16 : decode cX11_sitting 16 = .ok (.invokevirtual 104, 3) := by decide +kernel
theorem dX11_sitting_19 : decode cX11_sitting 19 = .ok (.bipush (-9), 2) := by decide +kernel
theorem dX11_sitting_21 : decode cX11_sitting 21 = .ok (.ireturn, 1) := by decide +kernel
theorem dX11_sitting_22 : decode cX11_sitting 22 = .ok (.aload_n 0, 1) := by decide +kernel
theorem dX11_sitting_23 : decode cX11_sitting 23 = .ok (.getfield 24, 3) := by decide +kernel
theorem dX11_sitting_26 : decode cX11_sitting 26 = .ok (.getfield 107, 3) := by decide +kernel
theorem dX11_sitting_29 : decode cX11_sitting 29 = .ok (.istore_n 2, 1) := by decide +kernel
theorem dX11_sitting_30 : decode cX11_sitting 30 = .ok (.aload_n 0, 1) := by decide +kernel
theorem dX11_sitting_31 : decode cX11_sitting 31 = .ok (.getfield 75, 3) := by decide +kernel
theorem dX11_sitting_34 : decode cX11_sitting 34 = .ok (.iload_n 1, 1) := by decide +kernel
theorem dX11_sitting_35 : decode cX11_sitting 35 = .ok (.aload_n 0, 1) := by decide +kernel
theorem dX11_sitting_36 : decode cX11_sitting 36 = .ok (.getfield 101, 3) := by decide +kernel
theorem dX11_sitting_39 : decode cX11_sitting 39 = .ok (.invokevirtual 108, 3) := by decide +kernel
theorem dX11_sitting_42 : decode cX11_sitting 42 = .ok (.istore_n 3, 1) := by decide +kernel
theorem dX11_sitting_43 : decode cX11_sitting 43 = .ok (.aload_n 0, 1) := by decide +kernel
theorem dX11_sitting_44 : decode cX11_sitting 44 = .ok (.aload_n 0, 1) := by decide +kernel
theorem dX11_sitting_45 : decode cX11_sitting 45 = .ok (.getfield 75, 3) := by decide +kernel
theorem dX11_sitting_48 : decode cX11_sitting 48 = .ok (.getfield 112, 3) := by decide +kernel
theorem dX11_sitting_51 : decode cX11_sitting 51 = .ok (.invokevirtual 104, 3) := by decide +kernel
theorem dX11_sitting_54 : decode cX11_sitting 54 = .ok (.iload_n 3, 1) := by decide +kernel
theorem dX11_sitting_55 : decode cX11_sitting 55 = .ok (.ifCond .eq 7, 3) := by decide +kernel
theorem dX11_sitting_58 : decode cX11_sitting 58 = .ok (.iconst (-1), 1) := by decide +kernel
theorem dX11_sitting_59 : decode cX11_sitting 59 = .ok (.iload_n 3, 1) := by decide +kernel
theorem dX11_sitting_60 : decode cX11_sitting 60 = .ok (.isub, 1) := by decide +kernel
theorem dX11_sitting_61 : decode cX11_sitting 61 = .ok (.ireturn, 1) := by decide +kernel
theorem dX11_sitting_62 : decode cX11_sitting 62 = .ok (.aload_n 0, 1) := by decide +kernel
theorem dX11_sitting_63 : decode cX11_sitting 63 = .ok (.dup, 1) := by decide +kernel
theorem dX11_sitting_64 : decode cX11_sitting 64 = .ok (.getfield 101, 3) := by decide +kernel
theorem dX11_sitting_67 : decode cX11_sitting 67 = .ok (.iconst 1, 1) := by decide +kernel
theorem dX11_sitting_68 : decode cX11_sitting 68 = .ok (.iadd, 1) := by decide +kernel
theorem dX11_sitting_69 : decode cX11_sitting 69 = .ok (.putfield 101, 3) := by decide +kernel
theorem dX11_sitting_72 : decode cX11_sitting 72 = .ok (.aload_n 0, 1) := by decide +kernel
theorem dX11_sitting_73 : decode cX11_sitting 73 = .ok (.getfield 24, 3) := by decide +kernel
theorem dX11_sitting_76 : decode cX11_sitting 76 = .ok (.getfield 107, 3) := by decide +kernel
theorem dX11_sitting_79 : decode cX11_sitting 79 = .ok (.iload_n 2, 1) := by decide +kernel
theorem dX11_sitting_80 : decode cX11_sitting 80 = .ok (.isub, 1) := by decide +kernel
theorem dX11_sitting_81 : decode cX11_sitting 81 = .ok (.ireturn, 1) := by decide +kernel
theorem dX11_fault_0 : decode cX11_fault 0 = .ok (.aload_n 0, 1) := by decide +kernel
theorem dX11_fault_1 : decode cX11_fault 1 = .ok (.getfield 88, 3) := by decide +kernel
theorem dX11_fault_4 : decode cX11_fault 4 = .ok (.ireturn, 1) := by decide +kernel
theorem dX11_right_0 : decode cX11_right 0 = .ok (.aload_n 0, 1) := by decide +kernel
theorem dX11_right_1 : decode cX11_right 1 = .ok (.getfield 24, 3) := by decide +kernel
theorem dX11_right_4 : decode cX11_right 4 = .ok (.iload_n 1, 1) := by decide +kernel
theorem dX11_right_5 : decode cX11_right 5 = .ok (.invokevirtual 115, 3) := by decide +kernel
theorem dX11_right_8 : decode cX11_right 8 = .ok (.invokestatic 119, 3) := by decide +kernel
theorem dX11_right_11 : decode cX11_right 11 = .ok (.aload_n 0, 1) := by decide +kernel
theorem dX11_right_12 : decode cX11_right 12 = .ok (.iload_n 2, 1) := by decide +kernel
theorem dX11_right_13 : decode cX11_right 13 = .ok (.invokevirtual 98, 3) := by decide +kernel
theorem dX11_right_16 : decode cX11_right 16 = .ok (.aload_n 0, 1) := by decide +kernel
theorem dX11_right_17 : decode cX11_right 17 = .ok (.getfield 24, 3) := by decide +kernel
theorem dX11_right_20 : decode cX11_right 20 = .ok (.getfield 123, 3) := by decide +kernel
theorem dX11_right_23 : decode cX11_right 23 = .ok (.iload_n 1, 1) := by decide +kernel
theorem dX11_right_24 : decode cX11_right 24 = .ok (.iaload, 1) := by decide +kernel
theorem dX11_right_25 : decode cX11_right 25 = .ok (.iconst 5, 1) := by decide +kernel
theorem dX11_right_26 : decode cX11_right 26 = .ok (.if_icmp .eq 23, 3) := by decide +kernel
theorem dX11_right_29 : decode cX11_right 29 = .ok (.aload_n 0, 1) := by decide +kernel
theorem dX11_right_30 : decode cX11_right 30 = .ok (.getfield 31, 3) := by decide +kernel
theorem dX11_right_33 : decode cX11_right 33 = .ok (.getfield 127, 3) := by decide +kernel
theorem dX11_right_36 : decode cX11_right 36 = .ok (.aload_n 0, 1) := by decide +kernel
theorem dX11_right_37 : decode cX11_right 37 = .ok (.getfield 24, 3) := by decide +kernel
theorem dX11_right_40 : decode cX11_right 40 = .ok (.getfield 107, 3) := by decide +kernel
theorem dX11_right_43 : decode cX11_right 43 = .ok (.isub, 1) := by decide +kernel
theorem dX11_right_44 : decode cX11_right 44 = .ok (.bipush 100, 2) := by decide +kernel
theorem dX11_right_46 : decode cX11_right 46 = .ok (.if_icmp .lt 11, 3) := by decide +kernel
theorem dX11_right_49 : decode cX11_right 49 = .ok (.aload_n 0, 1) := by decide +kernel
theorem dX11_right_50 : decode cX11_right 50 = .ok (.iconst (-1), 1) := by decide +kernel
theorem dX11_right_51 : decode cX11_right 51 = .ok (.invokevirtual 104, 3) := by decide +kernel
theorem dX11_right_54 : decode cX11_right 54 = .ok (.bipush (-9), 2) := by decide +kernel
theorem dX11_right_56 : decode cX11_right 56 = .ok (.ireturn, 1) := by decide +kernel
theorem dX11_right_57 : decode cX11_right 57 = .ok (.aload_n 0, 1) := by decide +kernel
theorem dX11_right_58 : decode cX11_right 58 = .ok (.getfield 75, 3) := by decide +kernel
theorem dX11_right_61 : decode cX11_right 61 = .ok (.iload_n 2, 1) := by decide +kernel
theorem dX11_right_62 : decode cX11_right 62 = .ok (.iload_n 1, 1) := by decide +kernel
theorem dX11_right_63 : decode cX11_right 63 = .ok (.aload_n 0, 1) := by decide +kernel
theorem dX11_right_64 : decode cX11_right 64 = .ok (.getfield 128, 3) := by decide +kernel
theorem dX11_right_67 : decode cX11_right 67 = .ok (.invokevirtual 131, 3) := by decide +kernel
theorem dX11_right_70 : decode cX11_right 70 = .ok (.istore_n 3, 1) := by decide +kernel
theorem dX11_right_71 : decode cX11_right 71 = .ok (.aload_n 0, 1) := by decide +kernel
theorem dX11_right_72 : decode cX11_right 72 = .ok (.aload_n 0, 1) := by decide +kernel
theorem dX11_right_73 : decode cX11_right 73 = .ok (.getfield 75, 3) := by decide +kernel
theorem dX11_right_76 : decode cX11_right 76 = .ok (.getfield 112, 3) := by decide +kernel
theorem dX11_right_79 : decode cX11_right 79 = .ok (.invokevirtual 104, 3) := by decide +kernel
theorem dX11_right_82 : decode cX11_right 82 = .ok (.iload_n 3, 1) := by decide +kernel
theorem dX11_right_83 : decode cX11_right 83 = .ok (.ireturn, 1) := by decide +kernel
theorem dX11_days_0 : decode cX11_days 0 = .ok (.iload_n 1, 1) := by decide +kernel
theorem dX11_days_1 : decode cX11_days 1 = .ok (.ifCond .lt 14, 3) := by decide +kernel
theorem dX11_days_4 : decode cX11_days 4 = .ok (.iload_n 1, 1) := by decide +kernel
theorem dX11_days_5 : decode cX11_days 5 = .ok (.ldc 135, 2) := by decide +kernel
theorem dX11_days_7 : decode cX11_days 7 = .ok (.aload_n 0, 1) := by decide +kernel
theorem dX11_days_8 : decode cX11_days 8 = .ok (.getfield 128, 3) := by decide +kernel
theorem dX11_days_11 : decode cX11_days 11 = .ok (.isub, 1) := by decide +kernel
theorem dX11_days_12 : decode cX11_days 12 = .ok (.if_icmp .le 13, 3) := by decide +kernel
theorem dX11_days_15 : decode cX11_days 15 = .ok (.new 136, 3) := by decide +kernel
theorem dX11_days_18 : decode cX11_days 18 = .ok (.dup, 1) := by decide +kernel
theorem dX11_days_19 : decode cX11_days 19 = .ok (.ldc 138, 2) := by decide +kernel
theorem dX11_days_21 : decode cX11_days 21 = .ok (.invokespecial 140, 3) := by decide +kernel
theorem dX11_days_24 : decode cX11_days 24 = .ok (.athrow, 1) := by decide +kernel
theorem dX11_days_25 : decode cX11_days 25 = .ok (.aload_n 0, 1) := by decide +kernel
theorem dX11_days_26 : decode cX11_days 26 = .ok (.dup, 1) := by decide +kernel
theorem dX11_days_27 : decode cX11_days 27 = .ok (.getfield 128, 3) := by decide +kernel
theorem dX11_days_30 : decode cX11_days 30 = .ok (.iload_n 1, 1) := by decide +kernel
theorem dX11_days_31 : decode cX11_days 31 = .ok (.iadd, 1) := by decide +kernel
theorem dX11_days_32 : decode cX11_days 32 = .ok (.putfield 128, 3) := by decide +kernel
theorem dX11_days_35 : decode cX11_days 35 = .ok (.aload_n 0, 1) := by decide +kernel
theorem dX11_days_36 : decode cX11_days 36 = .ok (.getfield 128, 3) := by decide +kernel
theorem dX11_days_39 : decode cX11_days 39 = .ok (.ireturn, 1) := by decide +kernel
theorem dX11_about_0 : decode cX11_about 0 = .ok (.aload_n 0, 1) := by decide +kernel
theorem dX11_about_1 : decode cX11_about 1 = .ok (.getfield 24, 3) := by decide +kernel
theorem dX11_about_4 : decode cX11_about 4 = .ok (.iload_n 1, 1) := by decide +kernel
theorem dX11_about_5 : decode cX11_about 5 = .ok (.invokevirtual 115, 3) := by decide +kernel
theorem dX11_about_8 : decode cX11_about 8 = .ok (.invokestatic 119, 3) := by decide +kernel
theorem dX11_about_11 : decode cX11_about 11 = .ok (.iload_n 2, 1) := by decide +kernel
theorem dX11_about_12 : decode cX11_about 12 = .ok (.tableswitch 112 0 6 #[44, 54, 64, 74, 84, 94, 103], 44) := by decide +kernel
theorem dX11_about_56 : decode cX11_about 56 = .ok (.aload_n 0, 1) := by decide +kernel
theorem dX11_about_57 : decode cX11_about 57 = .ok (.getfield 24, 3) := by decide +kernel
theorem dX11_about_60 : decode cX11_about 60 = .ok (.getfield 143, 3) := by decide +kernel
theorem dX11_about_63 : decode cX11_about 63 = .ok (.iload_n 1, 1) := by decide +kernel
theorem dX11_about_64 : decode cX11_about 64 = .ok (.iaload, 1) := by decide +kernel
theorem dX11_about_65 : decode cX11_about 65 = .ok (.ireturn, 1) := by decide +kernel
theorem dX11_about_66 : decode cX11_about 66 = .ok (.aload_n 0, 1) := by decide +kernel
theorem dX11_about_67 : decode cX11_about 67 = .ok (.getfield 24, 3) := by decide +kernel
theorem dX11_about_70 : decode cX11_about 70 = .ok (.getfield 146, 3) := by decide +kernel
theorem dX11_about_73 : decode cX11_about 73 = .ok (.iload_n 1, 1) := by decide +kernel
theorem dX11_about_74 : decode cX11_about 74 = .ok (.iaload, 1) := by decide +kernel
theorem dX11_about_75 : decode cX11_about 75 = .ok (.ireturn, 1) := by decide +kernel
theorem dX11_about_76 : decode cX11_about 76 = .ok (.aload_n 0, 1) := by decide +kernel
theorem dX11_about_77 : decode cX11_about 77 = .ok (.getfield 24, 3) := by decide +kernel
theorem dX11_about_80 : decode cX11_about 80 = .ok (.getfield 148, 3) := by decide +kernel
theorem dX11_about_83 : decode cX11_about 83 = .ok (.iload_n 1, 1) := by decide +kernel
theorem dX11_about_84 : decode cX11_about 84 = .ok (.iaload, 1) := by decide +kernel
theorem dX11_about_85 : decode cX11_about 85 = .ok (.ireturn, 1) := by decide +kernel
theorem dX11_about_86 : decode cX11_about 86 = .ok (.aload_n 0, 1) := by decide +kernel
theorem dX11_about_87 : decode cX11_about 87 = .ok (.getfield 24, 3) := by decide +kernel
theorem dX11_about_90 : decode cX11_about 90 = .ok (.getfield 123, 3) := by decide +kernel
theorem dX11_about_93 : decode cX11_about 93 = .ok (.iload_n 1, 1) := by decide +kernel
theorem dX11_about_94 : decode cX11_about 94 = .ok (.iaload, 1) := by decide +kernel
theorem dX11_about_95 : decode cX11_about 95 = .ok (.ireturn, 1) := by decide +kernel
theorem dX11_about_96 : decode cX11_about 96 = .ok (.aload_n 0, 1) := by decide +kernel
theorem dX11_about_97 : decode cX11_about 97 = .ok (.getfield 24, 3) := by decide +kernel
theorem dX11_about_100 : decode cX11_about 100 = .ok (.getfield 151, 3) := by decide +kernel
theorem dX11_about_103 : decode cX11_about 103 = .ok (.iload_n 1, 1) := by decide +kernel
theorem dX11_about_104 : decode cX11_about 104 = .ok (.iaload, 1) := by decide +kernel
theorem dX11_about_105 : decode cX11_about 105 = .ok (.ireturn, 1) := by decide +kernel
theorem dX11_about_106 : decode cX11_about 106 = .ok (.aload_n 0, 1) := by decide +kernel
theorem dX11_about_107 : decode cX11_about 107 = .ok (.getfield 24, 3) := by decide +kernel
theorem dX11_about_110 : decode cX11_about 110 = .ok (.iload_n 1, 1) := by decide +kernel
theorem dX11_about_111 : decode cX11_about 111 = .ok (.invokevirtual 154, 3) := by decide +kernel
theorem dX11_about_114 : decode cX11_about 114 = .ok (.ireturn, 1) := by decide +kernel
theorem dX11_about_115 : decode cX11_about 115 = .ok (.aload_n 0, 1) := by decide +kernel
theorem dX11_about_116 : decode cX11_about 116 = .ok (.getfield 31, 3) := by decide +kernel
theorem dX11_about_119 : decode cX11_about 119 = .ok (.iload_n 1, 1) := by decide +kernel
theorem dX11_about_120 : decode cX11_about 120 = .ok (.invokevirtual 158, 3) := by decide +kernel
theorem dX11_about_123 : decode cX11_about 123 = .ok (.ireturn, 1) := by decide +kernel
theorem dX11_about_124 : decode cX11_about 124 = .ok (.new 161, 3) := by decide +kernel
theorem dX11_about_127 : decode cX11_about 127 = .ok (.dup, 1) := by decide +kernel
theorem dX11_about_128 : decode cX11_about 128 = .ok (.ldc 163, 2) := by decide +kernel
theorem dX11_about_130 : decode cX11_about 130 = .ok (.invokespecial 165, 3) := by decide +kernel
theorem dX11_about_133 : decode cX11_about 133 = .ok (.athrow, 1) := by decide +kernel
theorem dX11_cited_0 : decode cX11_cited 0 = .ok (.aload_n 0, 1) := by decide +kernel
theorem dX11_cited_1 : decode cX11_cited 1 = .ok (.getfield 24, 3) := by decide +kernel
theorem dX11_cited_4 : decode cX11_cited 4 = .ok (.iload_n 1, 1) := by decide +kernel
theorem dX11_cited_5 : decode cX11_cited 5 = .ok (.iload_n 2, 1) := by decide +kernel
theorem dX11_cited_6 : decode cX11_cited 6 = .ok (.invokevirtual 166, 3) := by decide +kernel
theorem dX11_cited_9 : decode cX11_cited 9 = .ok (.ireturn, 1) := by decide +kernel
theorem dX11_fact_0 : decode cX11_fact 0 = .ok (.aload_n 0, 1) := by decide +kernel
theorem dX11_fact_1 : decode cX11_fact 1 = .ok (.getfield 38, 3) := by decide +kernel
theorem dX11_fact_4 : decode cX11_fact 4 = .ok (.iload_n 1, 1) := by decide +kernel
theorem dX11_fact_5 : decode cX11_fact 5 = .ok (.invokevirtual 169, 3) := by decide +kernel
theorem dX11_fact_8 : decode cX11_fact 8 = .ok (.invokestatic 119, 3) := by decide +kernel
theorem dX11_fact_11 : decode cX11_fact 11 = .ok (.iload_n 2, 1) := by decide +kernel
theorem dX11_fact_12 : decode cX11_fact 12 = .ok (.tableswitch 86 0 4 #[36, 46, 56, 66, 76], 36) := by decide +kernel
theorem dX11_fact_48 : decode cX11_fact 48 = .ok (.aload_n 0, 1) := by decide +kernel
theorem dX11_fact_49 : decode cX11_fact 49 = .ok (.getfield 38, 3) := by decide +kernel
theorem dX11_fact_52 : decode cX11_fact 52 = .ok (.getfield 170, 3) := by decide +kernel
theorem dX11_fact_55 : decode cX11_fact 55 = .ok (.iload_n 1, 1) := by decide +kernel
theorem dX11_fact_56 : decode cX11_fact 56 = .ok (.iaload, 1) := by decide +kernel
theorem dX11_fact_57 : decode cX11_fact 57 = .ok (.ireturn, 1) := by decide +kernel
theorem dX11_fact_58 : decode cX11_fact 58 = .ok (.aload_n 0, 1) := by decide +kernel
theorem dX11_fact_59 : decode cX11_fact 59 = .ok (.getfield 38, 3) := by decide +kernel
theorem dX11_fact_62 : decode cX11_fact 62 = .ok (.getfield 173, 3) := by decide +kernel
theorem dX11_fact_65 : decode cX11_fact 65 = .ok (.iload_n 1, 1) := by decide +kernel
theorem dX11_fact_66 : decode cX11_fact 66 = .ok (.iaload, 1) := by decide +kernel
theorem dX11_fact_67 : decode cX11_fact 67 = .ok (.ireturn, 1) := by decide +kernel
theorem dX11_fact_68 : decode cX11_fact 68 = .ok (.aload_n 0, 1) := by decide +kernel
theorem dX11_fact_69 : decode cX11_fact 69 = .ok (.getfield 38, 3) := by decide +kernel
theorem dX11_fact_72 : decode cX11_fact 72 = .ok (.getfield 176, 3) := by decide +kernel
theorem dX11_fact_75 : decode cX11_fact 75 = .ok (.iload_n 1, 1) := by decide +kernel
theorem dX11_fact_76 : decode cX11_fact 76 = .ok (.iaload, 1) := by decide +kernel
theorem dX11_fact_77 : decode cX11_fact 77 = .ok (.ireturn, 1) := by decide +kernel
theorem dX11_fact_78 : decode cX11_fact 78 = .ok (.aload_n 0, 1) := by decide +kernel
theorem dX11_fact_79 : decode cX11_fact 79 = .ok (.getfield 38, 3) := by decide +kernel
theorem dX11_fact_82 : decode cX11_fact 82 = .ok (.getfield 179, 3) := by decide +kernel
theorem dX11_fact_85 : decode cX11_fact 85 = .ok (.iload_n 1, 1) := by decide +kernel
theorem dX11_fact_86 : decode cX11_fact 86 = .ok (.iaload, 1) := by decide +kernel
theorem dX11_fact_87 : decode cX11_fact 87 = .ok (.ireturn, 1) := by decide +kernel
theorem dX11_fact_88 : decode cX11_fact 88 = .ok (.aload_n 0, 1) := by decide +kernel
theorem dX11_fact_89 : decode cX11_fact 89 = .ok (.getfield 38, 3) := by decide +kernel
theorem dX11_fact_92 : decode cX11_fact 92 = .ok (.getfield 182, 3) := by decide +kernel
theorem dX11_fact_95 : decode cX11_fact 95 = .ok (.iload_n 1, 1) := by decide +kernel
theorem dX11_fact_96 : decode cX11_fact 96 = .ok (.iaload, 1) := by decide +kernel
theorem dX11_fact_97 : decode cX11_fact 97 = .ok (.ireturn, 1) := by decide +kernel
theorem dX11_fact_98 : decode cX11_fact 98 = .ok (.new 161, 3) := by decide +kernel
theorem dX11_fact_101 : decode cX11_fact 101 = .ok (.dup, 1) := by decide +kernel
theorem dX11_fact_102 : decode cX11_fact 102 = .ok (.ldc 163, 2) := by decide +kernel
theorem dX11_fact_104 : decode cX11_fact 104 = .ok (.invokespecial 165, 3) := by decide +kernel
theorem dX11_fact_107 : decode cX11_fact 107 = .ok (.athrow, 1) := by decide +kernel
theorem dX11_stands_0 : decode cX11_stands 0 = .ok (.aload_n 0, 1) := by decide +kernel
theorem dX11_stands_1 : decode cX11_stands 1 = .ok (.getfield 38, 3) := by decide +kernel
theorem dX11_stands_4 : decode cX11_stands 4 = .ok (.iload_n 1, 1) := by decide +kernel
theorem dX11_stands_5 : decode cX11_stands 5 = .ok (.invokevirtual 169, 3) := by decide +kernel
theorem dX11_stands_8 : decode cX11_stands 8 = .ok (.invokestatic 119, 3) := by decide +kernel
theorem dX11_stands_11 : decode cX11_stands 11 = .ok (.aload_n 0, 1) := by decide +kernel
theorem dX11_stands_12 : decode cX11_stands 12 = .ok (.getfield 84, 3) := by decide +kernel
theorem dX11_stands_15 : decode cX11_stands 15 = .ok (.iload_n 1, 1) := by decide +kernel
theorem dX11_stands_16 : decode cX11_stands 16 = .ok (.iload_n 2, 1) := by decide +kernel
theorem dX11_stands_17 : decode cX11_stands 17 = .ok (.invokevirtual 183, 3) := by decide +kernel
theorem dX11_stands_20 : decode cX11_stands 20 = .ok (.ireturn, 1) := by decide +kernel
theorem dX11_quarrels_0 : decode cX11_quarrels 0 = .ok (.aload_n 0, 1) := by decide +kernel
theorem dX11_quarrels_1 : decode cX11_quarrels 1 = .ok (.getfield 84, 3) := by decide +kernel
theorem dX11_quarrels_4 : decode cX11_quarrels 4 = .ok (.sipush 11175, 3) := by decide +kernel
theorem dX11_quarrels_7 : decode cX11_quarrels 7 = .ok (.iload_n 1, 1) := by decide +kernel
theorem dX11_quarrels_8 : decode cX11_quarrels 8 = .ok (.invokevirtual 186, 3) := by decide +kernel
theorem dX11_quarrels_11 : decode cX11_quarrels 11 = .ok (.ireturn, 1) := by decide +kernel
theorem dX11_quarrel_0 : decode cX11_quarrel 0 = .ok (.iload_n 1, 1) := by decide +kernel
theorem dX11_quarrel_1 : decode cX11_quarrel 1 = .ok (.ifCond .lt 16, 3) := by decide +kernel
theorem dX11_quarrel_4 : decode cX11_quarrel 4 = .ok (.iload_n 3, 1) := by decide +kernel
theorem dX11_quarrel_5 : decode cX11_quarrel 5 = .ok (.ifCond .eq 8, 3) := by decide +kernel
theorem dX11_quarrel_8 : decode cX11_quarrel 8 = .ok (.iload_n 3, 1) := by decide +kernel
theorem dX11_quarrel_9 : decode cX11_quarrel 9 = .ok (.iconst 1, 1) := by decide +kernel
theorem dX11_quarrel_10 : decode cX11_quarrel 10 = .ok (.if_icmp .ne 7, 3) := by decide +kernel
theorem dX11_quarrel_13 : decode cX11_quarrel 13 = .ok (.iconst 1, 1) := by decide +kernel
theorem dX11_quarrel_14 : decode cX11_quarrel 14 = .ok (.goto 4, 3) := by decide +kernel
theorem dX11_quarrel_17 : decode cX11_quarrel 17 = .ok (.iconst 0, 1) := by decide +kernel
theorem dX11_quarrel_18 : decode cX11_quarrel 18 = .ok (.invokestatic 119, 3) := by decide +kernel
theorem dX11_quarrel_21 : decode cX11_quarrel 21 = .ok (.aload_n 0, 1) := by decide +kernel
theorem dX11_quarrel_22 : decode cX11_quarrel 22 = .ok (.getfield 84, 3) := by decide +kernel
theorem dX11_quarrel_25 : decode cX11_quarrel 25 = .ok (.iload_n 1, 1) := by decide +kernel
theorem dX11_quarrel_26 : decode cX11_quarrel 26 = .ok (.iload_n 2, 1) := by decide +kernel
theorem dX11_quarrel_27 : decode cX11_quarrel 27 = .ok (.invokevirtual 186, 3) := by decide +kernel
theorem dX11_quarrel_30 : decode cX11_quarrel 30 = .ok (.iload_n 1, 1) := by decide +kernel
theorem dX11_quarrel_31 : decode cX11_quarrel 31 = .ok (.if_icmp .le 7, 3) := by decide +kernel
theorem dX11_quarrel_34 : decode cX11_quarrel 34 = .ok (.iconst 1, 1) := by decide +kernel
theorem dX11_quarrel_35 : decode cX11_quarrel 35 = .ok (.goto 4, 3) := by decide +kernel
theorem dX11_quarrel_38 : decode cX11_quarrel 38 = .ok (.iconst 0, 1) := by decide +kernel
theorem dX11_quarrel_39 : decode cX11_quarrel 39 = .ok (.invokestatic 119, 3) := by decide +kernel
theorem dX11_quarrel_42 : decode cX11_quarrel 42 = .ok (.iload_n 3, 1) := by decide +kernel
theorem dX11_quarrel_43 : decode cX11_quarrel 43 = .ok (.ifCond .ne 13, 3) := by decide +kernel
theorem dX11_quarrel_46 : decode cX11_quarrel 46 = .ok (.aload_n 0, 1) := by decide +kernel
theorem dX11_quarrel_47 : decode cX11_quarrel 47 = .ok (.getfield 84, 3) := by decide +kernel
theorem dX11_quarrel_50 : decode cX11_quarrel 50 = .ok (.getfield 189, 3) := by decide +kernel
theorem dX11_quarrel_53 : decode cX11_quarrel 53 = .ok (.goto 10, 3) := by decide +kernel
theorem dX11_quarrel_56 : decode cX11_quarrel 56 = .ok (.aload_n 0, 1) := by decide +kernel
theorem dX11_quarrel_57 : decode cX11_quarrel 57 = .ok (.getfield 84, 3) := by decide +kernel
theorem dX11_quarrel_60 : decode cX11_quarrel 60 = .ok (.getfield 192, 3) := by decide +kernel
theorem dX11_quarrel_63 : decode cX11_quarrel 63 = .ok (.ireturn, 1) := by decide +kernel
theorem dX11_mention_0 : decode cX11_mention 0 = .ok (.aload_n 0, 1) := by decide +kernel
theorem dX11_mention_1 : decode cX11_mention 1 = .ok (.getfield 45, 3) := by decide +kernel
theorem dX11_mention_4 : decode cX11_mention 4 = .ok (.iload_n 1, 1) := by decide +kernel
theorem dX11_mention_5 : decode cX11_mention 5 = .ok (.invokevirtual 195, 3) := by decide +kernel
theorem dX11_mention_8 : decode cX11_mention 8 = .ok (.ifCond .eq 16, 3) := by decide +kernel
theorem dX11_mention_11 : decode cX11_mention 11 = .ok (.iload_n 2, 1) := by decide +kernel
theorem dX11_mention_12 : decode cX11_mention 12 = .ok (.ifCond .eq 8, 3) := by decide +kernel
theorem dX11_mention_15 : decode cX11_mention 15 = .ok (.iload_n 2, 1) := by decide +kernel
theorem dX11_mention_16 : decode cX11_mention 16 = .ok (.iconst 1, 1) := by decide +kernel
theorem dX11_mention_17 : decode cX11_mention 17 = .ok (.if_icmp .ne 7, 3) := by decide +kernel
theorem dX11_mention_20 : decode cX11_mention 20 = .ok (.iconst 1, 1) := by decide +kernel
theorem dX11_mention_21 : decode cX11_mention 21 = .ok (.goto 4, 3) := by decide +kernel
theorem dX11_mention_24 : decode cX11_mention 24 = .ok (.iconst 0, 1) := by decide +kernel
theorem dX11_mention_25 : decode cX11_mention 25 = .ok (.invokestatic 119, 3) := by decide +kernel
theorem dX11_mention_28 : decode cX11_mention 28 = .ok (.iload_n 2, 1) := by decide +kernel
theorem dX11_mention_29 : decode cX11_mention 29 = .ok (.ifCond .ne 15, 3) := by decide +kernel
theorem dX11_mention_32 : decode cX11_mention 32 = .ok (.aload_n 0, 1) := by decide +kernel
theorem dX11_mention_33 : decode cX11_mention 33 = .ok (.getfield 45, 3) := by decide +kernel
theorem dX11_mention_36 : decode cX11_mention 36 = .ok (.getfield 196, 3) := by decide +kernel
theorem dX11_mention_39 : decode cX11_mention 39 = .ok (.iload_n 1, 1) := by decide +kernel
theorem dX11_mention_40 : decode cX11_mention 40 = .ok (.iaload, 1) := by decide +kernel
theorem dX11_mention_41 : decode cX11_mention 41 = .ok (.goto 12, 3) := by decide +kernel
theorem dX11_mention_44 : decode cX11_mention 44 = .ok (.aload_n 0, 1) := by decide +kernel
theorem dX11_mention_45 : decode cX11_mention 45 = .ok (.getfield 45, 3) := by decide +kernel
theorem dX11_mention_48 : decode cX11_mention 48 = .ok (.getfield 197, 3) := by decide +kernel
theorem dX11_mention_51 : decode cX11_mention 51 = .ok (.iload_n 1, 1) := by decide +kernel
theorem dX11_mention_52 : decode cX11_mention 52 = .ok (.iaload, 1) := by decide +kernel
theorem dX11_mention_53 : decode cX11_mention 53 = .ok (.ireturn, 1) := by decide +kernel
theorem dX11_name_0 : decode cX11_name 0 = .ok (.iload_n 1, 1) := by decide +kernel
theorem dX11_name_1 : decode cX11_name 1 = .ok (.ifCond .lt 29, 3) := by decide +kernel
theorem dX11_name_4 : decode cX11_name 4 = .ok (.iload_n 1, 1) := by decide +kernel
theorem dX11_name_5 : decode cX11_name 5 = .ok (.aload_n 0, 1) := by decide +kernel
theorem dX11_name_6 : decode cX11_name 6 = .ok (.getfield 52, 3) := by decide +kernel
theorem dX11_name_9 : decode cX11_name 9 = .ok (.invokevirtual 200, 3) := by decide +kernel
theorem dX11_name_12 : decode cX11_name 12 = .ok (.if_icmp .ge 18, 3) := by decide +kernel
theorem dX11_name_15 : decode cX11_name 15 = .ok (.aload_n 0, 1) := by decide +kernel
theorem dX11_name_16 : decode cX11_name 16 = .ok (.getfield 24, 3) := by decide +kernel
theorem dX11_name_19 : decode cX11_name 19 = .ok (.iload_n 2, 1) := by decide +kernel
theorem dX11_name_20 : decode cX11_name 20 = .ok (.invokevirtual 115, 3) := by decide +kernel
theorem dX11_name_23 : decode cX11_name 23 = .ok (.ifCond .eq 7, 3) := by decide +kernel
theorem dX11_name_26 : decode cX11_name 26 = .ok (.iconst 1, 1) := by decide +kernel
theorem dX11_name_27 : decode cX11_name 27 = .ok (.goto 4, 3) := by decide +kernel
theorem dX11_name_30 : decode cX11_name 30 = .ok (.iconst 0, 1) := by decide +kernel
theorem dX11_name_31 : decode cX11_name 31 = .ok (.invokestatic 119, 3) := by decide +kernel
theorem dX11_name_34 : decode cX11_name 34 = .ok (.aload_n 0, 1) := by decide +kernel
theorem dX11_name_35 : decode cX11_name 35 = .ok (.getfield 18, 3) := by decide +kernel
theorem dX11_name_38 : decode cX11_name 38 = .ok (.invokevirtual 204, 3) := by decide +kernel
theorem dX11_name_41 : decode cX11_name 41 = .ok (.aload_n 0, 1) := by decide +kernel
theorem dX11_name_42 : decode cX11_name 42 = .ok (.getfield 52, 3) := by decide +kernel
theorem dX11_name_45 : decode cX11_name 45 = .ok (.iload_n 1, 1) := by decide +kernel
theorem dX11_name_46 : decode cX11_name 46 = .ok (.iload_n 2, 1) := by decide +kernel
theorem dX11_name_47 : decode cX11_name 47 = .ok (.invokevirtual 207, 3) := by decide +kernel
theorem dX11_name_50 : decode cX11_name 50 = .ok (.lstore_n 3, 1) := by decide +kernel
theorem dX11_name_51 : decode cX11_name 51 = .ok (.lload_n 3, 1) := by decide +kernel
theorem dX11_name_52 : decode cX11_name 52 = .ok (.lconst 0, 1) := by decide +kernel
theorem dX11_name_53 : decode cX11_name 53 = .ok (.lcmp, 1) := by decide +kernel
theorem dX11_name_54 : decode cX11_name 54 = .ok (.ifCond .ne 5, 3) := by decide +kernel
theorem dX11_name_57 : decode cX11_name 57 = .ok (.iconst (-1), 1) := by decide +kernel
theorem dX11_name_58 : decode cX11_name 58 = .ok (.ireturn, 1) := by decide +kernel
theorem dX11_name_59 : decode cX11_name 59 = .ok (.aload_n 0, 1) := by decide +kernel
theorem dX11_name_60 : decode cX11_name 60 = .ok (.getfield 18, 3) := by decide +kernel
theorem dX11_name_63 : decode cX11_name 63 = .ok (.lload_n 3, 1) := by decide +kernel
theorem dX11_name_64 : decode cX11_name 64 = .ok (.invokevirtual 211, 3) := by decide +kernel
theorem dX11_name_67 : decode cX11_name 67 = .ok (.aload_n 0, 1) := by decide +kernel
theorem dX11_name_68 : decode cX11_name 68 = .ok (.getfield 18, 3) := by decide +kernel
theorem dX11_name_71 : decode cX11_name 71 = .ok (.getfield 92, 3) := by decide +kernel
theorem dX11_name_74 : decode cX11_name 74 = .ok (.ireturn, 1) := by decide +kernel
theorem dX11_order_0 : decode cX11_order 0 = .ok (.aload_n 0, 1) := by decide +kernel
theorem dX11_order_1 : decode cX11_order 1 = .ok (.iload_n 1, 1) := by decide +kernel
theorem dX11_order_2 : decode cX11_order 2 = .ok (.iload_n 2, 1) := by decide +kernel
theorem dX11_order_3 : decode cX11_order 3 = .ok (.invokevirtual 215, 3) := by decide +kernel
theorem dX11_order_6 : decode cX11_order 6 = .ok (.aload_n 0, 1) := by decide +kernel
theorem dX11_order_7 : decode cX11_order 7 = .ok (.getfield 59, 3) := by decide +kernel
theorem dX11_order_10 : decode cX11_order 10 = .ok (.invokevirtual 219, 3) := by decide +kernel
theorem dX11_order_13 : decode cX11_order 13 = .ok (.ifCond .ne 10, 3) := by decide +kernel
theorem dX11_order_16 : decode cX11_order 16 = .ok (.iload_n 3, 1) := by decide +kernel
theorem dX11_order_17 : decode cX11_order 17 = .ok (.invokestatic 223, 3) := by decide +kernel
theorem dX11_order_20 : decode cX11_order 20 = .ok (.ifCond .ne 5, 3) := by decide +kernel
theorem dX11_order_23 : decode cX11_order 23 = .ok (.iconst (-1), 1) := by decide +kernel
theorem dX11_order_24 : decode cX11_order 24 = .ok (.ireturn, 1) := by decide +kernel
theorem dX11_order_25 : decode cX11_order 25 = .ok (.aload_n 0, 1) := by decide +kernel
theorem dX11_order_26 : decode cX11_order 26 = .ok (.getfield 59, 3) := by decide +kernel
theorem dX11_order_29 : decode cX11_order 29 = .ok (.iload_n 1, 1) := by decide +kernel
theorem dX11_order_30 : decode cX11_order 30 = .ok (.iload_n 2, 1) := by decide +kernel
theorem dX11_order_31 : decode cX11_order 31 = .ok (.iload_n 3, 1) := by decide +kernel
theorem dX11_order_32 : decode cX11_order 32 = .ok (.aload_n 0, 1) := by decide +kernel
theorem dX11_order_33 : decode cX11_order 33 = .ok (.getfield 128, 3) := by decide +kernel
theorem dX11_order_36 : decode cX11_order 36 = .ok (.invokevirtual 226, 3) := by decide +kernel
theorem dX11_order_39 : decode cX11_order 39 = .ok (.ireturn, 1) := by decide +kernel
theorem dX11_lift_0 : decode cX11_lift 0 = .ok (.aload_n 0, 1) := by decide +kernel
theorem dX11_lift_1 : decode cX11_lift 1 = .ok (.getfield 59, 3) := by decide +kernel
theorem dX11_lift_4 : decode cX11_lift 4 = .ok (.iload_n 1, 1) := by decide +kernel
theorem dX11_lift_5 : decode cX11_lift 5 = .ok (.invokevirtual 230, 3) := by decide +kernel
theorem dX11_lift_8 : decode cX11_lift 8 = .ok (.invokestatic 119, 3) := by decide +kernel
theorem dX11_lift_11 : decode cX11_lift 11 = .ok (.aload_n 0, 1) := by decide +kernel
theorem dX11_lift_12 : decode cX11_lift 12 = .ok (.getfield 59, 3) := by decide +kernel
theorem dX11_lift_15 : decode cX11_lift 15 = .ok (.iload_n 1, 1) := by decide +kernel
theorem dX11_lift_16 : decode cX11_lift 16 = .ok (.aload_n 0, 1) := by decide +kernel
theorem dX11_lift_17 : decode cX11_lift 17 = .ok (.getfield 128, 3) := by decide +kernel
theorem dX11_lift_20 : decode cX11_lift 20 = .ok (.invokevirtual 231, 3) := by decide +kernel
theorem dX11_lift_23 : decode cX11_lift 23 = .ok (.ireturn, 1) := by decide +kernel
theorem dX11_status_0 : decode cX11_status 0 = .ok (.aload_n 0, 1) := by decide +kernel
theorem dX11_status_1 : decode cX11_status 1 = .ok (.getfield 24, 3) := by decide +kernel
theorem dX11_status_4 : decode cX11_status 4 = .ok (.iload_n 1, 1) := by decide +kernel
theorem dX11_status_5 : decode cX11_status 5 = .ok (.invokevirtual 115, 3) := by decide +kernel
theorem dX11_status_8 : decode cX11_status 8 = .ok (.ifCond .eq 16, 3) := by decide +kernel
theorem dX11_status_11 : decode cX11_status 11 = .ok (.iload_n 3, 1) := by decide +kernel
theorem dX11_status_12 : decode cX11_status 12 = .ok (.ifCond .eq 8, 3) := by decide +kernel
theorem dX11_status_15 : decode cX11_status 15 = .ok (.iload_n 3, 1) := by decide +kernel
theorem dX11_status_16 : decode cX11_status 16 = .ok (.iconst 1, 1) := by decide +kernel
theorem dX11_status_17 : decode cX11_status 17 = .ok (.if_icmp .ne 7, 3) := by decide +kernel
theorem dX11_status_20 : decode cX11_status 20 = .ok (.iconst 1, 1) := by decide +kernel
theorem dX11_status_21 : decode cX11_status 21 = .ok (.goto 4, 3) := by decide +kernel
theorem dX11_status_24 : decode cX11_status 24 = .ok (.iconst 0, 1) := by decide +kernel
theorem dX11_status_25 : decode cX11_status 25 = .ok (.invokestatic 119, 3) := by decide +kernel
theorem dX11_status_28 : decode cX11_status 28 = .ok (.iload_n 3, 1) := by decide +kernel
theorem dX11_status_29 : decode cX11_status 29 = .ok (.iconst 1, 1) := by decide +kernel
theorem dX11_status_30 : decode cX11_status 30 = .ok (.if_icmp .ne 13, 3) := by decide +kernel
theorem dX11_status_33 : decode cX11_status 33 = .ok (.aload_n 0, 1) := by decide +kernel
theorem dX11_status_34 : decode cX11_status 34 = .ok (.getfield 59, 3) := by decide +kernel
theorem dX11_status_37 : decode cX11_status 37 = .ok (.iload_n 1, 1) := by decide +kernel
theorem dX11_status_38 : decode cX11_status 38 = .ok (.iload_n 2, 1) := by decide +kernel
theorem dX11_status_39 : decode cX11_status 39 = .ok (.invokevirtual 235, 3) := by decide +kernel
theorem dX11_status_42 : decode cX11_status 42 = .ok (.ireturn, 1) := by decide +kernel
theorem dX11_status_43 : decode cX11_status 43 = .ok (.aload_n 0, 1) := by decide +kernel
theorem dX11_status_44 : decode cX11_status 44 = .ok (.getfield 59, 3) := by decide +kernel
theorem dX11_status_47 : decode cX11_status 47 = .ok (.iload_n 1, 1) := by decide +kernel
theorem dX11_status_48 : decode cX11_status 48 = .ok (.iload_n 2, 1) := by decide +kernel
theorem dX11_status_49 : decode cX11_status 49 = .ok (.invokevirtual 238, 3) := by decide +kernel
theorem dX11_status_52 : decode cX11_status 52 = .ok (.ifCond .eq 7, 3) := by decide +kernel
theorem dX11_status_55 : decode cX11_status 55 = .ok (.iconst 1, 1) := by decide +kernel
theorem dX11_status_56 : decode cX11_status 56 = .ok (.goto 4, 3) := by decide +kernel
theorem dX11_status_59 : decode cX11_status 59 = .ok (.iconst 0, 1) := by decide +kernel
theorem dX11_status_60 : decode cX11_status 60 = .ok (.ireturn, 1) := by decide +kernel
theorem dX11_read_0 : decode cX11_read 0 = .ok (.aload_n 0, 1) := by decide +kernel
theorem dX11_read_1 : decode cX11_read 1 = .ok (.iload_n 1, 1) := by decide +kernel
theorem dX11_read_2 : decode cX11_read 2 = .ok (.iload_n 2, 1) := by decide +kernel
theorem dX11_read_3 : decode cX11_read 3 = .ok (.invokevirtual 215, 3) := by decide +kernel
theorem dX11_read_6 : decode cX11_read 6 = .ok (.iload_n 3, 1) := by decide +kernel
theorem dX11_read_7 : decode cX11_read 7 = .ok (.invokestatic 223, 3) := by decide +kernel
theorem dX11_read_10 : decode cX11_read 10 = .ok (.ifCond .ne 13, 3) := by decide +kernel
theorem dX11_read_13 : decode cX11_read 13 = .ok (.new 136, 3) := by decide +kernel
theorem dX11_read_16 : decode cX11_read 16 = .ok (.dup, 1) := by decide +kernel
theorem dX11_read_17 : decode cX11_read 17 = .ok (.ldc 241, 2) := by decide +kernel
theorem dX11_read_19 : decode cX11_read 19 = .ok (.invokespecial 140, 3) := by decide +kernel
theorem dX11_read_22 : decode cX11_read 22 = .ok (.athrow, 1) := by decide +kernel
theorem dX11_read_23 : decode cX11_read 23 = .ok (.aload_n 0, 1) := by decide +kernel
theorem dX11_read_24 : decode cX11_read 24 = .ok (.getfield 18, 3) := by decide +kernel
theorem dX11_read_27 : decode cX11_read 27 = .ok (.invokevirtual 204, 3) := by decide +kernel
theorem dX11_read_30 : decode cX11_read 30 = .ok (.iconst 0, 1) := by decide +kernel
theorem dX11_read_31 : decode cX11_read 31 = .ok (.istore 5, 2) := by decide +kernel
theorem dX11_read_33 : decode cX11_read 33 = .ok (.iload_n 1, 1) := by decide +kernel
theorem dX11_read_34 : decode cX11_read 34 = .ok (.istore 6, 2) := by decide +kernel
theorem dX11_read_36 : decode cX11_read 36 = .ok (.iload 6, 2) := by decide +kernel
theorem dX11_read_38 : decode cX11_read 38 = .ok (.iload_n 2, 1) := by decide +kernel
theorem dX11_read_39 : decode cX11_read 39 = .ok (.if_icmp .gt 41, 3) := by decide +kernel
theorem dX11_read_42 : decode cX11_read 42 = .ok (.iload 6, 2) := by decide +kernel
theorem dX11_read_44 : decode cX11_read 44 = .ok (.iload_n 1, 1) := by decide +kernel
theorem dX11_read_45 : decode cX11_read 45 = .ok (.if_icmp .le 15, 3) := by decide +kernel
theorem dX11_read_48 : decode cX11_read 48 = .ok (.aload_n 0, 1) := by decide +kernel
theorem dX11_read_49 : decode cX11_read 49 = .ok (.getfield 18, 3) := by decide +kernel
theorem dX11_read_52 : decode cX11_read 52 = .ok (.bipush 10, 2) := by decide +kernel
theorem dX11_read_54 : decode cX11_read 54 = .ok (.invokevirtual 243, 3) := by decide +kernel
theorem dX11_read_57 : decode cX11_read 57 = .ok (.iinc 5 1, 3) := by decide +kernel
theorem dX11_read_60 : decode cX11_read 60 = .ok (.iload 5, 2) := by decide +kernel
theorem dX11_read_62 : decode cX11_read 62 = .ok (.aload_n 0, 1) := by decide +kernel
theorem dX11_read_63 : decode cX11_read 63 = .ok (.iload 6, 2) := by decide +kernel
theorem dX11_read_65 : decode cX11_read 65 = .ok (.iload_n 3, 1) := by decide +kernel
theorem dX11_read_66 : decode cX11_read 66 = .ok (.iload 4, 2) := by decide +kernel
theorem dX11_read_68 : decode cX11_read 68 = .ok (.invokevirtual 245, 3) := by decide +kernel
theorem dX11_read_71 : decode cX11_read 71 = .ok (.iadd, 1) := by decide +kernel
theorem dX11_read_72 : decode cX11_read 72 = .ok (.istore 5, 2) := by decide +kernel
theorem dX11_read_74 : decode cX11_read 74 = .ok (.iinc 6 1, 3) := by decide +kernel
theorem dX11_read_77 : decode cX11_read 77 = .ok (.goto (-41), 3) := by decide +kernel
theorem dX11_read_80 : decode cX11_read 80 = .ok (.iload 5, 2) := by decide +kernel
theorem dX11_read_82 : decode cX11_read 82 = .ok (.ireturn, 1) := by decide +kernel
theorem dX11_told_0 : decode cX11_told 0 = .ok (.aload_n 0, 1) := by decide +kernel
theorem dX11_told_1 : decode cX11_told 1 = .ok (.getfield 18, 3) := by decide +kernel
theorem dX11_told_4 : decode cX11_told 4 = .ok (.iload_n 1, 1) := by decide +kernel
theorem dX11_told_5 : decode cX11_told 5 = .ok (.invokevirtual 248, 3) := by decide +kernel
theorem dX11_told_8 : decode cX11_told 8 = .ok (.invokestatic 119, 3) := by decide +kernel
theorem dX11_told_11 : decode cX11_told 11 = .ok (.aload_n 0, 1) := by decide +kernel
theorem dX11_told_12 : decode cX11_told 12 = .ok (.getfield 18, 3) := by decide +kernel
theorem dX11_told_15 : decode cX11_told 15 = .ok (.iload_n 1, 1) := by decide +kernel
theorem dX11_told_16 : decode cX11_told 16 = .ok (.invokevirtual 249, 3) := by decide +kernel
theorem dX11_told_19 : decode cX11_told 19 = .ok (.ireturn, 1) := by decide +kernel
theorem dX11_digest_0 : decode cX11_digest 0 = .ok (.aload_n 0, 1) := by decide +kernel
theorem dX11_digest_1 : decode cX11_digest 1 = .ok (.getfield 66, 3) := by decide +kernel
theorem dX11_digest_4 : decode cX11_digest 4 = .ok (.invokevirtual 252, 3) := by decide +kernel
theorem dX11_digest_7 : decode cX11_digest 7 = .ok (.ifCond .ne 24, 3) := by decide +kernel
theorem dX11_digest_10 : decode cX11_digest 10 = .ok (.iload_n 1, 1) := by decide +kernel
theorem dX11_digest_11 : decode cX11_digest 11 = .ok (.invokestatic 253, 3) := by decide +kernel
theorem dX11_digest_14 : decode cX11_digest 14 = .ok (.ifCond .eq 17, 3) := by decide +kernel
theorem dX11_digest_17 : decode cX11_digest 17 = .ok (.iload_n 2, 1) := by decide +kernel
theorem dX11_digest_18 : decode cX11_digest 18 = .ok (.invokestatic 253, 3) := by decide +kernel
theorem dX11_digest_21 : decode cX11_digest 21 = .ok (.ifCond .eq 10, 3) := by decide +kernel
theorem dX11_digest_24 : decode cX11_digest 24 = .ok (.iload_n 3, 1) := by decide +kernel
theorem dX11_digest_25 : decode cX11_digest 25 = .ok (.invokestatic 253, 3) := by decide +kernel
theorem dX11_digest_28 : decode cX11_digest 28 = .ok (.ifCond .ne 5, 3) := by decide +kernel
theorem dX11_digest_31 : decode cX11_digest 31 = .ok (.iconst (-1), 1) := by decide +kernel
theorem dX11_digest_32 : decode cX11_digest 32 = .ok (.ireturn, 1) := by decide +kernel
theorem dX11_digest_33 : decode cX11_digest 33 = .ok (.aload_n 0, 1) := by decide +kernel
theorem dX11_digest_34 : decode cX11_digest 34 = .ok (.getfield 66, 3) := by decide +kernel
theorem dX11_digest_37 : decode cX11_digest 37 = .ok (.iload_n 1, 1) := by decide +kernel
theorem dX11_digest_38 : decode cX11_digest 38 = .ok (.iload_n 2, 1) := by decide +kernel
theorem dX11_digest_39 : decode cX11_digest 39 = .ok (.iload_n 3, 1) := by decide +kernel
theorem dX11_digest_40 : decode cX11_digest 40 = .ok (.invokevirtual 256, 3) := by decide +kernel
theorem dX11_digest_43 : decode cX11_digest 43 = .ok (.ireturn, 1) := by decide +kernel
theorem dX11_cite_0 : decode cX11_cite 0 = .ok (.aload_n 0, 1) := by decide +kernel
theorem dX11_cite_1 : decode cX11_cite 1 = .ok (.getfield 66, 3) := by decide +kernel
theorem dX11_cite_4 : decode cX11_cite 4 = .ok (.iload_n 1, 1) := by decide +kernel
theorem dX11_cite_5 : decode cX11_cite 5 = .ok (.invokevirtual 258, 3) := by decide +kernel
theorem dX11_cite_8 : decode cX11_cite 8 = .ok (.ifCond .eq 18, 3) := by decide +kernel
theorem dX11_cite_11 : decode cX11_cite 11 = .ok (.aload_n 0, 1) := by decide +kernel
theorem dX11_cite_12 : decode cX11_cite 12 = .ok (.getfield 38, 3) := by decide +kernel
theorem dX11_cite_15 : decode cX11_cite 15 = .ok (.iload_n 2, 1) := by decide +kernel
theorem dX11_cite_16 : decode cX11_cite 16 = .ok (.invokevirtual 169, 3) := by decide +kernel
theorem dX11_cite_19 : decode cX11_cite 19 = .ok (.ifCond .eq 7, 3) := by decide +kernel
theorem dX11_cite_22 : decode cX11_cite 22 = .ok (.iconst 1, 1) := by decide +kernel
theorem dX11_cite_23 : decode cX11_cite 23 = .ok (.goto 4, 3) := by decide +kernel
theorem dX11_cite_26 : decode cX11_cite 26 = .ok (.iconst 0, 1) := by decide +kernel
theorem dX11_cite_27 : decode cX11_cite 27 = .ok (.invokestatic 119, 3) := by decide +kernel
theorem dX11_cite_30 : decode cX11_cite 30 = .ok (.aload_n 0, 1) := by decide +kernel
theorem dX11_cite_31 : decode cX11_cite 31 = .ok (.getfield 66, 3) := by decide +kernel
theorem dX11_cite_34 : decode cX11_cite 34 = .ok (.iload_n 1, 1) := by decide +kernel
theorem dX11_cite_35 : decode cX11_cite 35 = .ok (.iload_n 2, 1) := by decide +kernel
theorem dX11_cite_36 : decode cX11_cite 36 = .ok (.invokevirtual 259, 3) := by decide +kernel
theorem dX11_cite_39 : decode cX11_cite 39 = .ok (.ireturn, 1) := by decide +kernel
theorem dX11_shown_0 : decode cX11_shown 0 = .ok (.aload_n 0, 1) := by decide +kernel
theorem dX11_shown_1 : decode cX11_shown 1 = .ok (.getfield 66, 3) := by decide +kernel
theorem dX11_shown_4 : decode cX11_shown 4 = .ok (.iload_n 1, 1) := by decide +kernel
theorem dX11_shown_5 : decode cX11_shown 5 = .ok (.invokevirtual 258, 3) := by decide +kernel
theorem dX11_shown_8 : decode cX11_shown 8 = .ok (.invokestatic 119, 3) := by decide +kernel
theorem dX11_shown_11 : decode cX11_shown 11 = .ok (.aload_n 0, 1) := by decide +kernel
theorem dX11_shown_12 : decode cX11_shown 12 = .ok (.getfield 84, 3) := by decide +kernel
theorem dX11_shown_15 : decode cX11_shown 15 = .ok (.iload_n 1, 1) := by decide +kernel
theorem dX11_shown_16 : decode cX11_shown 16 = .ok (.iload_n 2, 1) := by decide +kernel
theorem dX11_shown_17 : decode cX11_shown 17 = .ok (.invokevirtual 262, 3) := by decide +kernel
theorem dX11_shown_20 : decode cX11_shown 20 = .ok (.ireturn, 1) := by decide +kernel
theorem dX11_count_0 : decode cX11_count 0 = .ok (.iload_n 1, 1) := by decide +kernel
theorem dX11_count_1 : decode cX11_count 1 = .ok (.tableswitch 129 0 9 #[55, 63, 68, 76, 84, 92, 97, 105, 113, 121], 55) := by decide +kernel
theorem dX11_count_56 : decode cX11_count 56 = .ok (.aload_n 0, 1) := by decide +kernel
theorem dX11_count_57 : decode cX11_count 57 = .ok (.getfield 24, 3) := by decide +kernel
theorem dX11_count_60 : decode cX11_count 60 = .ok (.getfield 107, 3) := by decide +kernel
theorem dX11_count_63 : decode cX11_count 63 = .ok (.ireturn, 1) := by decide +kernel
theorem dX11_count_64 : decode cX11_count 64 = .ok (.aload_n 0, 1) := by decide +kernel
theorem dX11_count_65 : decode cX11_count 65 = .ok (.getfield 101, 3) := by decide +kernel
theorem dX11_count_68 : decode cX11_count 68 = .ok (.ireturn, 1) := by decide +kernel
theorem dX11_count_69 : decode cX11_count 69 = .ok (.aload_n 0, 1) := by decide +kernel
theorem dX11_count_70 : decode cX11_count 70 = .ok (.getfield 38, 3) := by decide +kernel
theorem dX11_count_73 : decode cX11_count 73 = .ok (.getfield 265, 3) := by decide +kernel
theorem dX11_count_76 : decode cX11_count 76 = .ok (.ireturn, 1) := by decide +kernel
theorem dX11_count_77 : decode cX11_count 77 = .ok (.aload_n 0, 1) := by decide +kernel
theorem dX11_count_78 : decode cX11_count 78 = .ok (.getfield 45, 3) := by decide +kernel
theorem dX11_count_81 : decode cX11_count 81 = .ok (.getfield 266, 3) := by decide +kernel
theorem dX11_count_84 : decode cX11_count 84 = .ok (.ireturn, 1) := by decide +kernel
theorem dX11_count_85 : decode cX11_count 85 = .ok (.aload_n 0, 1) := by decide +kernel
theorem dX11_count_86 : decode cX11_count 86 = .ok (.getfield 52, 3) := by decide +kernel
theorem dX11_count_89 : decode cX11_count 89 = .ok (.invokevirtual 200, 3) := by decide +kernel
theorem dX11_count_92 : decode cX11_count 92 = .ok (.ireturn, 1) := by decide +kernel
theorem dX11_count_93 : decode cX11_count 93 = .ok (.aload_n 0, 1) := by decide +kernel
theorem dX11_count_94 : decode cX11_count 94 = .ok (.getfield 128, 3) := by decide +kernel
theorem dX11_count_97 : decode cX11_count 97 = .ok (.ireturn, 1) := by decide +kernel
theorem dX11_count_98 : decode cX11_count 98 = .ok (.aload_n 0, 1) := by decide +kernel
theorem dX11_count_99 : decode cX11_count 99 = .ok (.getfield 59, 3) := by decide +kernel
theorem dX11_count_102 : decode cX11_count 102 = .ok (.getfield 267, 3) := by decide +kernel
theorem dX11_count_105 : decode cX11_count 105 = .ok (.ireturn, 1) := by decide +kernel
theorem dX11_count_106 : decode cX11_count 106 = .ok (.aload_n 0, 1) := by decide +kernel
theorem dX11_count_107 : decode cX11_count 107 = .ok (.getfield 66, 3) := by decide +kernel
theorem dX11_count_110 : decode cX11_count 110 = .ok (.getfield 268, 3) := by decide +kernel
theorem dX11_count_113 : decode cX11_count 113 = .ok (.ireturn, 1) := by decide +kernel
theorem dX11_count_114 : decode cX11_count 114 = .ok (.aload_n 0, 1) := by decide +kernel
theorem dX11_count_115 : decode cX11_count 115 = .ok (.getfield 14, 3) := by decide +kernel
theorem dX11_count_118 : decode cX11_count 118 = .ok (.getfield 92, 3) := by decide +kernel
theorem dX11_count_121 : decode cX11_count 121 = .ok (.ireturn, 1) := by decide +kernel
theorem dX11_count_122 : decode cX11_count 122 = .ok (.aload_n 0, 1) := by decide +kernel
theorem dX11_count_123 : decode cX11_count 123 = .ok (.getfield 18, 3) := by decide +kernel
theorem dX11_count_126 : decode cX11_count 126 = .ok (.getfield 92, 3) := by decide +kernel
theorem dX11_count_129 : decode cX11_count 129 = .ok (.ireturn, 1) := by decide +kernel
theorem dX11_count_130 : decode cX11_count 130 = .ok (.new 161, 3) := by decide +kernel
theorem dX11_count_133 : decode cX11_count 133 = .ok (.dup, 1) := by decide +kernel
theorem dX11_count_134 : decode cX11_count 134 = .ok (.ldc 163, 2) := by decide +kernel
theorem dX11_count_136 : decode cX11_count 136 = .ok (.invokespecial 165, 3) := by decide +kernel
theorem dX11_count_139 : decode cX11_count 139 = .ok (.athrow, 1) := by decide +kernel
theorem dX11_demand_0 : decode cX11_demand 0 = .ok (.iload_n 0, 1) := by decide +kernel
theorem dX11_demand_1 : decode cX11_demand 1 = .ok (.ifCond .ne 14, 3) := by decide +kernel
theorem dX11_demand_4 : decode cX11_demand 4 = .ok (.new 161, 3) := by decide +kernel
theorem dX11_demand_7 : decode cX11_demand 7 = .ok (.dup, 1) := by decide +kernel
theorem dX11_demand_8 : decode cX11_demand 8 = .ok (.ldc_w 269, 3) := by decide +kernel
theorem dX11_demand_11 : decode cX11_demand 11 = .ok (.invokespecial 165, 3) := by decide +kernel
theorem dX11_demand_14 : decode cX11_demand 14 = .ok (.athrow, 1) := by decide +kernel
theorem dX11_demand_15 : decode cX11_demand 15 = .ok (.return_, 1) := by decide +kernel
theorem dX11_demandLines_0 : decode cX11_demandLines 0 = .ok (.aload_n 0, 1) := by decide +kernel
theorem dX11_demandLines_1 : decode cX11_demandLines 1 = .ok (.getfield 24, 3) := by decide +kernel
theorem dX11_demandLines_4 : decode cX11_demandLines 4 = .ok (.iload_n 1, 1) := by decide +kernel
theorem dX11_demandLines_5 : decode cX11_demandLines 5 = .ok (.invokevirtual 115, 3) := by decide +kernel
theorem dX11_demandLines_8 : decode cX11_demandLines 8 = .ok (.ifCond .eq 23, 3) := by decide +kernel
theorem dX11_demandLines_11 : decode cX11_demandLines 11 = .ok (.aload_n 0, 1) := by decide +kernel
theorem dX11_demandLines_12 : decode cX11_demandLines 12 = .ok (.getfield 24, 3) := by decide +kernel
theorem dX11_demandLines_15 : decode cX11_demandLines 15 = .ok (.iload_n 2, 1) := by decide +kernel
theorem dX11_demandLines_16 : decode cX11_demandLines 16 = .ok (.invokevirtual 115, 3) := by decide +kernel
theorem dX11_demandLines_19 : decode cX11_demandLines 19 = .ok (.ifCond .eq 12, 3) := by decide +kernel
theorem dX11_demandLines_22 : decode cX11_demandLines 22 = .ok (.iload_n 1, 1) := by decide +kernel
theorem dX11_demandLines_23 : decode cX11_demandLines 23 = .ok (.iload_n 2, 1) := by decide +kernel
theorem dX11_demandLines_24 : decode cX11_demandLines 24 = .ok (.if_icmp .gt 7, 3) := by decide +kernel
theorem dX11_demandLines_27 : decode cX11_demandLines 27 = .ok (.iconst 1, 1) := by decide +kernel
theorem dX11_demandLines_28 : decode cX11_demandLines 28 = .ok (.goto 4, 3) := by decide +kernel
theorem dX11_demandLines_31 : decode cX11_demandLines 31 = .ok (.iconst 0, 1) := by decide +kernel
theorem dX11_demandLines_32 : decode cX11_demandLines 32 = .ok (.invokestatic 119, 3) := by decide +kernel
theorem dX11_demandLines_35 : decode cX11_demandLines 35 = .ok (.return_, 1) := by decide +kernel
theorem dX11_demandOnTape_0 : decode cX11_demandOnTape 0 = .ok (.iload_n 1, 1) := by decide +kernel
theorem dX11_demandOnTape_1 : decode cX11_demandOnTape 1 = .ok (.iconst 1, 1) := by decide +kernel
theorem dX11_demandOnTape_2 : decode cX11_demandOnTape 2 = .ok (.if_icmp .lt 14, 3) := by decide +kernel
theorem dX11_demandOnTape_5 : decode cX11_demandOnTape 5 = .ok (.iload_n 1, 1) := by decide +kernel
theorem dX11_demandOnTape_6 : decode cX11_demandOnTape 6 = .ok (.aload_n 0, 1) := by decide +kernel
theorem dX11_demandOnTape_7 : decode cX11_demandOnTape 7 = .ok (.getfield 14, 3) := by decide +kernel
theorem dX11_demandOnTape_10 : decode cX11_demandOnTape 10 = .ok (.getfield 92, 3) := by decide +kernel
theorem dX11_demandOnTape_13 : decode cX11_demandOnTape 13 = .ok (.if_icmp .le 14, 3) := by decide +kernel
theorem dX11_demandOnTape_16 : decode cX11_demandOnTape 16 = .ok (.new 136, 3) := by decide +kernel
theorem dX11_demandOnTape_19 : decode cX11_demandOnTape 19 = .ok (.dup, 1) := by decide +kernel
theorem dX11_demandOnTape_20 : decode cX11_demandOnTape 20 = .ok (.ldc_w 271, 3) := by decide +kernel
theorem dX11_demandOnTape_23 : decode cX11_demandOnTape 23 = .ok (.invokespecial 140, 3) := by decide +kernel
theorem dX11_demandOnTape_26 : decode cX11_demandOnTape 26 = .ok (.athrow, 1) := by decide +kernel
theorem dX11_demandOnTape_27 : decode cX11_demandOnTape 27 = .ok (.return_, 1) := by decide +kernel
theorem dX11_isLevel_0 : decode cX11_isLevel 0 = .ok (.iload_n 0, 1) := by decide +kernel
theorem dX11_isLevel_1 : decode cX11_isLevel 1 = .ok (.ifCond .lt 12, 3) := by decide +kernel
theorem dX11_isLevel_4 : decode cX11_isLevel 4 = .ok (.iload_n 0, 1) := by decide +kernel
theorem dX11_isLevel_5 : decode cX11_isLevel 5 = .ok (.iconst 3, 1) := by decide +kernel
theorem dX11_isLevel_6 : decode cX11_isLevel 6 = .ok (.if_icmp .gt 7, 3) := by decide +kernel
theorem dX11_isLevel_9 : decode cX11_isLevel 9 = .ok (.iconst 1, 1) := by decide +kernel
theorem dX11_isLevel_10 : decode cX11_isLevel 10 = .ok (.goto 4, 3) := by decide +kernel
theorem dX11_isLevel_13 : decode cX11_isLevel 13 = .ok (.iconst 0, 1) := by decide +kernel
theorem dX11_isLevel_14 : decode cX11_isLevel 14 = .ok (.ireturn, 1) := by decide +kernel
theorem dX11_isNumber_0 : decode cX11_isNumber 0 = .ok (.iload_n 0, 1) := by decide +kernel
theorem dX11_isNumber_1 : decode cX11_isNumber 1 = .ok (.ifCond .lt 14, 3) := by decide +kernel
theorem dX11_isNumber_4 : decode cX11_isNumber 4 = .ok (.iload_n 0, 1) := by decide +kernel
theorem dX11_isNumber_5 : decode cX11_isNumber 5 = .ok (.sipush 9999, 3) := by decide +kernel
theorem dX11_isNumber_8 : decode cX11_isNumber 8 = .ok (.if_icmp .gt 7, 3) := by decide +kernel
theorem dX11_isNumber_11 : decode cX11_isNumber 11 = .ok (.iconst 1, 1) := by decide +kernel
theorem dX11_isNumber_12 : decode cX11_isNumber 12 = .ok (.goto 4, 3) := by decide +kernel
theorem dX11_isNumber_15 : decode cX11_isNumber 15 = .ok (.iconst 0, 1) := by decide +kernel
theorem dX11_isNumber_16 : decode cX11_isNumber 16 = .ok (.ireturn, 1) := by decide +kernel
theorem dX11_endReading_0 : decode cX11_endReading 0 = .ok (.aload_n 0, 1) := by decide +kernel
theorem dX11_endReading_1 : decode cX11_endReading 1 = .ok (.iload_n 1, 1) := by decide +kernel
theorem dX11_endReading_2 : decode cX11_endReading 2 = .ok (.putfield 88, 3) := by decide +kernel
theorem dX11_endReading_5 : decode cX11_endReading 5 = .ok (.aload_n 0, 1) := by decide +kernel
theorem dX11_endReading_6 : decode cX11_endReading 6 = .ok (.getfield 14, 3) := by decide +kernel
theorem dX11_endReading_9 : decode cX11_endReading 9 = .ok (.invokevirtual 204, 3) := by decide +kernel
theorem dX11_endReading_12 : decode cX11_endReading 12 = .ok (.return_, 1) := by decide +kernel
theorem dX11_readBack_0 : decode cX11_readBack 0 = .ok (.aload_n 0, 1) := by decide +kernel
theorem dX11_readBack_1 : decode cX11_readBack 1 = .ok (.getfield 59, 3) := by decide +kernel
theorem dX11_readBack_4 : decode cX11_readBack 4 = .ok (.iload_n 1, 1) := by decide +kernel
theorem dX11_readBack_5 : decode cX11_readBack 5 = .ok (.iload_n 3, 1) := by decide +kernel
theorem dX11_readBack_6 : decode cX11_readBack 6 = .ok (.invokevirtual 238, 3) := by decide +kernel
theorem dX11_readBack_9 : decode cX11_readBack 9 = .ok (.ifCond .eq 14, 3) := by decide +kernel
theorem dX11_readBack_12 : decode cX11_readBack 12 = .ok (.aload_n 0, 1) := by decide +kernel
theorem dX11_readBack_13 : decode cX11_readBack 13 = .ok (.getfield 18, 3) := by decide +kernel
theorem dX11_readBack_16 : decode cX11_readBack 16 = .ok (.ldc_w 273, 3) := by decide +kernel
theorem dX11_readBack_19 : decode cX11_readBack 19 = .ok (.invokevirtual 275, 3) := by decide +kernel
theorem dX11_readBack_22 : decode cX11_readBack 22 = .ok (.ireturn, 1) := by decide +kernel
theorem dX11_readBack_23 : decode cX11_readBack 23 = .ok (.aload_n 0, 1) := by decide +kernel
theorem dX11_readBack_24 : decode cX11_readBack 24 = .ok (.getfield 59, 3) := by decide +kernel
theorem dX11_readBack_27 : decode cX11_readBack 27 = .ok (.iload_n 1, 1) := by decide +kernel
theorem dX11_readBack_28 : decode cX11_readBack 28 = .ok (.iload_n 3, 1) := by decide +kernel
theorem dX11_readBack_29 : decode cX11_readBack 29 = .ok (.invokevirtual 235, 3) := by decide +kernel
theorem dX11_readBack_32 : decode cX11_readBack 32 = .ok (.iload_n 2, 1) := by decide +kernel
theorem dX11_readBack_33 : decode cX11_readBack 33 = .ok (.if_icmp .le 14, 3) := by decide +kernel
theorem dX11_readBack_36 : decode cX11_readBack 36 = .ok (.aload_n 0, 1) := by decide +kernel
theorem dX11_readBack_37 : decode cX11_readBack 37 = .ok (.getfield 18, 3) := by decide +kernel
theorem dX11_readBack_40 : decode cX11_readBack 40 = .ok (.ldc_w 279, 3) := by decide +kernel
theorem dX11_readBack_43 : decode cX11_readBack 43 = .ok (.invokevirtual 275, 3) := by decide +kernel
theorem dX11_readBack_46 : decode cX11_readBack 46 = .ok (.ireturn, 1) := by decide +kernel
theorem dX11_readBack_47 : decode cX11_readBack 47 = .ok (.aload_n 0, 1) := by decide +kernel
theorem dX11_readBack_48 : decode cX11_readBack 48 = .ok (.getfield 24, 3) := by decide +kernel
theorem dX11_readBack_51 : decode cX11_readBack 51 = .ok (.getfield 123, 3) := by decide +kernel
theorem dX11_readBack_54 : decode cX11_readBack 54 = .ok (.iload_n 1, 1) := by decide +kernel
theorem dX11_readBack_55 : decode cX11_readBack 55 = .ok (.iaload, 1) := by decide +kernel
theorem dX11_readBack_56 : decode cX11_readBack 56 = .ok (.istore 4, 2) := by decide +kernel
theorem dX11_readBack_58 : decode cX11_readBack 58 = .ok (.aload_n 0, 1) := by decide +kernel
theorem dX11_readBack_59 : decode cX11_readBack 59 = .ok (.getfield 18, 3) := by decide +kernel
theorem dX11_readBack_62 : decode cX11_readBack 62 = .ok (.iload 4, 2) := by decide +kernel
theorem dX11_readBack_64 : decode cX11_readBack 64 = .ok (.ifCond .lt 25, 3) := by decide +kernel
theorem dX11_readBack_67 : decode cX11_readBack 67 = .ok (.iload 4, 2) := by decide +kernel
theorem dX11_readBack_69 : decode cX11_readBack 69 = .ok (.ldc_w 281, 3) := by decide +kernel
theorem dX11_readBack_72 : decode cX11_readBack 72 = .ok (.invokevirtual 283, 3) := by decide +kernel
theorem dX11_readBack_75 : decode cX11_readBack 75 = .ok (.if_icmp .ge 14, 3) := by decide +kernel
theorem dX11_readBack_78 : decode cX11_readBack 78 = .ok (.ldc_w 281, 3) := by decide +kernel
theorem dX11_readBack_81 : decode cX11_readBack 81 = .ok (.iload 4, 2) := by decide +kernel
theorem dX11_readBack_83 : decode cX11_readBack 83 = .ok (.invokevirtual 288, 3) := by decide +kernel
theorem dX11_readBack_86 : decode cX11_readBack 86 = .ok (.goto 5, 3) := by decide +kernel
theorem dX11_readBack_89 : decode cX11_readBack 89 = .ok (.bipush 32, 2) := by decide +kernel
theorem dX11_readBack_91 : decode cX11_readBack 91 = .ok (.invokevirtual 243, 3) := by decide +kernel
theorem dX11_readBack_94 : decode cX11_readBack 94 = .ok (.aload_n 0, 1) := by decide +kernel
theorem dX11_readBack_95 : decode cX11_readBack 95 = .ok (.getfield 18, 3) := by decide +kernel
theorem dX11_readBack_98 : decode cX11_readBack 98 = .ok (.bipush 32, 2) := by decide +kernel
theorem dX11_readBack_100 : decode cX11_readBack 100 = .ok (.invokevirtual 243, 3) := by decide +kernel
theorem dX11_readBack_103 : decode cX11_readBack 103 = .ok (.iconst 2, 1) := by decide +kernel
theorem dX11_readBack_104 : decode cX11_readBack 104 = .ok (.aload_n 0, 1) := by decide +kernel
theorem dX11_readBack_105 : decode cX11_readBack 105 = .ok (.getfield 31, 3) := by decide +kernel
theorem dX11_readBack_108 : decode cX11_readBack 108 = .ok (.aload_n 0, 1) := by decide +kernel
theorem dX11_readBack_109 : decode cX11_readBack 109 = .ok (.getfield 31, 3) := by decide +kernel
theorem dX11_readBack_112 : decode cX11_readBack 112 = .ok (.iload_n 1, 1) := by decide +kernel
theorem dX11_readBack_113 : decode cX11_readBack 113 = .ok (.iload_n 3, 1) := by decide +kernel
theorem dX11_readBack_114 : decode cX11_readBack 114 = .ok (.invokevirtual 292, 3) := by decide +kernel
theorem dX11_readBack_117 : decode cX11_readBack 117 = .ok (.aload_n 0, 1) := by decide +kernel
theorem dX11_readBack_118 : decode cX11_readBack 118 = .ok (.getfield 18, 3) := by decide +kernel
theorem dX11_readBack_121 : decode cX11_readBack 121 = .ok (.invokevirtual 295, 3) := by decide +kernel
theorem dX11_readBack_124 : decode cX11_readBack 124 = .ok (.iadd, 1) := by decide +kernel
theorem dX11_readBack_125 : decode cX11_readBack 125 = .ok (.ireturn, 1) := by decide +kernel
theorem dX12_init_0 : decode cX12_init 0 = .ok (.aload_n 0, 1) := by decide +kernel
theorem dX12_init_1 : decode cX12_init 1 = .ok (.invokespecial 1, 3) := by decide +kernel
theorem dX12_init_4 : decode cX12_init 4 = .ok (.aload_n 0, 1) := by decide +kernel
theorem dX12_init_5 : decode cX12_init 5 = .ok (.sipush 3000, 3) := by decide +kernel
theorem dX12_init_8 : decode cX12_init 8 = .ok (.newarray .int, 2) := by decide +kernel
theorem dX12_init_10 : decode cX12_init 10 = .ok (.putfield 9, 3) := by decide +kernel
theorem dX12_init_13 : decode cX12_init 13 = .ok (.aload_n 0, 1) := by decide +kernel
theorem dX12_init_14 : decode cX12_init 14 = .ok (.sipush 3000, 3) := by decide +kernel
theorem dX12_init_17 : decode cX12_init 17 = .ok (.newarray .int, 2) := by decide +kernel
theorem dX12_init_19 : decode cX12_init 19 = .ok (.putfield 13, 3) := by decide +kernel
theorem dX12_init_22 : decode cX12_init 22 = .ok (.aload_n 0, 1) := by decide +kernel
theorem dX12_init_23 : decode cX12_init 23 = .ok (.iconst (-1), 1) := by decide +kernel
theorem dX12_init_24 : decode cX12_init 24 = .ok (.putfield 16, 3) := by decide +kernel
theorem dX12_init_27 : decode cX12_init 27 = .ok (.aload_n 0, 1) := by decide +kernel
theorem dX12_init_28 : decode cX12_init 28 = .ok (.sipush 200, 3) := by decide +kernel
theorem dX12_init_31 : decode cX12_init 31 = .ok (.newarray .int, 2) := by decide +kernel
theorem dX12_init_33 : decode cX12_init 33 = .ok (.putfield 20, 3) := by decide +kernel
theorem dX12_init_36 : decode cX12_init 36 = .ok (.aload_n 0, 1) := by decide +kernel
theorem dX12_init_37 : decode cX12_init 37 = .ok (.sipush 200, 3) := by decide +kernel
theorem dX12_init_40 : decode cX12_init 40 = .ok (.newarray .int, 2) := by decide +kernel
theorem dX12_init_42 : decode cX12_init 42 = .ok (.putfield 23, 3) := by decide +kernel
theorem dX12_init_45 : decode cX12_init 45 = .ok (.aload_n 0, 1) := by decide +kernel
theorem dX12_init_46 : decode cX12_init 46 = .ok (.sipush 200, 3) := by decide +kernel
theorem dX12_init_49 : decode cX12_init 49 = .ok (.newarray .int, 2) := by decide +kernel
theorem dX12_init_51 : decode cX12_init 51 = .ok (.putfield 26, 3) := by decide +kernel
theorem dX12_init_54 : decode cX12_init 54 = .ok (.aload_n 0, 1) := by decide +kernel
theorem dX12_init_55 : decode cX12_init 55 = .ok (.sipush 200, 3) := by decide +kernel
theorem dX12_init_58 : decode cX12_init 58 = .ok (.newarray .int, 2) := by decide +kernel
theorem dX12_init_60 : decode cX12_init 60 = .ok (.putfield 29, 3) := by decide +kernel
theorem dX12_init_63 : decode cX12_init 63 = .ok (.aload_n 0, 1) := by decide +kernel
theorem dX12_init_64 : decode cX12_init 64 = .ok (.sipush 200, 3) := by decide +kernel
theorem dX12_init_67 : decode cX12_init 67 = .ok (.newarray .int, 2) := by decide +kernel
theorem dX12_init_69 : decode cX12_init 69 = .ok (.putfield 32, 3) := by decide +kernel
theorem dX12_init_72 : decode cX12_init 72 = .ok (.aload_n 0, 1) := by decide +kernel
theorem dX12_init_73 : decode cX12_init 73 = .ok (.sipush 200, 3) := by decide +kernel
theorem dX12_init_76 : decode cX12_init 76 = .ok (.newarray .int, 2) := by decide +kernel
theorem dX12_init_78 : decode cX12_init 78 = .ok (.putfield 35, 3) := by decide +kernel
theorem dX12_init_81 : decode cX12_init 81 = .ok (.aload_n 0, 1) := by decide +kernel
theorem dX12_init_82 : decode cX12_init 82 = .ok (.sipush 300, 3) := by decide +kernel
theorem dX12_init_85 : decode cX12_init 85 = .ok (.newarray .int, 2) := by decide +kernel
theorem dX12_init_87 : decode cX12_init 87 = .ok (.putfield 38, 3) := by decide +kernel
theorem dX12_init_90 : decode cX12_init 90 = .ok (.aload_n 0, 1) := by decide +kernel
theorem dX12_init_91 : decode cX12_init 91 = .ok (.sipush 300, 3) := by decide +kernel
theorem dX12_init_94 : decode cX12_init 94 = .ok (.newarray .int, 2) := by decide +kernel
theorem dX12_init_96 : decode cX12_init 96 = .ok (.putfield 41, 3) := by decide +kernel
theorem dX12_init_99 : decode cX12_init 99 = .ok (.aload_n 0, 1) := by decide +kernel
theorem dX12_init_100 : decode cX12_init 100 = .ok (.sipush 300, 3) := by decide +kernel
theorem dX12_init_103 : decode cX12_init 103 = .ok (.newarray .int, 2) := by decide +kernel
theorem dX12_init_105 : decode cX12_init 105 = .ok (.putfield 44, 3) := by decide +kernel
theorem dX12_init_108 : decode cX12_init 108 = .ok (.aload_n 0, 1) := by decide +kernel
theorem dX12_init_109 : decode cX12_init 109 = .ok (.sipush 18000, 3) := by decide +kernel
theorem dX12_init_112 : decode cX12_init 112 = .ok (.newarray .int, 2) := by decide +kernel
theorem dX12_init_114 : decode cX12_init 114 = .ok (.putfield 47, 3) := by decide +kernel
theorem dX12_init_117 : decode cX12_init 117 = .ok (.aload_n 0, 1) := by decide +kernel
theorem dX12_init_118 : decode cX12_init 118 = .ok (.sipush 150, 3) := by decide +kernel
theorem dX12_init_121 : decode cX12_init 121 = .ok (.newarray .int, 2) := by decide +kernel
theorem dX12_init_123 : decode cX12_init 123 = .ok (.putfield 50, 3) := by decide +kernel
theorem dX12_init_126 : decode cX12_init 126 = .ok (.aload_n 0, 1) := by decide +kernel
theorem dX12_init_127 : decode cX12_init 127 = .ok (.sipush 150, 3) := by decide +kernel
theorem dX12_init_130 : decode cX12_init 130 = .ok (.newarray .int, 2) := by decide +kernel
theorem dX12_init_132 : decode cX12_init 132 = .ok (.putfield 53, 3) := by decide +kernel
theorem dX12_init_135 : decode cX12_init 135 = .ok (.aload_n 0, 1) := by decide +kernel
theorem dX12_init_136 : decode cX12_init 136 = .ok (.sipush 150, 3) := by decide +kernel
theorem dX12_init_139 : decode cX12_init 139 = .ok (.newarray .int, 2) := by decide +kernel
theorem dX12_init_141 : decode cX12_init 141 = .ok (.putfield 56, 3) := by decide +kernel
theorem dX12_init_144 : decode cX12_init 144 = .ok (.aload_n 0, 1) := by decide +kernel
theorem dX12_init_145 : decode cX12_init 145 = .ok (.sipush 150, 3) := by decide +kernel
theorem dX12_init_148 : decode cX12_init 148 = .ok (.newarray .int, 2) := by decide +kernel
theorem dX12_init_150 : decode cX12_init 150 = .ok (.putfield 59, 3) := by decide +kernel
theorem dX12_init_153 : decode cX12_init 153 = .ok (.aload_n 0, 1) := by decide +kernel
theorem dX12_init_154 : decode cX12_init 154 = .ok (.sipush 150, 3) := by decide +kernel
theorem dX12_init_157 : decode cX12_init 157 = .ok (.newarray .int, 2) := by decide +kernel
theorem dX12_init_159 : decode cX12_init 159 = .ok (.putfield 62, 3) := by decide +kernel
theorem dX12_init_162 : decode cX12_init 162 = .ok (.aload_n 0, 1) := by decide +kernel
theorem dX12_init_163 : decode cX12_init 163 = .ok (.bipush 100, 2) := by decide +kernel
theorem dX12_init_165 : decode cX12_init 165 = .ok (.newarray .int, 2) := by decide +kernel
theorem dX12_init_167 : decode cX12_init 167 = .ok (.putfield 65, 3) := by decide +kernel
theorem dX12_init_170 : decode cX12_init 170 = .ok (.aload_n 0, 1) := by decide +kernel
theorem dX12_init_171 : decode cX12_init 171 = .ok (.bipush 100, 2) := by decide +kernel
theorem dX12_init_173 : decode cX12_init 173 = .ok (.newarray .int, 2) := by decide +kernel
theorem dX12_init_175 : decode cX12_init 175 = .ok (.putfield 68, 3) := by decide +kernel
theorem dX12_init_178 : decode cX12_init 178 = .ok (.aload_n 0, 1) := by decide +kernel
theorem dX12_init_179 : decode cX12_init 179 = .ok (.sipush 220, 3) := by decide +kernel
theorem dX12_init_182 : decode cX12_init 182 = .ok (.newarray .int, 2) := by decide +kernel
theorem dX12_init_184 : decode cX12_init 184 = .ok (.putfield 71, 3) := by decide +kernel
theorem dX12_init_187 : decode cX12_init 187 = .ok (.aload_n 0, 1) := by decide +kernel
theorem dX12_init_188 : decode cX12_init 188 = .ok (.sipush 220, 3) := by decide +kernel
theorem dX12_init_191 : decode cX12_init 191 = .ok (.newarray .int, 2) := by decide +kernel
theorem dX12_init_193 : decode cX12_init 193 = .ok (.putfield 74, 3) := by decide +kernel
theorem dX12_init_196 : decode cX12_init 196 = .ok (.aload_n 0, 1) := by decide +kernel
theorem dX12_init_197 : decode cX12_init 197 = .ok (.sipush 220, 3) := by decide +kernel
theorem dX12_init_200 : decode cX12_init 200 = .ok (.newarray .long, 2) := by decide +kernel
theorem dX12_init_202 : decode cX12_init 202 = .ok (.putfield 77, 3) := by decide +kernel
theorem dX12_init_205 : decode cX12_init 205 = .ok (.aload_n 0, 1) := by decide +kernel
theorem dX12_init_206 : decode cX12_init 206 = .ok (.bipush 60, 2) := by decide +kernel
theorem dX12_init_208 : decode cX12_init 208 = .ok (.newarray .int, 2) := by decide +kernel
theorem dX12_init_210 : decode cX12_init 210 = .ok (.putfield 81, 3) := by decide +kernel
theorem dX12_init_213 : decode cX12_init 213 = .ok (.aload_n 0, 1) := by decide +kernel
theorem dX12_init_214 : decode cX12_init 214 = .ok (.bipush 60, 2) := by decide +kernel
theorem dX12_init_216 : decode cX12_init 216 = .ok (.newarray .int, 2) := by decide +kernel
theorem dX12_init_218 : decode cX12_init 218 = .ok (.putfield 84, 3) := by decide +kernel
theorem dX12_init_221 : decode cX12_init 221 = .ok (.aload_n 0, 1) := by decide +kernel
theorem dX12_init_222 : decode cX12_init 222 = .ok (.bipush 60, 2) := by decide +kernel
theorem dX12_init_224 : decode cX12_init 224 = .ok (.newarray .int, 2) := by decide +kernel
theorem dX12_init_226 : decode cX12_init 226 = .ok (.putfield 87, 3) := by decide +kernel
theorem dX12_init_229 : decode cX12_init 229 = .ok (.aload_n 0, 1) := by decide +kernel
theorem dX12_init_230 : decode cX12_init 230 = .ok (.bipush 60, 2) := by decide +kernel
theorem dX12_init_232 : decode cX12_init 232 = .ok (.newarray .int, 2) := by decide +kernel
theorem dX12_init_234 : decode cX12_init 234 = .ok (.putfield 90, 3) := by decide +kernel
theorem dX12_init_237 : decode cX12_init 237 = .ok (.aload_n 0, 1) := by decide +kernel
theorem dX12_init_238 : decode cX12_init 238 = .ok (.bipush 60, 2) := by decide +kernel
theorem dX12_init_240 : decode cX12_init 240 = .ok (.newarray .int, 2) := by decide +kernel
theorem dX12_init_242 : decode cX12_init 242 = .ok (.putfield 93, 3) := by decide +kernel
theorem dX12_init_245 : decode cX12_init 245 = .ok (.aload_n 0, 1) := by decide +kernel
theorem dX12_init_246 : decode cX12_init 246 = .ok (.bipush 40, 2) := by decide +kernel
theorem dX12_init_248 : decode cX12_init 248 = .ok (.newarray .int, 2) := by decide +kernel
theorem dX12_init_250 : decode cX12_init 250 = .ok (.putfield 96, 3) := by decide +kernel
theorem dX12_init_253 : decode cX12_init 253 = .ok (.aload_n 0, 1) := by decide +kernel
theorem dX12_init_254 : decode cX12_init 254 = .ok (.bipush 40, 2) := by decide +kernel
theorem dX12_init_256 : decode cX12_init 256 = .ok (.newarray .int, 2) := by decide +kernel
theorem dX12_init_258 : decode cX12_init 258 = .ok (.putfield 99, 3) := by decide +kernel
theorem dX12_init_261 : decode cX12_init 261 = .ok (.aload_n 0, 1) := by decide +kernel
theorem dX12_init_262 : decode cX12_init 262 = .ok (.bipush 40, 2) := by decide +kernel
theorem dX12_init_264 : decode cX12_init 264 = .ok (.newarray .int, 2) := by decide +kernel
theorem dX12_init_266 : decode cX12_init 266 = .ok (.putfield 102, 3) := by decide +kernel
theorem dX12_init_269 : decode cX12_init 269 = .ok (.aload_n 0, 1) := by decide +kernel
theorem dX12_init_270 : decode cX12_init 270 = .ok (.bipush 40, 2) := by decide +kernel
theorem dX12_init_272 : decode cX12_init 272 = .ok (.newarray .int, 2) := by decide +kernel
theorem dX12_init_274 : decode cX12_init 274 = .ok (.putfield 105, 3) := by decide +kernel
theorem dX12_init_277 : decode cX12_init 277 = .ok (.aload_n 0, 1) := by decide +kernel
theorem dX12_init_278 : decode cX12_init 278 = .ok (.sipush 320, 3) := by decide +kernel
theorem dX12_init_281 : decode cX12_init 281 = .ok (.newarray .int, 2) := by decide +kernel
theorem dX12_init_283 : decode cX12_init 283 = .ok (.putfield 108, 3) := by decide +kernel
theorem dX12_init_286 : decode cX12_init 286 = .ok (.return_, 1) := by decide +kernel
theorem dX12_thrown_0 : decode cX12_thrown 0 = .ok (.aload_n 0, 1) := by decide +kernel
theorem dX12_thrown_1 : decode cX12_thrown 1 = .ok (.getfield 111, 3) := by decide +kernel
theorem dX12_thrown_4 : decode cX12_thrown 4 = .ok (.ireturn, 1) := by decide +kernel
theorem dX12_fail_0 : decode cX12_fail 0 = .ok (.aload_n 0, 1) := by decide +kernel
theorem dX12_fail_1 : decode cX12_fail 1 = .ok (.iload_n 1, 1) := by decide +kernel
theorem dX12_fail_2 : decode cX12_fail 2 = .ok (.putfield 111, 3) := by decide +kernel
theorem dX12_fail_5 : decode cX12_fail 5 = .ok (.iconst 0, 1) := by decide +kernel
theorem dX12_fail_6 : decode cX12_fail 6 = .ok (.ireturn, 1) := by decide +kernel
theorem dX12_isLine_0 : decode cX12_isLine 0 = .ok (.iload_n 1, 1) := by decide +kernel
theorem dX12_isLine_1 : decode cX12_isLine 1 = .ok (.ifCond .lt 15, 3) := by decide +kernel
theorem dX12_isLine_4 : decode cX12_isLine 4 = .ok (.iload_n 1, 1) := by decide +kernel
theorem dX12_isLine_5 : decode cX12_isLine 5 = .ok (.aload_n 0, 1) := by decide +kernel
theorem dX12_isLine_6 : decode cX12_isLine 6 = .ok (.getfield 114, 3) := by decide +kernel
theorem dX12_isLine_9 : decode cX12_isLine 9 = .ok (.if_icmp .ge 7, 3) := by decide +kernel
theorem dX12_isLine_12 : decode cX12_isLine 12 = .ok (.iconst 1, 1) := by decide +kernel
theorem dX12_isLine_13 : decode cX12_isLine 13 = .ok (.goto 4, 3) := by decide +kernel
theorem dX12_isLine_16 : decode cX12_isLine 16 = .ok (.iconst 0, 1) := by decide +kernel
theorem dX12_isLine_17 : decode cX12_isLine 17 = .ok (.ireturn, 1) := by decide +kernel
theorem dX12_feed_0 : decode cX12_feed 0 = .ok (.aload_n 0, 1) := by decide +kernel
theorem dX12_feed_1 : decode cX12_feed 1 = .ok (.iconst 0, 1) := by decide +kernel
theorem dX12_feed_2 : decode cX12_feed 2 = .ok (.putfield 111, 3) := by decide +kernel
theorem dX12_feed_5 : decode cX12_feed 5 = .ok (.aload_n 0, 1) := by decide +kernel
theorem dX12_feed_6 : decode cX12_feed 6 = .ok (.getfield 117, 3) := by decide +kernel
theorem dX12_feed_9 : decode cX12_feed 9 = .ok (.bipush 20, 2) := by decide +kernel
theorem dX12_feed_11 : decode cX12_feed 11 = .ok (.iadd, 1) := by decide +kernel
theorem dX12_feed_12 : decode cX12_feed 12 = .ok (.sipush 3000, 3) := by decide +kernel
theorem dX12_feed_15 : decode cX12_feed 15 = .ok (.if_icmp .le 5, 3) := by decide +kernel
theorem dX12_feed_18 : decode cX12_feed 18 = .ok (.iconst (-1), 1) := by decide +kernel
theorem dX12_feed_19 : decode cX12_feed 19 = .ok (.ireturn, 1) := by decide +kernel
theorem dX12_feed_20 : decode cX12_feed 20 = .ok (.iconst 0, 1) := by decide +kernel
theorem dX12_feed_21 : decode cX12_feed 21 = .ok (.istore 6, 2) := by decide +kernel
theorem dX12_feed_23 : decode cX12_feed 23 = .ok (.iload 6, 2) := by decide +kernel
theorem dX12_feed_25 : decode cX12_feed 25 = .ok (.bipush 20, 2) := by decide +kernel
theorem dX12_feed_27 : decode cX12_feed 27 = .ok (.if_icmp .ge 93, 3) := by decide +kernel
theorem dX12_feed_30 : decode cX12_feed 30 = .ok (.iload 6, 2) := by decide +kernel
theorem dX12_feed_32 : decode cX12_feed 32 = .ok (.iconst 4, 1) := by decide +kernel
theorem dX12_feed_33 : decode cX12_feed 33 = .ok (.if_icmp .ge 7, 3) := by decide +kernel
theorem dX12_feed_36 : decode cX12_feed 36 = .ok (.iload_n 1, 1) := by decide +kernel
theorem dX12_feed_37 : decode cX12_feed 37 = .ok (.goto 39, 3) := by decide +kernel
theorem dX12_feed_40 : decode cX12_feed 40 = .ok (.iload 6, 2) := by decide +kernel
theorem dX12_feed_42 : decode cX12_feed 42 = .ok (.bipush 8, 2) := by decide +kernel
theorem dX12_feed_44 : decode cX12_feed 44 = .ok (.if_icmp .ge 7, 3) := by decide +kernel
theorem dX12_feed_47 : decode cX12_feed 47 = .ok (.iload_n 2, 1) := by decide +kernel
theorem dX12_feed_48 : decode cX12_feed 48 = .ok (.goto 28, 3) := by decide +kernel
theorem dX12_feed_51 : decode cX12_feed 51 = .ok (.iload 6, 2) := by decide +kernel
theorem dX12_feed_53 : decode cX12_feed 53 = .ok (.bipush 12, 2) := by decide +kernel
theorem dX12_feed_55 : decode cX12_feed 55 = .ok (.if_icmp .ge 7, 3) := by decide +kernel
theorem dX12_feed_58 : decode cX12_feed 58 = .ok (.iload_n 3, 1) := by decide +kernel
theorem dX12_feed_59 : decode cX12_feed 59 = .ok (.goto 17, 3) := by decide +kernel
theorem dX12_feed_62 : decode cX12_feed 62 = .ok (.iload 6, 2) := by decide +kernel
theorem dX12_feed_64 : decode cX12_feed 64 = .ok (.bipush 16, 2) := by decide +kernel
theorem dX12_feed_66 : decode cX12_feed 66 = .ok (.if_icmp .ge 8, 3) := by decide +kernel
theorem dX12_feed_69 : decode cX12_feed 69 = .ok (.iload 4, 2) := by decide +kernel
theorem dX12_feed_71 : decode cX12_feed 71 = .ok (.goto 5, 3) := by decide +kernel
theorem dX12_feed_74 : decode cX12_feed 74 = .ok (.iload 5, 2) := by decide +kernel
theorem dX12_feed_76 : decode cX12_feed 76 = .ok (.istore 7, 2) := by decide +kernel
theorem dX12_feed_78 : decode cX12_feed 78 = .ok (.aload_n 0, 1) := by decide +kernel
theorem dX12_feed_79 : decode cX12_feed 79 = .ok (.getfield 9, 3) := by decide +kernel
theorem dX12_feed_82 : decode cX12_feed 82 = .ok (.aload_n 0, 1) := by decide +kernel
theorem dX12_feed_83 : decode cX12_feed 83 = .ok (.getfield 117, 3) := by decide +kernel
theorem dX12_feed_86 : decode cX12_feed 86 = .ok (.iload 7, 2) := by decide +kernel
theorem dX12_feed_88 : decode cX12_feed 88 = .ok (.bipush 24, 2) := by decide +kernel
theorem dX12_feed_90 : decode cX12_feed 90 = .ok (.bipush 8, 2) := by decide +kernel
theorem dX12_feed_92 : decode cX12_feed 92 = .ok (.iload 6, 2) := by decide +kernel
theorem dX12_feed_94 : decode cX12_feed 94 = .ok (.iconst 4, 1) := by decide +kernel
theorem dX12_feed_95 : decode cX12_feed 95 = .ok (.irem, 1) := by decide +kernel
theorem dX12_feed_96 : decode cX12_feed 96 = .ok (.imul, 1) := by decide +kernel
theorem dX12_feed_97 : decode cX12_feed 97 = .ok (.isub, 1) := by decide +kernel
theorem dX12_feed_98 : decode cX12_feed 98 = .ok (.ishr, 1) := by decide +kernel
theorem dX12_feed_99 : decode cX12_feed 99 = .ok (.sipush 255, 3) := by decide +kernel
theorem dX12_feed_102 : decode cX12_feed 102 = .ok (.iand, 1) := by decide +kernel
theorem dX12_feed_103 : decode cX12_feed 103 = .ok (.iastore, 1) := by decide +kernel
theorem dX12_feed_104 : decode cX12_feed 104 = .ok (.aload_n 0, 1) := by decide +kernel
theorem dX12_feed_105 : decode cX12_feed 105 = .ok (.dup, 1) := by decide +kernel
theorem dX12_feed_106 : decode cX12_feed 106 = .ok (.getfield 117, 3) := by decide +kernel
theorem dX12_feed_109 : decode cX12_feed 109 = .ok (.iconst 1, 1) := by decide +kernel
theorem dX12_feed_110 : decode cX12_feed 110 = .ok (.iadd, 1) := by decide +kernel
theorem dX12_feed_111 : decode cX12_feed 111 = .ok (.putfield 117, 3) := by decide +kernel
theorem dX12_feed_114 : decode cX12_feed 114 = .ok (.iinc 6 1, 3) := by decide +kernel
theorem dX12_feed_117 : decode cX12_feed 117 = .ok (.goto (-94), 3) := by decide +kernel
theorem dX12_feed_120 : decode cX12_feed 120 = .ok (.aload_n 0, 1) := by decide +kernel
theorem dX12_feed_121 : decode cX12_feed 121 = .ok (.getfield 117, 3) := by decide +kernel
theorem dX12_feed_124 : decode cX12_feed 124 = .ok (.ireturn, 1) := by decide +kernel
theorem dX12_named_0 : decode cX12_named 0 = .ok (.iconst 0, 1) := by decide +kernel
theorem dX12_named_1 : decode cX12_named 1 = .ok (.istore 4, 2) := by decide +kernel
theorem dX12_named_3 : decode cX12_named 3 = .ok (.iload 4, 2) := by decide +kernel
theorem dX12_named_5 : decode cX12_named 5 = .ok (.aload_n 0, 1) := by decide +kernel
theorem dX12_named_6 : decode cX12_named 6 = .ok (.getfield 120, 3) := by decide +kernel
theorem dX12_named_9 : decode cX12_named 9 = .ok (.if_icmp .ge 24, 3) := by decide +kernel
theorem dX12_named_12 : decode cX12_named 12 = .ok (.aload_n 0, 1) := by decide +kernel
theorem dX12_named_13 : decode cX12_named 13 = .ok (.iload 4, 2) := by decide +kernel
theorem dX12_named_15 : decode cX12_named 15 = .ok (.iload_n 3, 1) := by decide +kernel
theorem dX12_named_16 : decode cX12_named 16 = .ok (.invokevirtual 123, 3) := by decide +kernel
theorem dX12_named_19 : decode cX12_named 19 = .ok (.lload_n 1, 1) := by decide +kernel
theorem dX12_named_20 : decode cX12_named 20 = .ok (.lcmp, 1) := by decide +kernel
theorem dX12_named_21 : decode cX12_named 21 = .ok (.ifCond .ne 6, 3) := by decide +kernel
theorem dX12_named_24 : decode cX12_named 24 = .ok (.iload 4, 2) := by decide +kernel
theorem dX12_named_26 : decode cX12_named 26 = .ok (.ireturn, 1) := by decide +kernel
theorem dX12_named_27 : decode cX12_named 27 = .ok (.iinc 4 1, 3) := by decide +kernel
theorem dX12_named_30 : decode cX12_named 30 = .ok (.goto (-27), 3) := by decide +kernel
theorem dX12_named_33 : decode cX12_named 33 = .ok (.iconst (-1), 1) := by decide +kernel
theorem dX12_named_34 : decode cX12_named 34 = .ok (.ireturn, 1) := by decide +kernel
theorem dX12_nameAt_0 : decode cX12_nameAt 0 = .ok (.lconst 0, 1) := by decide +kernel
theorem dX12_nameAt_1 : decode cX12_nameAt 1 = .ok (.lstore_n 3, 1) := by decide +kernel
theorem dX12_nameAt_2 : decode cX12_nameAt 2 = .ok (.iconst 0, 1) := by decide +kernel
theorem dX12_nameAt_3 : decode cX12_nameAt 3 = .ok (.istore 5, 2) := by decide +kernel
theorem dX12_nameAt_5 : decode cX12_nameAt 5 = .ok (.iload 5, 2) := by decide +kernel
theorem dX12_nameAt_7 : decode cX12_nameAt 7 = .ok (.aload_n 0, 1) := by decide +kernel
theorem dX12_nameAt_8 : decode cX12_nameAt 8 = .ok (.getfield 127, 3) := by decide +kernel
theorem dX12_nameAt_11 : decode cX12_nameAt 11 = .ok (.if_icmp .ge 39, 3) := by decide +kernel
theorem dX12_nameAt_14 : decode cX12_nameAt 14 = .ok (.aload_n 0, 1) := by decide +kernel
theorem dX12_nameAt_15 : decode cX12_nameAt 15 = .ok (.getfield 71, 3) := by decide +kernel
theorem dX12_nameAt_18 : decode cX12_nameAt 18 = .ok (.iload 5, 2) := by decide +kernel
theorem dX12_nameAt_20 : decode cX12_nameAt 20 = .ok (.iaload, 1) := by decide +kernel
theorem dX12_nameAt_21 : decode cX12_nameAt 21 = .ok (.iload_n 1, 1) := by decide +kernel
theorem dX12_nameAt_22 : decode cX12_nameAt 22 = .ok (.if_icmp .ne 22, 3) := by decide +kernel
theorem dX12_nameAt_25 : decode cX12_nameAt 25 = .ok (.aload_n 0, 1) := by decide +kernel
theorem dX12_nameAt_26 : decode cX12_nameAt 26 = .ok (.getfield 74, 3) := by decide +kernel
theorem dX12_nameAt_29 : decode cX12_nameAt 29 = .ok (.iload 5, 2) := by decide +kernel
theorem dX12_nameAt_31 : decode cX12_nameAt 31 = .ok (.iaload, 1) := by decide +kernel
theorem dX12_nameAt_32 : decode cX12_nameAt 32 = .ok (.iload_n 2, 1) := by decide +kernel
theorem dX12_nameAt_33 : decode cX12_nameAt 33 = .ok (.if_icmp .gt 11, 3) := by decide +kernel
theorem dX12_nameAt_36 : decode cX12_nameAt 36 = .ok (.aload_n 0, 1) := by decide +kernel
theorem dX12_nameAt_37 : decode cX12_nameAt 37 = .ok (.getfield 77, 3) := by decide +kernel
theorem dX12_nameAt_40 : decode cX12_nameAt 40 = .ok (.iload 5, 2) := by decide +kernel
theorem dX12_nameAt_42 : decode cX12_nameAt 42 = .ok (.laload, 1) := by decide +kernel
theorem dX12_nameAt_43 : decode cX12_nameAt 43 = .ok (.lstore_n 3, 1) := by decide +kernel
theorem dX12_nameAt_44 : decode cX12_nameAt 44 = .ok (.iinc 5 1, 3) := by decide +kernel
theorem dX12_nameAt_47 : decode cX12_nameAt 47 = .ok (.goto (-42), 3) := by decide +kernel
theorem dX12_nameAt_50 : decode cX12_nameAt 50 = .ok (.lload_n 3, 1) := by decide +kernel
theorem dX12_nameAt_51 : decode cX12_nameAt 51 = .ok (.lreturn, 1) := by decide +kernel
theorem dX12_name_0 : decode cX12_name 0 = .ok (.aload_n 0, 1) := by decide +kernel
theorem dX12_name_1 : decode cX12_name 1 = .ok (.getfield 71, 3) := by decide +kernel
theorem dX12_name_4 : decode cX12_name 4 = .ok (.aload_n 0, 1) := by decide +kernel
theorem dX12_name_5 : decode cX12_name 5 = .ok (.getfield 127, 3) := by decide +kernel
theorem dX12_name_8 : decode cX12_name 8 = .ok (.iload_n 1, 1) := by decide +kernel
theorem dX12_name_9 : decode cX12_name 9 = .ok (.iastore, 1) := by decide +kernel
theorem dX12_name_10 : decode cX12_name 10 = .ok (.aload_n 0, 1) := by decide +kernel
theorem dX12_name_11 : decode cX12_name 11 = .ok (.getfield 74, 3) := by decide +kernel
theorem dX12_name_14 : decode cX12_name 14 = .ok (.aload_n 0, 1) := by decide +kernel
theorem dX12_name_15 : decode cX12_name 15 = .ok (.getfield 127, 3) := by decide +kernel
theorem dX12_name_18 : decode cX12_name 18 = .ok (.aload_n 0, 1) := by decide +kernel
theorem dX12_name_19 : decode cX12_name 19 = .ok (.getfield 130, 3) := by decide +kernel
theorem dX12_name_22 : decode cX12_name 22 = .ok (.iastore, 1) := by decide +kernel
theorem dX12_name_23 : decode cX12_name 23 = .ok (.aload_n 0, 1) := by decide +kernel
theorem dX12_name_24 : decode cX12_name 24 = .ok (.getfield 77, 3) := by decide +kernel
theorem dX12_name_27 : decode cX12_name 27 = .ok (.aload_n 0, 1) := by decide +kernel
theorem dX12_name_28 : decode cX12_name 28 = .ok (.getfield 127, 3) := by decide +kernel
theorem dX12_name_31 : decode cX12_name 31 = .ok (.lload_n 2, 1) := by decide +kernel
theorem dX12_name_32 : decode cX12_name 32 = .ok (.lastore, 1) := by decide +kernel
theorem dX12_name_33 : decode cX12_name 33 = .ok (.aload_n 0, 1) := by decide +kernel
theorem dX12_name_34 : decode cX12_name 34 = .ok (.dup, 1) := by decide +kernel
theorem dX12_name_35 : decode cX12_name 35 = .ok (.getfield 127, 3) := by decide +kernel
theorem dX12_name_38 : decode cX12_name 38 = .ok (.iconst 1, 1) := by decide +kernel
theorem dX12_name_39 : decode cX12_name 39 = .ok (.iadd, 1) := by decide +kernel
theorem dX12_name_40 : decode cX12_name 40 = .ok (.putfield 127, 3) := by decide +kernel
theorem dX12_name_43 : decode cX12_name 43 = .ok (.return_, 1) := by decide +kernel
theorem dX12_now0_0 : decode cX12_now0 0 = .ok (.aload_n 0, 1) := by decide +kernel
theorem dX12_now0_1 : decode cX12_now0 1 = .ok (.getfield 133, 3) := by decide +kernel
theorem dX12_now0_4 : decode cX12_now0 4 = .ok (.aload_n 0, 1) := by decide +kernel
theorem dX12_now0_5 : decode cX12_now0 5 = .ok (.getfield 136, 3) := by decide +kernel
theorem dX12_now0_8 : decode cX12_now0 8 = .ok (.if_icmp .ge 15, 3) := by decide +kernel
theorem dX12_now0_11 : decode cX12_now0 11 = .ok (.aload_n 0, 1) := by decide +kernel
theorem dX12_now0_12 : decode cX12_now0 12 = .ok (.getfield 9, 3) := by decide +kernel
theorem dX12_now0_15 : decode cX12_now0 15 = .ok (.aload_n 0, 1) := by decide +kernel
theorem dX12_now0_16 : decode cX12_now0 16 = .ok (.getfield 133, 3) := by decide +kernel
theorem dX12_now0_19 : decode cX12_now0 19 = .ok (.iaload, 1) := by decide +kernel
theorem dX12_now0_20 : decode cX12_now0 20 = .ok (.goto 4, 3) := by decide +kernel
theorem dX12_now0_23 : decode cX12_now0 23 = .ok (.iconst (-1), 1) := by decide +kernel
theorem dX12_now0_24 : decode cX12_now0 24 = .ok (.ireturn, 1) := by decide +kernel
theorem dX12_wrong_0 : decode cX12_wrong 0 = .ok (.aload_n 0, 1) := by decide +kernel
theorem dX12_wrong_1 : decode cX12_wrong 1 = .ok (.getfield 139, 3) := by decide +kernel
theorem dX12_wrong_4 : decode cX12_wrong 4 = .ok (.ifCond .eq 4, 3) := by decide +kernel
theorem dX12_wrong_7 : decode cX12_wrong 7 = .ok (.return_, 1) := by decide +kernel
theorem dX12_wrong_8 : decode cX12_wrong 8 = .ok (.aload_n 0, 1) := by decide +kernel
theorem dX12_wrong_9 : decode cX12_wrong 9 = .ok (.iload_n 1, 1) := by decide +kernel
theorem dX12_wrong_10 : decode cX12_wrong 10 = .ok (.putfield 139, 3) := by decide +kernel
theorem dX12_wrong_13 : decode cX12_wrong 13 = .ok (.aload_n 0, 1) := by decide +kernel
theorem dX12_wrong_14 : decode cX12_wrong 14 = .ok (.iload_n 2, 1) := by decide +kernel
theorem dX12_wrong_15 : decode cX12_wrong 15 = .ok (.putfield 142, 3) := by decide +kernel
theorem dX12_wrong_18 : decode cX12_wrong 18 = .ok (.return_, 1) := by decide +kernel
theorem dX12_take_0 : decode cX12_take 0 = .ok (.aload_n 0, 1) := by decide +kernel
theorem dX12_take_1 : decode cX12_take 1 = .ok (.getfield 133, 3) := by decide +kernel
theorem dX12_take_4 : decode cX12_take 4 = .ok (.aload_n 0, 1) := by decide +kernel
theorem dX12_take_5 : decode cX12_take 5 = .ok (.getfield 145, 3) := by decide +kernel
theorem dX12_take_8 : decode cX12_take 8 = .ok (.isub, 1) := by decide +kernel
theorem dX12_take_9 : decode cX12_take 9 = .ok (.iload_n 1, 1) := by decide +kernel
theorem dX12_take_10 : decode cX12_take 10 = .ok (.if_icmp .lt 12, 3) := by decide +kernel
theorem dX12_take_13 : decode cX12_take 13 = .ok (.aload_n 0, 1) := by decide +kernel
theorem dX12_take_14 : decode cX12_take 14 = .ok (.iconst 2, 1) := by decide +kernel
theorem dX12_take_15 : decode cX12_take 15 = .ok (.aload_n 0, 1) := by decide +kernel
theorem dX12_take_16 : decode cX12_take 16 = .ok (.getfield 133, 3) := by decide +kernel
theorem dX12_take_19 : decode cX12_take 19 = .ok (.invokevirtual 148, 3) := by decide +kernel
theorem dX12_take_22 : decode cX12_take 22 = .ok (.aload_n 0, 1) := by decide +kernel
theorem dX12_take_23 : decode cX12_take 23 = .ok (.getfield 139, 3) := by decide +kernel
theorem dX12_take_26 : decode cX12_take 26 = .ok (.ifCond .ne 13, 3) := by decide +kernel
theorem dX12_take_29 : decode cX12_take 29 = .ok (.aload_n 0, 1) := by decide +kernel
theorem dX12_take_30 : decode cX12_take 30 = .ok (.dup, 1) := by decide +kernel
theorem dX12_take_31 : decode cX12_take 31 = .ok (.getfield 133, 3) := by decide +kernel
theorem dX12_take_34 : decode cX12_take 34 = .ok (.iconst 1, 1) := by decide +kernel
theorem dX12_take_35 : decode cX12_take 35 = .ok (.iadd, 1) := by decide +kernel
theorem dX12_take_36 : decode cX12_take 36 = .ok (.putfield 133, 3) := by decide +kernel
theorem dX12_take_39 : decode cX12_take 39 = .ok (.return_, 1) := by decide +kernel
theorem dX12_isNameSign_0 : decode cX12_isNameSign 0 = .ok (.iload_n 0, 1) := by decide +kernel
theorem dX12_isNameSign_1 : decode cX12_isNameSign 1 = .ok (.bipush 65, 2) := by decide +kernel
theorem dX12_isNameSign_3 : decode cX12_isNameSign 3 = .ok (.if_icmp .lt 9, 3) := by decide +kernel
theorem dX12_isNameSign_6 : decode cX12_isNameSign 6 = .ok (.iload_n 0, 1) := by decide +kernel
theorem dX12_isNameSign_7 : decode cX12_isNameSign 7 = .ok (.bipush 90, 2) := by decide +kernel
theorem dX12_isNameSign_9 : decode cX12_isNameSign 9 = .ok (.if_icmp .le 15, 3) := by decide +kernel
theorem dX12_isNameSign_12 : decode cX12_isNameSign 12 = .ok (.iload_n 0, 1) := by decide +kernel
theorem dX12_isNameSign_13 : decode cX12_isNameSign 13 = .ok (.bipush 48, 2) := by decide +kernel
theorem dX12_isNameSign_15 : decode cX12_isNameSign 15 = .ok (.if_icmp .lt 13, 3) := by decide +kernel
theorem dX12_isNameSign_18 : decode cX12_isNameSign 18 = .ok (.iload_n 0, 1) := by decide +kernel
theorem dX12_isNameSign_19 : decode cX12_isNameSign 19 = .ok (.bipush 57, 2) := by decide +kernel
theorem dX12_isNameSign_21 : decode cX12_isNameSign 21 = .ok (.if_icmp .gt 7, 3) := by decide +kernel
theorem dX12_isNameSign_24 : decode cX12_isNameSign 24 = .ok (.iconst 1, 1) := by decide +kernel
theorem dX12_isNameSign_25 : decode cX12_isNameSign 25 = .ok (.goto 4, 3) := by decide +kernel
theorem dX12_isNameSign_28 : decode cX12_isNameSign 28 = .ok (.iconst 0, 1) := by decide +kernel
theorem dX12_isNameSign_29 : decode cX12_isNameSign 29 = .ok (.ireturn, 1) := by decide +kernel
theorem dX12_readName_0 : decode cX12_readName 0 = .ok (.aload_n 0, 1) := by decide +kernel
theorem dX12_readName_1 : decode cX12_readName 1 = .ok (.getfield 133, 3) := by decide +kernel
theorem dX12_readName_4 : decode cX12_readName 4 = .ok (.istore_n 2, 1) := by decide +kernel
theorem dX12_readName_5 : decode cX12_readName 5 = .ok (.aload_n 0, 1) := by decide +kernel
theorem dX12_readName_6 : decode cX12_readName 6 = .ok (.lconst 0, 1) := by decide +kernel
theorem dX12_readName_7 : decode cX12_readName 7 = .ok (.putfield 152, 3) := by decide +kernel
theorem dX12_readName_10 : decode cX12_readName 10 = .ok (.aload_n 0, 1) := by decide +kernel
theorem dX12_readName_11 : decode cX12_readName 11 = .ok (.invokevirtual 156, 3) := by decide +kernel
theorem dX12_readName_14 : decode cX12_readName 14 = .ok (.invokestatic 160, 3) := by decide +kernel
theorem dX12_readName_17 : decode cX12_readName 17 = .ok (.ifCond .ne 12, 3) := by decide +kernel
theorem dX12_readName_20 : decode cX12_readName 20 = .ok (.aload_n 0, 1) := by decide +kernel
theorem dX12_readName_21 : decode cX12_readName 21 = .ok (.iconst 1, 1) := by decide +kernel
theorem dX12_readName_22 : decode cX12_readName 22 = .ok (.aload_n 0, 1) := by decide +kernel
theorem dX12_readName_23 : decode cX12_readName 23 = .ok (.getfield 133, 3) := by decide +kernel
theorem dX12_readName_26 : decode cX12_readName 26 = .ok (.invokevirtual 148, 3) := by decide +kernel
theorem dX12_readName_29 : decode cX12_readName 29 = .ok (.aload_n 0, 1) := by decide +kernel
theorem dX12_readName_30 : decode cX12_readName 30 = .ok (.getfield 139, 3) := by decide +kernel
theorem dX12_readName_33 : decode cX12_readName 33 = .ok (.ifCond .ne 58, 3) := by decide +kernel
theorem dX12_readName_36 : decode cX12_readName 36 = .ok (.aload_n 0, 1) := by decide +kernel
theorem dX12_readName_37 : decode cX12_readName 37 = .ok (.invokevirtual 156, 3) := by decide +kernel
theorem dX12_readName_40 : decode cX12_readName 40 = .ok (.invokestatic 160, 3) := by decide +kernel
theorem dX12_readName_43 : decode cX12_readName 43 = .ok (.ifCond .eq 48, 3) := by decide +kernel
theorem dX12_readName_46 : decode cX12_readName 46 = .ok (.aload_n 0, 1) := by decide +kernel
theorem dX12_readName_47 : decode cX12_readName 47 = .ok (.getfield 133, 3) := by decide +kernel
theorem dX12_readName_50 : decode cX12_readName 50 = .ok (.iload_n 2, 1) := by decide +kernel
theorem dX12_readName_51 : decode cX12_readName 51 = .ok (.isub, 1) := by decide +kernel
theorem dX12_readName_52 : decode cX12_readName 52 = .ok (.bipush 6, 2) := by decide +kernel
theorem dX12_readName_54 : decode cX12_readName 54 = .ok (.if_icmp .ne 12, 3) := by decide +kernel
theorem dX12_readName_57 : decode cX12_readName 57 = .ok (.aload_n 0, 1) := by decide +kernel
theorem dX12_readName_58 : decode cX12_readName 58 = .ok (.iconst 2, 1) := by decide +kernel
theorem dX12_readName_59 : decode cX12_readName 59 = .ok (.aload_n 0, 1) := by decide +kernel
theorem dX12_readName_60 : decode cX12_readName 60 = .ok (.getfield 133, 3) := by decide +kernel
theorem dX12_readName_63 : decode cX12_readName 63 = .ok (.invokevirtual 148, 3) := by decide +kernel
theorem dX12_readName_66 : decode cX12_readName 66 = .ok (.aload_n 0, 1) := by decide +kernel
theorem dX12_readName_67 : decode cX12_readName 67 = .ok (.aload_n 0, 1) := by decide +kernel
theorem dX12_readName_68 : decode cX12_readName 68 = .ok (.getfield 152, 3) := by decide +kernel
theorem dX12_readName_71 : decode cX12_readName 71 = .ok (.bipush 8, 2) := by decide +kernel
theorem dX12_readName_73 : decode cX12_readName 73 = .ok (.lshl, 1) := by decide +kernel
theorem dX12_readName_74 : decode cX12_readName 74 = .ok (.aload_n 0, 1) := by decide +kernel
theorem dX12_readName_75 : decode cX12_readName 75 = .ok (.invokevirtual 156, 3) := by decide +kernel
theorem dX12_readName_78 : decode cX12_readName 78 = .ok (.i2l, 1) := by decide +kernel
theorem dX12_readName_79 : decode cX12_readName 79 = .ok (.lor, 1) := by decide +kernel
theorem dX12_readName_80 : decode cX12_readName 80 = .ok (.putfield 152, 3) := by decide +kernel
theorem dX12_readName_83 : decode cX12_readName 83 = .ok (.aload_n 0, 1) := by decide +kernel
theorem dX12_readName_84 : decode cX12_readName 84 = .ok (.iload_n 1, 1) := by decide +kernel
theorem dX12_readName_85 : decode cX12_readName 85 = .ok (.invokevirtual 164, 3) := by decide +kernel
theorem dX12_readName_88 : decode cX12_readName 88 = .ok (.goto (-59), 3) := by decide +kernel
theorem dX12_readName_91 : decode cX12_readName 91 = .ok (.iload_n 2, 1) := by decide +kernel
theorem dX12_readName_92 : decode cX12_readName 92 = .ok (.ireturn, 1) := by decide +kernel
theorem dX12_readNumber_0 : decode cX12_readNumber 0 = .ok (.aload_n 0, 1) := by decide +kernel
theorem dX12_readNumber_1 : decode cX12_readNumber 1 = .ok (.getfield 133, 3) := by decide +kernel
theorem dX12_readNumber_4 : decode cX12_readNumber 4 = .ok (.istore_n 2, 1) := by decide +kernel
theorem dX12_readNumber_5 : decode cX12_readNumber 5 = .ok (.iconst 0, 1) := by decide +kernel
theorem dX12_readNumber_6 : decode cX12_readNumber 6 = .ok (.istore_n 3, 1) := by decide +kernel
theorem dX12_readNumber_7 : decode cX12_readNumber 7 = .ok (.aload_n 0, 1) := by decide +kernel
theorem dX12_readNumber_8 : decode cX12_readNumber 8 = .ok (.invokevirtual 156, 3) := by decide +kernel
theorem dX12_readNumber_11 : decode cX12_readNumber 11 = .ok (.bipush 48, 2) := by decide +kernel
theorem dX12_readNumber_13 : decode cX12_readNumber 13 = .ok (.if_icmp .lt 12, 3) := by decide +kernel
theorem dX12_readNumber_16 : decode cX12_readNumber 16 = .ok (.aload_n 0, 1) := by decide +kernel
theorem dX12_readNumber_17 : decode cX12_readNumber 17 = .ok (.invokevirtual 156, 3) := by decide +kernel
theorem dX12_readNumber_20 : decode cX12_readNumber 20 = .ok (.bipush 57, 2) := by decide +kernel
theorem dX12_readNumber_22 : decode cX12_readNumber 22 = .ok (.if_icmp .le 12, 3) := by decide +kernel
theorem dX12_readNumber_25 : decode cX12_readNumber 25 = .ok (.aload_n 0, 1) := by decide +kernel
theorem dX12_readNumber_26 : decode cX12_readNumber 26 = .ok (.iconst 1, 1) := by decide +kernel
theorem dX12_readNumber_27 : decode cX12_readNumber 27 = .ok (.aload_n 0, 1) := by decide +kernel
theorem dX12_readNumber_28 : decode cX12_readNumber 28 = .ok (.getfield 133, 3) := by decide +kernel
theorem dX12_readNumber_31 : decode cX12_readNumber 31 = .ok (.invokevirtual 148, 3) := by decide +kernel
theorem dX12_readNumber_34 : decode cX12_readNumber 34 = .ok (.aload_n 0, 1) := by decide +kernel
theorem dX12_readNumber_35 : decode cX12_readNumber 35 = .ok (.getfield 139, 3) := by decide +kernel
theorem dX12_readNumber_38 : decode cX12_readNumber 38 = .ok (.ifCond .ne 61, 3) := by decide +kernel
theorem dX12_readNumber_41 : decode cX12_readNumber 41 = .ok (.aload_n 0, 1) := by decide +kernel
theorem dX12_readNumber_42 : decode cX12_readNumber 42 = .ok (.invokevirtual 156, 3) := by decide +kernel
theorem dX12_readNumber_45 : decode cX12_readNumber 45 = .ok (.bipush 48, 2) := by decide +kernel
theorem dX12_readNumber_47 : decode cX12_readNumber 47 = .ok (.if_icmp .lt 52, 3) := by decide +kernel
theorem dX12_readNumber_50 : decode cX12_readNumber 50 = .ok (.aload_n 0, 1) := by decide +kernel
theorem dX12_readNumber_51 : decode cX12_readNumber 51 = .ok (.invokevirtual 156, 3) := by decide +kernel
theorem dX12_readNumber_54 : decode cX12_readNumber 54 = .ok (.bipush 57, 2) := by decide +kernel
theorem dX12_readNumber_56 : decode cX12_readNumber 56 = .ok (.if_icmp .gt 43, 3) := by decide +kernel
theorem dX12_readNumber_59 : decode cX12_readNumber 59 = .ok (.aload_n 0, 1) := by decide +kernel
theorem dX12_readNumber_60 : decode cX12_readNumber 60 = .ok (.getfield 133, 3) := by decide +kernel
theorem dX12_readNumber_63 : decode cX12_readNumber 63 = .ok (.iload_n 2, 1) := by decide +kernel
theorem dX12_readNumber_64 : decode cX12_readNumber 64 = .ok (.isub, 1) := by decide +kernel
theorem dX12_readNumber_65 : decode cX12_readNumber 65 = .ok (.iconst 4, 1) := by decide +kernel
theorem dX12_readNumber_66 : decode cX12_readNumber 66 = .ok (.if_icmp .ne 12, 3) := by decide +kernel
theorem dX12_readNumber_69 : decode cX12_readNumber 69 = .ok (.aload_n 0, 1) := by decide +kernel
theorem dX12_readNumber_70 : decode cX12_readNumber 70 = .ok (.iconst 2, 1) := by decide +kernel
theorem dX12_readNumber_71 : decode cX12_readNumber 71 = .ok (.aload_n 0, 1) := by decide +kernel
theorem dX12_readNumber_72 : decode cX12_readNumber 72 = .ok (.getfield 133, 3) := by decide +kernel
theorem dX12_readNumber_75 : decode cX12_readNumber 75 = .ok (.invokevirtual 148, 3) := by decide +kernel
theorem dX12_readNumber_78 : decode cX12_readNumber 78 = .ok (.bipush 10, 2) := by decide +kernel
theorem dX12_readNumber_80 : decode cX12_readNumber 80 = .ok (.iload_n 3, 1) := by decide +kernel
theorem dX12_readNumber_81 : decode cX12_readNumber 81 = .ok (.imul, 1) := by decide +kernel
theorem dX12_readNumber_82 : decode cX12_readNumber 82 = .ok (.aload_n 0, 1) := by decide +kernel
theorem dX12_readNumber_83 : decode cX12_readNumber 83 = .ok (.invokevirtual 156, 3) := by decide +kernel
theorem dX12_readNumber_86 : decode cX12_readNumber 86 = .ok (.iadd, 1) := by decide +kernel
theorem dX12_readNumber_87 : decode cX12_readNumber 87 = .ok (.bipush 48, 2) := by decide +kernel
theorem dX12_readNumber_89 : decode cX12_readNumber 89 = .ok (.isub, 1) := by decide +kernel
theorem dX12_readNumber_90 : decode cX12_readNumber 90 = .ok (.istore_n 3, 1) := by decide +kernel
theorem dX12_readNumber_91 : decode cX12_readNumber 91 = .ok (.aload_n 0, 1) := by decide +kernel
theorem dX12_readNumber_92 : decode cX12_readNumber 92 = .ok (.iload_n 1, 1) := by decide +kernel
theorem dX12_readNumber_93 : decode cX12_readNumber 93 = .ok (.invokevirtual 164, 3) := by decide +kernel
theorem dX12_readNumber_96 : decode cX12_readNumber 96 = .ok (.goto (-62), 3) := by decide +kernel
theorem dX12_readNumber_99 : decode cX12_readNumber 99 = .ok (.iload_n 3, 1) := by decide +kernel
theorem dX12_readNumber_100 : decode cX12_readNumber 100 = .ok (.ireturn, 1) := by decide +kernel
theorem dX12_need_0 : decode cX12_need 0 = .ok (.aload_n 0, 1) := by decide +kernel
theorem dX12_need_1 : decode cX12_need 1 = .ok (.getfield 139, 3) := by decide +kernel
theorem dX12_need_4 : decode cX12_need 4 = .ok (.ifCond .ne 20, 3) := by decide +kernel
theorem dX12_need_7 : decode cX12_need 7 = .ok (.aload_n 0, 1) := by decide +kernel
theorem dX12_need_8 : decode cX12_need 8 = .ok (.invokevirtual 156, 3) := by decide +kernel
theorem dX12_need_11 : decode cX12_need 11 = .ok (.iload_n 1, 1) := by decide +kernel
