theorem dX0_init_0 : decode cX0_init 0 = .ok (.aload_n 0, 1) := by decide +kernel
theorem dX0_init_1 : decode cX0_init 1 = .ok (.invokespecial 3, 3) := by decide +kernel
theorem dX0_init_4 : decode cX0_init 4 = .ok (.aload_n 0, 1) := by decide +kernel
theorem dX0_init_5 : decode cX0_init 5 = .ok (.sipush 150, 3) := by decide +kernel
theorem dX0_init_8 : decode cX0_init 8 = .ok (.newarray .int, 2) := by decide +kernel
theorem dX0_init_10 : decode cX0_init 10 = .ok (.putfield 9, 3) := by decide +kernel
theorem dX0_init_13 : decode cX0_init 13 = .ok (.aload_n 0, 1) := by decide +kernel
theorem dX0_init_14 : decode cX0_init 14 = .ok (.aload_n 1, 1) := by decide +kernel
theorem dX0_init_15 : decode cX0_init 15 = .ok (.putfield 15, 3) := by decide +kernel
theorem dX0_init_18 : decode cX0_init 18 = .ok (.aload_n 0, 1) := by decide +kernel
theorem dX0_init_19 : decode cX0_init 19 = .ok (.aload_n 2, 1) := by decide +kernel
theorem dX0_init_20 : decode cX0_init 20 = .ok (.putfield 19, 3) := by decide +kernel
theorem dX0_init_23 : decode cX0_init 23 = .ok (.aload_n 0, 1) := by decide +kernel
theorem dX0_init_24 : decode cX0_init 24 = .ok (.aload_n 3, 1) := by decide +kernel
theorem dX0_init_25 : decode cX0_init 25 = .ok (.putfield 23, 3) := by decide +kernel
theorem dX0_init_28 : decode cX0_init 28 = .ok (.aload_n 0, 1) := by decide +kernel
theorem dX0_init_29 : decode cX0_init 29 = .ok (.aload 4, 2) := by decide +kernel
theorem dX0_init_31 : decode cX0_init 31 = .ok (.putfield 27, 3) := by decide +kernel
theorem dX0_init_34 : decode cX0_init 34 = .ok (.aload_n 0, 1) := by decide +kernel
theorem dX0_init_35 : decode cX0_init 35 = .ok (.aload 5, 2) := by decide +kernel
theorem dX0_init_37 : decode cX0_init 37 = .ok (.putfield 31, 3) := by decide +kernel
theorem dX0_init_40 : decode cX0_init 40 = .ok (.return_, 1) := by decide +kernel
theorem dX0_signOf_0 : decode cX0_signOf 0 = .ok (.aload_n 0, 1) := by decide +kernel
theorem dX0_signOf_1 : decode cX0_signOf 1 = .ok (.getfield 23, 3) := by decide +kernel
theorem dX0_signOf_4 : decode cX0_signOf 4 = .ok (.getfield 35, 3) := by decide +kernel
theorem dX0_signOf_7 : decode cX0_signOf 7 = .ok (.iload_n 1, 1) := by decide +kernel
theorem dX0_signOf_8 : decode cX0_signOf 8 = .ok (.iaload, 1) := by decide +kernel
theorem dX0_signOf_9 : decode cX0_signOf 9 = .ok (.istore_n 3, 1) := by decide +kernel
theorem dX0_signOf_10 : decode cX0_signOf 10 = .ok (.aload_n 0, 1) := by decide +kernel
theorem dX0_signOf_11 : decode cX0_signOf 11 = .ok (.getfield 19, 3) := by decide +kernel
theorem dX0_signOf_14 : decode cX0_signOf 14 = .ok (.iload_n 3, 1) := by decide +kernel
theorem dX0_signOf_15 : decode cX0_signOf 15 = .ok (.iload_n 2, 1) := by decide +kernel
theorem dX0_signOf_16 : decode cX0_signOf 16 = .ok (.invokevirtual 40, 3) := by decide +kernel
theorem dX0_signOf_19 : decode cX0_signOf 19 = .ok (.aload_n 0, 1) := by decide +kernel
theorem dX0_signOf_20 : decode cX0_signOf 20 = .ok (.getfield 23, 3) := by decide +kernel
theorem dX0_signOf_23 : decode cX0_signOf 23 = .ok (.getfield 46, 3) := by decide +kernel
theorem dX0_signOf_26 : decode cX0_signOf 26 = .ok (.iload_n 1, 1) := by decide +kernel
theorem dX0_signOf_27 : decode cX0_signOf 27 = .ok (.iaload, 1) := by decide +kernel
theorem dX0_signOf_28 : decode cX0_signOf 28 = .ok (.if_icmp .ne 15, 3) := by decide +kernel
theorem dX0_signOf_31 : decode cX0_signOf 31 = .ok (.aload_n 0, 1) := by decide +kernel
theorem dX0_signOf_32 : decode cX0_signOf 32 = .ok (.getfield 27, 3) := by decide +kernel
theorem dX0_signOf_35 : decode cX0_signOf 35 = .ok (.iload_n 3, 1) := by decide +kernel
theorem dX0_signOf_36 : decode cX0_signOf 36 = .ok (.iload_n 2, 1) := by decide +kernel
theorem dX0_signOf_37 : decode cX0_signOf 37 = .ok (.invokevirtual 49, 3) := by decide +kernel
theorem dX0_signOf_40 : decode cX0_signOf 40 = .ok (.ifCond .eq 5, 3) := by decide +kernel
theorem dX0_signOf_43 : decode cX0_signOf 43 = .ok (.iconst 0, 1) := by decide +kernel
theorem dX0_signOf_44 : decode cX0_signOf 44 = .ok (.ireturn, 1) := by decide +kernel
theorem dX0_signOf_45 : decode cX0_signOf 45 = .ok (.aload_n 0, 1) := by decide +kernel
theorem dX0_signOf_46 : decode cX0_signOf 46 = .ok (.getfield 15, 3) := by decide +kernel
theorem dX0_signOf_49 : decode cX0_signOf 49 = .ok (.iload_n 3, 1) := by decide +kernel
theorem dX0_signOf_50 : decode cX0_signOf 50 = .ok (.invokevirtual 55, 3) := by decide +kernel
theorem dX0_signOf_53 : decode cX0_signOf 53 = .ok (.istore 4, 2) := by decide +kernel
theorem dX0_signOf_55 : decode cX0_signOf 55 = .ok (.iload 4, 2) := by decide +kernel
theorem dX0_signOf_57 : decode cX0_signOf 57 = .ok (.iconst 1, 1) := by decide +kernel
theorem dX0_signOf_58 : decode cX0_signOf 58 = .ok (.if_icmp .ne 5, 3) := by decide +kernel
theorem dX0_signOf_61 : decode cX0_signOf 61 = .ok (.iconst 1, 1) := by decide +kernel
theorem dX0_signOf_62 : decode cX0_signOf 62 = .ok (.ireturn, 1) := by decide +kernel
theorem dX0_signOf_63 : decode cX0_signOf 63 = .ok (.iload 4, 2) := by decide +kernel
theorem dX0_signOf_65 : decode cX0_signOf 65 = .ok (.ifCond .ne 19, 3) := by decide +kernel
theorem dX0_signOf_68 : decode cX0_signOf 68 = .ok (.aload_n 0, 1) := by decide +kernel
theorem dX0_signOf_69 : decode cX0_signOf 69 = .ok (.aload_n 0, 1) := by decide +kernel
theorem dX0_signOf_70 : decode cX0_signOf 70 = .ok (.getfield 15, 3) := by decide +kernel
theorem dX0_signOf_73 : decode cX0_signOf 73 = .ok (.iload_n 3, 1) := by decide +kernel
theorem dX0_signOf_74 : decode cX0_signOf 74 = .ok (.invokevirtual 61, 3) := by decide +kernel
theorem dX0_signOf_77 : decode cX0_signOf 77 = .ok (.iload_n 2, 1) := by decide +kernel
theorem dX0_signOf_78 : decode cX0_signOf 78 = .ok (.invokevirtual 64, 3) := by decide +kernel
theorem dX0_signOf_81 : decode cX0_signOf 81 = .ok (.goto 4, 3) := by decide +kernel
theorem dX0_signOf_84 : decode cX0_signOf 84 = .ok (.iconst 0, 1) := by decide +kernel
theorem dX0_signOf_85 : decode cX0_signOf 85 = .ok (.ireturn, 1) := by decide +kernel
theorem dX0_signByAnswer_0 : decode cX0_signByAnswer 0 = .ok (.aload_n 0, 1) := by decide +kernel
theorem dX0_signByAnswer_1 : decode cX0_signByAnswer 1 = .ok (.getfield 15, 3) := by decide +kernel
theorem dX0_signByAnswer_4 : decode cX0_signByAnswer 4 = .ok (.iload_n 1, 1) := by decide +kernel
theorem dX0_signByAnswer_5 : decode cX0_signByAnswer 5 = .ok (.invokevirtual 67, 3) := by decide +kernel
theorem dX0_signByAnswer_8 : decode cX0_signByAnswer 8 = .ok (.ifCond .eq 15, 3) := by decide +kernel
theorem dX0_signByAnswer_11 : decode cX0_signByAnswer 11 = .ok (.aload_n 0, 1) := by decide +kernel
theorem dX0_signByAnswer_12 : decode cX0_signByAnswer 12 = .ok (.getfield 27, 3) := by decide +kernel
theorem dX0_signByAnswer_15 : decode cX0_signByAnswer 15 = .ok (.iload_n 1, 1) := by decide +kernel
theorem dX0_signByAnswer_16 : decode cX0_signByAnswer 16 = .ok (.iload_n 2, 1) := by decide +kernel
theorem dX0_signByAnswer_17 : decode cX0_signByAnswer 17 = .ok (.invokevirtual 49, 3) := by decide +kernel
theorem dX0_signByAnswer_20 : decode cX0_signByAnswer 20 = .ok (.ifCond .eq 5, 3) := by decide +kernel
theorem dX0_signByAnswer_23 : decode cX0_signByAnswer 23 = .ok (.iconst 0, 1) := by decide +kernel
theorem dX0_signByAnswer_24 : decode cX0_signByAnswer 24 = .ok (.ireturn, 1) := by decide +kernel
theorem dX0_signByAnswer_25 : decode cX0_signByAnswer 25 = .ok (.aload_n 0, 1) := by decide +kernel
theorem dX0_signByAnswer_26 : decode cX0_signByAnswer 26 = .ok (.getfield 15, 3) := by decide +kernel
theorem dX0_signByAnswer_29 : decode cX0_signByAnswer 29 = .ok (.getfield 71, 3) := by decide +kernel
theorem dX0_signByAnswer_32 : decode cX0_signByAnswer 32 = .ok (.iload_n 1, 1) := by decide +kernel
theorem dX0_signByAnswer_33 : decode cX0_signByAnswer 33 = .ok (.iaload, 1) := by decide +kernel
theorem dX0_signByAnswer_34 : decode cX0_signByAnswer 34 = .ok (.iconst 2, 1) := by decide +kernel
theorem dX0_signByAnswer_35 : decode cX0_signByAnswer 35 = .ok (.if_icmp .ne 5, 3) := by decide +kernel
theorem dX0_signByAnswer_38 : decode cX0_signByAnswer 38 = .ok (.iconst 1, 1) := by decide +kernel
theorem dX0_signByAnswer_39 : decode cX0_signByAnswer 39 = .ok (.ireturn, 1) := by decide +kernel
theorem dX0_signByAnswer_40 : decode cX0_signByAnswer 40 = .ok (.aload_n 0, 1) := by decide +kernel
theorem dX0_signByAnswer_41 : decode cX0_signByAnswer 41 = .ok (.getfield 15, 3) := by decide +kernel
theorem dX0_signByAnswer_44 : decode cX0_signByAnswer 44 = .ok (.getfield 71, 3) := by decide +kernel
theorem dX0_signByAnswer_47 : decode cX0_signByAnswer 47 = .ok (.iload_n 1, 1) := by decide +kernel
theorem dX0_signByAnswer_48 : decode cX0_signByAnswer 48 = .ok (.iaload, 1) := by decide +kernel
theorem dX0_signByAnswer_49 : decode cX0_signByAnswer 49 = .ok (.iconst 3, 1) := by decide +kernel
theorem dX0_signByAnswer_50 : decode cX0_signByAnswer 50 = .ok (.if_icmp .ne 7, 3) := by decide +kernel
theorem dX0_signByAnswer_53 : decode cX0_signByAnswer 53 = .ok (.iconst (-1), 1) := by decide +kernel
theorem dX0_signByAnswer_54 : decode cX0_signByAnswer 54 = .ok (.goto 4, 3) := by decide +kernel
theorem dX0_signByAnswer_57 : decode cX0_signByAnswer 57 = .ok (.iconst 0, 1) := by decide +kernel
theorem dX0_signByAnswer_58 : decode cX0_signByAnswer 58 = .ok (.ireturn, 1) := by decide +kernel
theorem dX0_weigh_0 : decode cX0_weigh 0 = .ok (.iconst 0, 1) := by decide +kernel
theorem dX0_weigh_1 : decode cX0_weigh 1 = .ok (.istore_n 2, 1) := by decide +kernel
theorem dX0_weigh_2 : decode cX0_weigh 2 = .ok (.iload_n 2, 1) := by decide +kernel
theorem dX0_weigh_3 : decode cX0_weigh 3 = .ok (.aload_n 0, 1) := by decide +kernel
theorem dX0_weigh_4 : decode cX0_weigh 4 = .ok (.getfield 23, 3) := by decide +kernel
theorem dX0_weigh_7 : decode cX0_weigh 7 = .ok (.getfield 74, 3) := by decide +kernel
theorem dX0_weigh_10 : decode cX0_weigh 10 = .ok (.if_icmp .ge 30, 3) := by decide +kernel
theorem dX0_weigh_13 : decode cX0_weigh 13 = .ok (.iload_n 2, 1) := by decide +kernel
theorem dX0_weigh_14 : decode cX0_weigh 14 = .ok (.aload_n 0, 1) := by decide +kernel
theorem dX0_weigh_15 : decode cX0_weigh 15 = .ok (.getfield 9, 3) := by decide +kernel
theorem dX0_weigh_18 : decode cX0_weigh 18 = .ok (.arraylength, 1) := by decide +kernel
theorem dX0_weigh_19 : decode cX0_weigh 19 = .ok (.if_icmp .ge 21, 3) := by decide +kernel
theorem dX0_weigh_22 : decode cX0_weigh 22 = .ok (.aload_n 0, 1) := by decide +kernel
theorem dX0_weigh_23 : decode cX0_weigh 23 = .ok (.getfield 9, 3) := by decide +kernel
theorem dX0_weigh_26 : decode cX0_weigh 26 = .ok (.iload_n 2, 1) := by decide +kernel
theorem dX0_weigh_27 : decode cX0_weigh 27 = .ok (.aload_n 0, 1) := by decide +kernel
theorem dX0_weigh_28 : decode cX0_weigh 28 = .ok (.iload_n 2, 1) := by decide +kernel
theorem dX0_weigh_29 : decode cX0_weigh 29 = .ok (.iload_n 1, 1) := by decide +kernel
theorem dX0_weigh_30 : decode cX0_weigh 30 = .ok (.invokevirtual 78, 3) := by decide +kernel
theorem dX0_weigh_33 : decode cX0_weigh 33 = .ok (.iastore, 1) := by decide +kernel
theorem dX0_weigh_34 : decode cX0_weigh 34 = .ok (.iinc 2 1, 3) := by decide +kernel
theorem dX0_weigh_37 : decode cX0_weigh 37 = .ok (.goto (-35), 3) := by decide +kernel
theorem dX0_weigh_40 : decode cX0_weigh 40 = .ok (.return_, 1) := by decide +kernel
theorem dX0_seekQuarrel_0 : decode cX0_seekQuarrel 0 = .ok (.aload_n 0, 1) := by decide +kernel
theorem dX0_seekQuarrel_1 : decode cX0_seekQuarrel 1 = .ok (.iload_n 2, 1) := by decide +kernel
theorem dX0_seekQuarrel_2 : decode cX0_seekQuarrel 2 = .ok (.invokevirtual 81, 3) := by decide +kernel
theorem dX0_seekQuarrel_5 : decode cX0_seekQuarrel 5 = .ok (.iconst 0, 1) := by decide +kernel
theorem dX0_seekQuarrel_6 : decode cX0_seekQuarrel 6 = .ok (.istore_n 3, 1) := by decide +kernel
theorem dX0_seekQuarrel_7 : decode cX0_seekQuarrel 7 = .ok (.iconst 0, 1) := by decide +kernel
theorem dX0_seekQuarrel_8 : decode cX0_seekQuarrel 8 = .ok (.istore 4, 2) := by decide +kernel
theorem dX0_seekQuarrel_10 : decode cX0_seekQuarrel 10 = .ok (.iload 4, 2) := by decide +kernel
theorem dX0_seekQuarrel_12 : decode cX0_seekQuarrel 12 = .ok (.aload_n 0, 1) := by decide +kernel
theorem dX0_seekQuarrel_13 : decode cX0_seekQuarrel 13 = .ok (.getfield 23, 3) := by decide +kernel
theorem dX0_seekQuarrel_16 : decode cX0_seekQuarrel 16 = .ok (.getfield 74, 3) := by decide +kernel
theorem dX0_seekQuarrel_19 : decode cX0_seekQuarrel 19 = .ok (.if_icmp .ge 76, 3) := by decide +kernel
theorem dX0_seekQuarrel_22 : decode cX0_seekQuarrel 22 = .ok (.iload 4, 2) := by decide +kernel
theorem dX0_seekQuarrel_24 : decode cX0_seekQuarrel 24 = .ok (.iconst 1, 1) := by decide +kernel
theorem dX0_seekQuarrel_25 : decode cX0_seekQuarrel 25 = .ok (.iadd, 1) := by decide +kernel
theorem dX0_seekQuarrel_26 : decode cX0_seekQuarrel 26 = .ok (.istore 5, 2) := by decide +kernel
theorem dX0_seekQuarrel_28 : decode cX0_seekQuarrel 28 = .ok (.iload 5, 2) := by decide +kernel
theorem dX0_seekQuarrel_30 : decode cX0_seekQuarrel 30 = .ok (.aload_n 0, 1) := by decide +kernel
theorem dX0_seekQuarrel_31 : decode cX0_seekQuarrel 31 = .ok (.getfield 23, 3) := by decide +kernel
theorem dX0_seekQuarrel_34 : decode cX0_seekQuarrel 34 = .ok (.getfield 74, 3) := by decide +kernel
theorem dX0_seekQuarrel_37 : decode cX0_seekQuarrel 37 = .ok (.if_icmp .ge 52, 3) := by decide +kernel
theorem dX0_seekQuarrel_40 : decode cX0_seekQuarrel 40 = .ok (.aload_n 0, 1) := by decide +kernel
theorem dX0_seekQuarrel_41 : decode cX0_seekQuarrel 41 = .ok (.getfield 9, 3) := by decide +kernel
theorem dX0_seekQuarrel_44 : decode cX0_seekQuarrel 44 = .ok (.iload 4, 2) := by decide +kernel
theorem dX0_seekQuarrel_46 : decode cX0_seekQuarrel 46 = .ok (.iaload, 1) := by decide +kernel
theorem dX0_seekQuarrel_47 : decode cX0_seekQuarrel 47 = .ok (.ifCond .eq 42, 3) := by decide +kernel
theorem dX0_seekQuarrel_50 : decode cX0_seekQuarrel 50 = .ok (.aload_n 0, 1) := by decide +kernel
theorem dX0_seekQuarrel_51 : decode cX0_seekQuarrel 51 = .ok (.iload 4, 2) := by decide +kernel
theorem dX0_seekQuarrel_53 : decode cX0_seekQuarrel 53 = .ok (.iload 5, 2) := by decide +kernel
theorem dX0_seekQuarrel_55 : decode cX0_seekQuarrel 55 = .ok (.invokevirtual 85, 3) := by decide +kernel
theorem dX0_seekQuarrel_58 : decode cX0_seekQuarrel 58 = .ok (.ifCond .eq 25, 3) := by decide +kernel
theorem dX0_seekQuarrel_61 : decode cX0_seekQuarrel 61 = .ok (.aload_n 0, 1) := by decide +kernel
theorem dX0_seekQuarrel_62 : decode cX0_seekQuarrel 62 = .ok (.iload 4, 2) := by decide +kernel
theorem dX0_seekQuarrel_64 : decode cX0_seekQuarrel 64 = .ok (.putfield 88, 3) := by decide +kernel
theorem dX0_seekQuarrel_67 : decode cX0_seekQuarrel 67 = .ok (.aload_n 0, 1) := by decide +kernel
theorem dX0_seekQuarrel_68 : decode cX0_seekQuarrel 68 = .ok (.iload 5, 2) := by decide +kernel
theorem dX0_seekQuarrel_70 : decode cX0_seekQuarrel 70 = .ok (.putfield 91, 3) := by decide +kernel
theorem dX0_seekQuarrel_73 : decode cX0_seekQuarrel 73 = .ok (.iinc 3 1, 3) := by decide +kernel
theorem dX0_seekQuarrel_76 : decode cX0_seekQuarrel 76 = .ok (.iload_n 3, 1) := by decide +kernel
theorem dX0_seekQuarrel_77 : decode cX0_seekQuarrel 77 = .ok (.iload_n 1, 1) := by decide +kernel
theorem dX0_seekQuarrel_78 : decode cX0_seekQuarrel 78 = .ok (.if_icmp .le 5, 3) := by decide +kernel
theorem dX0_seekQuarrel_81 : decode cX0_seekQuarrel 81 = .ok (.iload_n 3, 1) := by decide +kernel
theorem dX0_seekQuarrel_82 : decode cX0_seekQuarrel 82 = .ok (.ireturn, 1) := by decide +kernel
theorem dX0_seekQuarrel_83 : decode cX0_seekQuarrel 83 = .ok (.iinc 5 1, 3) := by decide +kernel
theorem dX0_seekQuarrel_86 : decode cX0_seekQuarrel 86 = .ok (.goto (-58), 3) := by decide +kernel
theorem dX0_seekQuarrel_89 : decode cX0_seekQuarrel 89 = .ok (.iinc 4 1, 3) := by decide +kernel
theorem dX0_seekQuarrel_92 : decode cX0_seekQuarrel 92 = .ok (.goto (-82), 3) := by decide +kernel
theorem dX0_seekQuarrel_95 : decode cX0_seekQuarrel 95 = .ok (.iload_n 3, 1) := by decide +kernel
theorem dX0_seekQuarrel_96 : decode cX0_seekQuarrel 96 = .ok (.ireturn, 1) := by decide +kernel
theorem dX0_clash_0 : decode cX0_clash 0 = .ok (.aload_n 0, 1) := by decide +kernel
theorem dX0_clash_1 : decode cX0_clash 1 = .ok (.getfield 23, 3) := by decide +kernel
theorem dX0_clash_4 : decode cX0_clash 4 = .ok (.getfield 94, 3) := by decide +kernel
theorem dX0_clash_7 : decode cX0_clash 7 = .ok (.iload_n 1, 1) := by decide +kernel
theorem dX0_clash_8 : decode cX0_clash 8 = .ok (.iaload, 1) := by decide +kernel
theorem dX0_clash_9 : decode cX0_clash 9 = .ok (.aload_n 0, 1) := by decide +kernel
theorem dX0_clash_10 : decode cX0_clash 10 = .ok (.getfield 23, 3) := by decide +kernel
theorem dX0_clash_13 : decode cX0_clash 13 = .ok (.getfield 94, 3) := by decide +kernel
theorem dX0_clash_16 : decode cX0_clash 16 = .ok (.iload_n 2, 1) := by decide +kernel
theorem dX0_clash_17 : decode cX0_clash 17 = .ok (.iaload, 1) := by decide +kernel
theorem dX0_clash_18 : decode cX0_clash 18 = .ok (.if_icmp .ne 24, 3) := by decide +kernel
theorem dX0_clash_21 : decode cX0_clash 21 = .ok (.aload_n 0, 1) := by decide +kernel
theorem dX0_clash_22 : decode cX0_clash 22 = .ok (.getfield 23, 3) := by decide +kernel
theorem dX0_clash_25 : decode cX0_clash 25 = .ok (.getfield 97, 3) := by decide +kernel
theorem dX0_clash_28 : decode cX0_clash 28 = .ok (.iload_n 1, 1) := by decide +kernel
theorem dX0_clash_29 : decode cX0_clash 29 = .ok (.iaload, 1) := by decide +kernel
theorem dX0_clash_30 : decode cX0_clash 30 = .ok (.aload_n 0, 1) := by decide +kernel
theorem dX0_clash_31 : decode cX0_clash 31 = .ok (.getfield 23, 3) := by decide +kernel
theorem dX0_clash_34 : decode cX0_clash 34 = .ok (.getfield 97, 3) := by decide +kernel
theorem dX0_clash_37 : decode cX0_clash 37 = .ok (.iload_n 2, 1) := by decide +kernel
theorem dX0_clash_38 : decode cX0_clash 38 = .ok (.iaload, 1) := by decide +kernel
theorem dX0_clash_39 : decode cX0_clash 39 = .ok (.if_icmp .eq 5, 3) := by decide +kernel
theorem dX0_clash_42 : decode cX0_clash 42 = .ok (.iconst 0, 1) := by decide +kernel
theorem dX0_clash_43 : decode cX0_clash 43 = .ok (.ireturn, 1) := by decide +kernel
theorem dX0_clash_44 : decode cX0_clash 44 = .ok (.aload_n 0, 1) := by decide +kernel
theorem dX0_clash_45 : decode cX0_clash 45 = .ok (.getfield 23, 3) := by decide +kernel
theorem dX0_clash_48 : decode cX0_clash 48 = .ok (.getfield 100, 3) := by decide +kernel
theorem dX0_clash_51 : decode cX0_clash 51 = .ok (.iload_n 1, 1) := by decide +kernel
theorem dX0_clash_52 : decode cX0_clash 52 = .ok (.iaload, 1) := by decide +kernel
theorem dX0_clash_53 : decode cX0_clash 53 = .ok (.aload_n 0, 1) := by decide +kernel
theorem dX0_clash_54 : decode cX0_clash 54 = .ok (.getfield 23, 3) := by decide +kernel
theorem dX0_clash_57 : decode cX0_clash 57 = .ok (.getfield 100, 3) := by decide +kernel
theorem dX0_clash_60 : decode cX0_clash 60 = .ok (.iload_n 2, 1) := by decide +kernel
theorem dX0_clash_61 : decode cX0_clash 61 = .ok (.iaload, 1) := by decide +kernel
theorem dX0_clash_62 : decode cX0_clash 62 = .ok (.if_icmp .ne 7, 3) := by decide +kernel
theorem dX0_clash_65 : decode cX0_clash 65 = .ok (.iconst 1, 1) := by decide +kernel
theorem dX0_clash_66 : decode cX0_clash 66 = .ok (.goto 4, 3) := by decide +kernel
theorem dX0_clash_69 : decode cX0_clash 69 = .ok (.iconst 0, 1) := by decide +kernel
theorem dX0_clash_70 : decode cX0_clash 70 = .ok (.istore_n 3, 1) := by decide +kernel
theorem dX0_clash_71 : decode cX0_clash 71 = .ok (.aload_n 0, 1) := by decide +kernel
theorem dX0_clash_72 : decode cX0_clash 72 = .ok (.getfield 9, 3) := by decide +kernel
theorem dX0_clash_75 : decode cX0_clash 75 = .ok (.iload_n 1, 1) := by decide +kernel
theorem dX0_clash_76 : decode cX0_clash 76 = .ok (.iaload, 1) := by decide +kernel
theorem dX0_clash_77 : decode cX0_clash 77 = .ok (.iconst 1, 1) := by decide +kernel
theorem dX0_clash_78 : decode cX0_clash 78 = .ok (.if_icmp .ne 23, 3) := by decide +kernel
theorem dX0_clash_81 : decode cX0_clash 81 = .ok (.aload_n 0, 1) := by decide +kernel
theorem dX0_clash_82 : decode cX0_clash 82 = .ok (.getfield 9, 3) := by decide +kernel
theorem dX0_clash_85 : decode cX0_clash 85 = .ok (.iload_n 2, 1) := by decide +kernel
theorem dX0_clash_86 : decode cX0_clash 86 = .ok (.iaload, 1) := by decide +kernel
theorem dX0_clash_87 : decode cX0_clash 87 = .ok (.iconst 1, 1) := by decide +kernel
theorem dX0_clash_88 : decode cX0_clash 88 = .ok (.if_icmp .ne 13, 3) := by decide +kernel
theorem dX0_clash_91 : decode cX0_clash 91 = .ok (.iload_n 3, 1) := by decide +kernel
theorem dX0_clash_92 : decode cX0_clash 92 = .ok (.ifCond .ne 7, 3) := by decide +kernel
theorem dX0_clash_95 : decode cX0_clash 95 = .ok (.iconst 1, 1) := by decide +kernel
theorem dX0_clash_96 : decode cX0_clash 96 = .ok (.goto 4, 3) := by decide +kernel
theorem dX0_clash_99 : decode cX0_clash 99 = .ok (.iconst 0, 1) := by decide +kernel
theorem dX0_clash_100 : decode cX0_clash 100 = .ok (.ireturn, 1) := by decide +kernel
theorem dX0_clash_101 : decode cX0_clash 101 = .ok (.iload_n 3, 1) := by decide +kernel
theorem dX0_clash_102 : decode cX0_clash 102 = .ok (.ifCond .eq 24, 3) := by decide +kernel
theorem dX0_clash_105 : decode cX0_clash 105 = .ok (.aload_n 0, 1) := by decide +kernel
theorem dX0_clash_106 : decode cX0_clash 106 = .ok (.getfield 9, 3) := by decide +kernel
theorem dX0_clash_109 : decode cX0_clash 109 = .ok (.iload_n 1, 1) := by decide +kernel
theorem dX0_clash_110 : decode cX0_clash 110 = .ok (.iaload, 1) := by decide +kernel
theorem dX0_clash_111 : decode cX0_clash 111 = .ok (.aload_n 0, 1) := by decide +kernel
theorem dX0_clash_112 : decode cX0_clash 112 = .ok (.getfield 9, 3) := by decide +kernel
theorem dX0_clash_115 : decode cX0_clash 115 = .ok (.iload_n 2, 1) := by decide +kernel
theorem dX0_clash_116 : decode cX0_clash 116 = .ok (.iaload, 1) := by decide +kernel
theorem dX0_clash_117 : decode cX0_clash 117 = .ok (.imul, 1) := by decide +kernel
theorem dX0_clash_118 : decode cX0_clash 118 = .ok (.iconst (-1), 1) := by decide +kernel
theorem dX0_clash_119 : decode cX0_clash 119 = .ok (.if_icmp .ne 7, 3) := by decide +kernel
theorem dX0_clash_122 : decode cX0_clash 122 = .ok (.iconst 1, 1) := by decide +kernel
theorem dX0_clash_123 : decode cX0_clash 123 = .ok (.goto 4, 3) := by decide +kernel
theorem dX0_clash_126 : decode cX0_clash 126 = .ok (.iconst 0, 1) := by decide +kernel
theorem dX0_clash_127 : decode cX0_clash 127 = .ok (.ireturn, 1) := by decide +kernel
theorem dX0_judge_0 : decode cX0_judge 0 = .ok (.aload_n 0, 1) := by decide +kernel
theorem dX0_judge_1 : decode cX0_judge 1 = .ok (.iload_n 2, 1) := by decide +kernel
theorem dX0_judge_2 : decode cX0_judge 2 = .ok (.invokevirtual 81, 3) := by decide +kernel
theorem dX0_judge_5 : decode cX0_judge 5 = .ok (.iconst 0, 1) := by decide +kernel
theorem dX0_judge_6 : decode cX0_judge 6 = .ok (.istore_n 3, 1) := by decide +kernel
theorem dX0_judge_7 : decode cX0_judge 7 = .ok (.iconst 0, 1) := by decide +kernel
theorem dX0_judge_8 : decode cX0_judge 8 = .ok (.istore 4, 2) := by decide +kernel
theorem dX0_judge_10 : decode cX0_judge 10 = .ok (.iload 4, 2) := by decide +kernel
theorem dX0_judge_12 : decode cX0_judge 12 = .ok (.aload_n 0, 1) := by decide +kernel
theorem dX0_judge_13 : decode cX0_judge 13 = .ok (.getfield 31, 3) := by decide +kernel
theorem dX0_judge_16 : decode cX0_judge 16 = .ok (.getfield 103, 3) := by decide +kernel
theorem dX0_judge_19 : decode cX0_judge 19 = .ok (.iload_n 1, 1) := by decide +kernel
theorem dX0_judge_20 : decode cX0_judge 20 = .ok (.iaload, 1) := by decide +kernel
theorem dX0_judge_21 : decode cX0_judge 21 = .ok (.if_icmp .ge 62, 3) := by decide +kernel
theorem dX0_judge_24 : decode cX0_judge 24 = .ok (.aload_n 0, 1) := by decide +kernel
theorem dX0_judge_25 : decode cX0_judge 25 = .ok (.getfield 31, 3) := by decide +kernel
theorem dX0_judge_28 : decode cX0_judge 28 = .ok (.iload_n 1, 1) := by decide +kernel
theorem dX0_judge_29 : decode cX0_judge 29 = .ok (.iload 4, 2) := by decide +kernel
theorem dX0_judge_31 : decode cX0_judge 31 = .ok (.invokevirtual 108, 3) := by decide +kernel
theorem dX0_judge_34 : decode cX0_judge 34 = .ok (.istore 5, 2) := by decide +kernel
theorem dX0_judge_36 : decode cX0_judge 36 = .ok (.aload_n 0, 1) := by decide +kernel
theorem dX0_judge_37 : decode cX0_judge 37 = .ok (.getfield 23, 3) := by decide +kernel
theorem dX0_judge_40 : decode cX0_judge 40 = .ok (.iload 5, 2) := by decide +kernel
theorem dX0_judge_42 : decode cX0_judge 42 = .ok (.invokevirtual 111, 3) := by decide +kernel
theorem dX0_judge_45 : decode cX0_judge 45 = .ok (.ifCond .eq 32, 3) := by decide +kernel
theorem dX0_judge_48 : decode cX0_judge 48 = .ok (.aload_n 0, 1) := by decide +kernel
theorem dX0_judge_49 : decode cX0_judge 49 = .ok (.iload 5, 2) := by decide +kernel
theorem dX0_judge_51 : decode cX0_judge 51 = .ok (.iload_n 1, 1) := by decide +kernel
theorem dX0_judge_52 : decode cX0_judge 52 = .ok (.invokevirtual 112, 3) := by decide +kernel
theorem dX0_judge_55 : decode cX0_judge 55 = .ok (.ifCond .eq 22, 3) := by decide +kernel
theorem dX0_judge_58 : decode cX0_judge 58 = .ok (.iload_n 3, 1) := by decide +kernel
theorem dX0_judge_59 : decode cX0_judge 59 = .ok (.aload_n 0, 1) := by decide +kernel
theorem dX0_judge_60 : decode cX0_judge 60 = .ok (.iload 5, 2) := by decide +kernel
theorem dX0_judge_62 : decode cX0_judge 62 = .ok (.invokevirtual 115, 3) := by decide +kernel
theorem dX0_judge_65 : decode cX0_judge 65 = .ok (.ifCond .eq 7, 3) := by decide +kernel
theorem dX0_judge_68 : decode cX0_judge 68 = .ok (.iconst 2, 1) := by decide +kernel
theorem dX0_judge_69 : decode cX0_judge 69 = .ok (.goto 4, 3) := by decide +kernel
theorem dX0_judge_72 : decode cX0_judge 72 = .ok (.iconst 1, 1) := by decide +kernel
theorem dX0_judge_73 : decode cX0_judge 73 = .ok (.invokestatic 118, 3) := by decide +kernel
theorem dX0_judge_76 : decode cX0_judge 76 = .ok (.istore_n 3, 1) := by decide +kernel
theorem dX0_judge_77 : decode cX0_judge 77 = .ok (.iinc 4 1, 3) := by decide +kernel
theorem dX0_judge_80 : decode cX0_judge 80 = .ok (.goto (-70), 3) := by decide +kernel
theorem dX0_judge_83 : decode cX0_judge 83 = .ok (.iload_n 3, 1) := by decide +kernel
theorem dX0_judge_84 : decode cX0_judge 84 = .ok (.ireturn, 1) := by decide +kernel
theorem dX0_shows_0 : decode cX0_shows 0 = .ok (.aload_n 0, 1) := by decide +kernel
theorem dX0_shows_1 : decode cX0_shows 1 = .ok (.getfield 9, 3) := by decide +kernel
theorem dX0_shows_4 : decode cX0_shows 4 = .ok (.iload_n 1, 1) := by decide +kernel
theorem dX0_shows_5 : decode cX0_shows 5 = .ok (.iaload, 1) := by decide +kernel
theorem dX0_shows_6 : decode cX0_shows 6 = .ok (.iconst 1, 1) := by decide +kernel
theorem dX0_shows_7 : decode cX0_shows 7 = .ok (.if_icmp .ne 70, 3) := by decide +kernel
theorem dX0_shows_10 : decode cX0_shows 10 = .ok (.aload_n 0, 1) := by decide +kernel
theorem dX0_shows_11 : decode cX0_shows 11 = .ok (.getfield 23, 3) := by decide +kernel
theorem dX0_shows_14 : decode cX0_shows 14 = .ok (.getfield 94, 3) := by decide +kernel
theorem dX0_shows_17 : decode cX0_shows 17 = .ok (.iload_n 1, 1) := by decide +kernel
theorem dX0_shows_18 : decode cX0_shows 18 = .ok (.iaload, 1) := by decide +kernel
theorem dX0_shows_19 : decode cX0_shows 19 = .ok (.aload_n 0, 1) := by decide +kernel
theorem dX0_shows_20 : decode cX0_shows 20 = .ok (.getfield 31, 3) := by decide +kernel
theorem dX0_shows_23 : decode cX0_shows 23 = .ok (.getfield 123, 3) := by decide +kernel
theorem dX0_shows_26 : decode cX0_shows 26 = .ok (.iload_n 2, 1) := by decide +kernel
theorem dX0_shows_27 : decode cX0_shows 27 = .ok (.iaload, 1) := by decide +kernel
theorem dX0_shows_28 : decode cX0_shows 28 = .ok (.if_icmp .ne 49, 3) := by decide +kernel
theorem dX0_shows_31 : decode cX0_shows 31 = .ok (.aload_n 0, 1) := by decide +kernel
theorem dX0_shows_32 : decode cX0_shows 32 = .ok (.getfield 23, 3) := by decide +kernel
theorem dX0_shows_35 : decode cX0_shows 35 = .ok (.getfield 97, 3) := by decide +kernel
theorem dX0_shows_38 : decode cX0_shows 38 = .ok (.iload_n 1, 1) := by decide +kernel
theorem dX0_shows_39 : decode cX0_shows 39 = .ok (.iaload, 1) := by decide +kernel
theorem dX0_shows_40 : decode cX0_shows 40 = .ok (.aload_n 0, 1) := by decide +kernel
theorem dX0_shows_41 : decode cX0_shows 41 = .ok (.getfield 31, 3) := by decide +kernel
theorem dX0_shows_44 : decode cX0_shows 44 = .ok (.getfield 124, 3) := by decide +kernel
theorem dX0_shows_47 : decode cX0_shows 47 = .ok (.iload_n 2, 1) := by decide +kernel
theorem dX0_shows_48 : decode cX0_shows 48 = .ok (.iaload, 1) := by decide +kernel
theorem dX0_shows_49 : decode cX0_shows 49 = .ok (.if_icmp .ne 28, 3) := by decide +kernel
theorem dX0_shows_52 : decode cX0_shows 52 = .ok (.aload_n 0, 1) := by decide +kernel
theorem dX0_shows_53 : decode cX0_shows 53 = .ok (.getfield 23, 3) := by decide +kernel
theorem dX0_shows_56 : decode cX0_shows 56 = .ok (.getfield 100, 3) := by decide +kernel
theorem dX0_shows_59 : decode cX0_shows 59 = .ok (.iload_n 1, 1) := by decide +kernel
theorem dX0_shows_60 : decode cX0_shows 60 = .ok (.iaload, 1) := by decide +kernel
theorem dX0_shows_61 : decode cX0_shows 61 = .ok (.aload_n 0, 1) := by decide +kernel
theorem dX0_shows_62 : decode cX0_shows 62 = .ok (.getfield 31, 3) := by decide +kernel
theorem dX0_shows_65 : decode cX0_shows 65 = .ok (.getfield 125, 3) := by decide +kernel
theorem dX0_shows_68 : decode cX0_shows 68 = .ok (.iload_n 2, 1) := by decide +kernel
theorem dX0_shows_69 : decode cX0_shows 69 = .ok (.iaload, 1) := by decide +kernel
theorem dX0_shows_70 : decode cX0_shows 70 = .ok (.if_icmp .ne 7, 3) := by decide +kernel
theorem dX0_shows_73 : decode cX0_shows 73 = .ok (.iconst 1, 1) := by decide +kernel
theorem dX0_shows_74 : decode cX0_shows 74 = .ok (.goto 4, 3) := by decide +kernel
theorem dX0_shows_77 : decode cX0_shows 77 = .ok (.iconst 0, 1) := by decide +kernel
theorem dX0_shows_78 : decode cX0_shows 78 = .ok (.ireturn, 1) := by decide +kernel
theorem dX0_isDisputed_0 : decode cX0_isDisputed 0 = .ok (.iconst 0, 1) := by decide +kernel
theorem dX0_isDisputed_1 : decode cX0_isDisputed 1 = .ok (.istore_n 2, 1) := by decide +kernel
theorem dX0_isDisputed_2 : decode cX0_isDisputed 2 = .ok (.iload_n 2, 1) := by decide +kernel
theorem dX0_isDisputed_3 : decode cX0_isDisputed 3 = .ok (.aload_n 0, 1) := by decide +kernel
theorem dX0_isDisputed_4 : decode cX0_isDisputed 4 = .ok (.getfield 23, 3) := by decide +kernel
theorem dX0_isDisputed_7 : decode cX0_isDisputed 7 = .ok (.getfield 74, 3) := by decide +kernel
theorem dX0_isDisputed_10 : decode cX0_isDisputed 10 = .ok (.if_icmp .ge 20, 3) := by decide +kernel
theorem dX0_isDisputed_13 : decode cX0_isDisputed 13 = .ok (.aload_n 0, 1) := by decide +kernel
theorem dX0_isDisputed_14 : decode cX0_isDisputed 14 = .ok (.iload_n 1, 1) := by decide +kernel
theorem dX0_isDisputed_15 : decode cX0_isDisputed 15 = .ok (.iload_n 2, 1) := by decide +kernel
theorem dX0_isDisputed_16 : decode cX0_isDisputed 16 = .ok (.invokevirtual 85, 3) := by decide +kernel
theorem dX0_isDisputed_19 : decode cX0_isDisputed 19 = .ok (.ifCond .eq 5, 3) := by decide +kernel
theorem dX0_isDisputed_22 : decode cX0_isDisputed 22 = .ok (.iconst 1, 1) := by decide +kernel
theorem dX0_isDisputed_23 : decode cX0_isDisputed 23 = .ok (.ireturn, 1) := by decide +kernel
theorem dX0_isDisputed_24 : decode cX0_isDisputed 24 = .ok (.iinc 2 1, 3) := by decide +kernel
theorem dX0_isDisputed_27 : decode cX0_isDisputed 27 = .ok (.goto (-25), 3) := by decide +kernel
theorem dX0_isDisputed_30 : decode cX0_isDisputed 30 = .ok (.iconst 0, 1) := by decide +kernel
theorem dX0_isDisputed_31 : decode cX0_isDisputed 31 = .ok (.ireturn, 1) := by decide +kernel
theorem dX1_init_0 : decode cX1_init 0 = .ok (.aload_n 0, 1) := by decide +kernel
theorem dX1_init_1 : decode cX1_init 1 = .ok (.iload_n 1, 1) := by decide +kernel
theorem dX1_init_2 : decode cX1_init 2 = .ok (.invokespecial 3, 3) := by decide +kernel
theorem dX1_init_5 : decode cX1_init 5 = .ok (.aload_n 0, 1) := by decide +kernel
theorem dX1_init_6 : decode cX1_init 6 = .ok (.bipush 64, 2) := by decide +kernel
theorem dX1_init_8 : decode cX1_init 8 = .ok (.newarray .byte, 2) := by decide +kernel
theorem dX1_init_10 : decode cX1_init 10 = .ok (.putfield 11, 3) := by decide +kernel
theorem dX1_init_13 : decode cX1_init 13 = .ok (.return_, 1) := by decide +kernel
theorem dX1_clear_0 : decode cX1_clear 0 = .ok (.aload_n 0, 1) := by decide +kernel
theorem dX1_clear_1 : decode cX1_clear 1 = .ok (.iconst 0, 1) := by decide +kernel
theorem dX1_clear_2 : decode cX1_clear 2 = .ok (.putfield 15, 3) := by decide +kernel
theorem dX1_clear_5 : decode cX1_clear 5 = .ok (.return_, 1) := by decide +kernel
theorem dX1_byteAt_0 : decode cX1_byteAt 0 = .ok (.iload_n 1, 1) := by decide +kernel
theorem dX1_byteAt_1 : decode cX1_byteAt 1 = .ok (.ifCond .lt 33, 3) := by decide +kernel
theorem dX1_byteAt_4 : decode cX1_byteAt 4 = .ok (.iload_n 1, 1) := by decide +kernel
theorem dX1_byteAt_5 : decode cX1_byteAt 5 = .ok (.aload_n 0, 1) := by decide +kernel
theorem dX1_byteAt_6 : decode cX1_byteAt 6 = .ok (.getfield 15, 3) := by decide +kernel
theorem dX1_byteAt_9 : decode cX1_byteAt 9 = .ok (.if_icmp .ge 25, 3) := by decide +kernel
theorem dX1_byteAt_12 : decode cX1_byteAt 12 = .ok (.iload_n 1, 1) := by decide +kernel
theorem dX1_byteAt_13 : decode cX1_byteAt 13 = .ok (.aload_n 0, 1) := by decide +kernel
theorem dX1_byteAt_14 : decode cX1_byteAt 14 = .ok (.getfield 11, 3) := by decide +kernel
theorem dX1_byteAt_17 : decode cX1_byteAt 17 = .ok (.arraylength, 1) := by decide +kernel
theorem dX1_byteAt_18 : decode cX1_byteAt 18 = .ok (.if_icmp .ge 16, 3) := by decide +kernel
theorem dX1_byteAt_21 : decode cX1_byteAt 21 = .ok (.aload_n 0, 1) := by decide +kernel
theorem dX1_byteAt_22 : decode cX1_byteAt 22 = .ok (.getfield 11, 3) := by decide +kernel
theorem dX1_byteAt_25 : decode cX1_byteAt 25 = .ok (.iload_n 1, 1) := by decide +kernel
theorem dX1_byteAt_26 : decode cX1_byteAt 26 = .ok (.baload, 1) := by decide +kernel
theorem dX1_byteAt_27 : decode cX1_byteAt 27 = .ok (.sipush 255, 3) := by decide +kernel
theorem dX1_byteAt_30 : decode cX1_byteAt 30 = .ok (.iand, 1) := by decide +kernel
theorem dX1_byteAt_31 : decode cX1_byteAt 31 = .ok (.goto 4, 3) := by decide +kernel
theorem dX1_byteAt_34 : decode cX1_byteAt 34 = .ok (.iconst (-1), 1) := by decide +kernel
theorem dX1_byteAt_35 : decode cX1_byteAt 35 = .ok (.ireturn, 1) := by decide +kernel
theorem dX1_add_0 : decode cX1_add 0 = .ok (.aload_n 0, 1) := by decide +kernel
theorem dX1_add_1 : decode cX1_add 1 = .ok (.getfield 15, 3) := by decide +kernel
theorem dX1_add_4 : decode cX1_add 4 = .ok (.aload_n 0, 1) := by decide +kernel
theorem dX1_add_5 : decode cX1_add 5 = .ok (.getfield 19, 3) := by decide +kernel
theorem dX1_add_8 : decode cX1_add 8 = .ok (.if_icmp .lt 4, 3) := by decide +kernel
theorem dX1_add_11 : decode cX1_add 11 = .ok (.return_, 1) := by decide +kernel
theorem dX1_add_12 : decode cX1_add 12 = .ok (.aload_n 0, 1) := by decide +kernel
theorem dX1_add_13 : decode cX1_add 13 = .ok (.getfield 15, 3) := by decide +kernel
theorem dX1_add_16 : decode cX1_add 16 = .ok (.aload_n 0, 1) := by decide +kernel
theorem dX1_add_17 : decode cX1_add 17 = .ok (.getfield 11, 3) := by decide +kernel
theorem dX1_add_20 : decode cX1_add 20 = .ok (.arraylength, 1) := by decide +kernel
theorem dX1_add_21 : decode cX1_add 21 = .ok (.if_icmp .lt 21, 3) := by decide +kernel
theorem dX1_add_24 : decode cX1_add 24 = .ok (.aload_n 0, 1) := by decide +kernel
theorem dX1_add_25 : decode cX1_add 25 = .ok (.aload_n 0, 1) := by decide +kernel
theorem dX1_add_26 : decode cX1_add 26 = .ok (.getfield 11, 3) := by decide +kernel
theorem dX1_add_29 : decode cX1_add 29 = .ok (.iconst 2, 1) := by decide +kernel
theorem dX1_add_30 : decode cX1_add 30 = .ok (.aload_n 0, 1) := by decide +kernel
theorem dX1_add_31 : decode cX1_add 31 = .ok (.getfield 11, 3) := by decide +kernel
theorem dX1_add_34 : decode cX1_add 34 = .ok (.arraylength, 1) := by decide +kernel
theorem dX1_add_35 : decode cX1_add 35 = .ok (.imul, 1) := by decide +kernel
theorem dX1_add_36 : decode cX1_add 36 = .ok (.invokestatic 22, 3) := by decide +kernel
theorem dX1_add_39 : decode cX1_add 39 = .ok (.putfield 11, 3) := by decide +kernel
theorem dX1_add_42 : decode cX1_add 42 = .ok (.aload_n 0, 1) := by decide +kernel
theorem dX1_add_43 : decode cX1_add 43 = .ok (.getfield 11, 3) := by decide +kernel
theorem dX1_add_46 : decode cX1_add 46 = .ok (.aload_n 0, 1) := by decide +kernel
theorem dX1_add_47 : decode cX1_add 47 = .ok (.getfield 15, 3) := by decide +kernel
theorem dX1_add_50 : decode cX1_add 50 = .ok (.iload_n 1, 1) := by decide +kernel
theorem dX1_add_51 : decode cX1_add 51 = .ok (.i2b, 1) := by decide +kernel
theorem dX1_add_52 : decode cX1_add 52 = .ok (.bastore, 1) := by decide +kernel
theorem dX1_add_53 : decode cX1_add 53 = .ok (.aload_n 0, 1) := by decide +kernel
theorem dX1_add_54 : decode cX1_add 54 = .ok (.dup, 1) := by decide +kernel
theorem dX1_add_55 : decode cX1_add 55 = .ok (.getfield 15, 3) := by decide +kernel
theorem dX1_add_58 : decode cX1_add 58 = .ok (.iconst 1, 1) := by decide +kernel
theorem dX1_add_59 : decode cX1_add 59 = .ok (.iadd, 1) := by decide +kernel
theorem dX1_add_60 : decode cX1_add 60 = .ok (.putfield 15, 3) := by decide +kernel
theorem dX1_add_63 : decode cX1_add 63 = .ok (.return_, 1) := by decide +kernel
theorem dX1_addNumber_0 : decode cX1_addNumber 0 = .ok (.bipush 24, 2) := by decide +kernel
theorem dX1_addNumber_2 : decode cX1_addNumber 2 = .ok (.istore_n 2, 1) := by decide +kernel
theorem dX1_addNumber_3 : decode cX1_addNumber 3 = .ok (.iload_n 2, 1) := by decide +kernel
theorem dX1_addNumber_4 : decode cX1_addNumber 4 = .ok (.ifCond .lt 16, 3) := by decide +kernel
theorem dX1_addNumber_7 : decode cX1_addNumber 7 = .ok (.aload_n 0, 1) := by decide +kernel
theorem dX1_addNumber_8 : decode cX1_addNumber 8 = .ok (.iload_n 1, 1) := by decide +kernel
theorem dX1_addNumber_9 : decode cX1_addNumber 9 = .ok (.iload_n 2, 1) := by decide +kernel
theorem dX1_addNumber_10 : decode cX1_addNumber 10 = .ok (.iushr, 1) := by decide +kernel
theorem dX1_addNumber_11 : decode cX1_addNumber 11 = .ok (.invokevirtual 28, 3) := by decide +kernel
theorem dX1_addNumber_14 : decode cX1_addNumber 14 = .ok (.iinc 2 (-8), 3) := by decide +kernel
theorem dX1_addNumber_17 : decode cX1_addNumber 17 = .ok (.goto (-14), 3) := by decide +kernel
theorem dX1_addNumber_20 : decode cX1_addNumber 20 = .ok (.return_, 1) := by decide +kernel
theorem dX1_addName_0 : decode cX1_addName 0 = .ok (.bipush 40, 2) := by decide +kernel
theorem dX1_addName_2 : decode cX1_addName 2 = .ok (.istore_n 3, 1) := by decide +kernel
theorem dX1_addName_3 : decode cX1_addName 3 = .ok (.iload_n 3, 1) := by decide +kernel
theorem dX1_addName_4 : decode cX1_addName 4 = .ok (.ifCond .lt 30, 3) := by decide +kernel
theorem dX1_addName_7 : decode cX1_addName 7 = .ok (.lload_n 1, 1) := by decide +kernel
theorem dX1_addName_8 : decode cX1_addName 8 = .ok (.iload_n 3, 1) := by decide +kernel
theorem dX1_addName_9 : decode cX1_addName 9 = .ok (.lushr, 1) := by decide +kernel
theorem dX1_addName_10 : decode cX1_addName 10 = .ok (.l2i, 1) := by decide +kernel
theorem dX1_addName_11 : decode cX1_addName 11 = .ok (.sipush 255, 3) := by decide +kernel
theorem dX1_addName_14 : decode cX1_addName 14 = .ok (.iand, 1) := by decide +kernel
theorem dX1_addName_15 : decode cX1_addName 15 = .ok (.istore 4, 2) := by decide +kernel
theorem dX1_addName_17 : decode cX1_addName 17 = .ok (.iload 4, 2) := by decide +kernel
theorem dX1_addName_19 : decode cX1_addName 19 = .ok (.ifCond .eq 9, 3) := by decide +kernel
theorem dX1_addName_22 : decode cX1_addName 22 = .ok (.aload_n 0, 1) := by decide +kernel
theorem dX1_addName_23 : decode cX1_addName 23 = .ok (.iload 4, 2) := by decide +kernel
theorem dX1_addName_25 : decode cX1_addName 25 = .ok (.invokevirtual 28, 3) := by decide +kernel
theorem dX1_addName_28 : decode cX1_addName 28 = .ok (.iinc 3 (-8), 3) := by decide +kernel
theorem dX1_addName_31 : decode cX1_addName 31 = .ok (.goto (-28), 3) := by decide +kernel
theorem dX1_addName_34 : decode cX1_addName 34 = .ok (.return_, 1) := by decide +kernel
theorem dX1_addText_0 : decode cX1_addText 0 = .ok (.iconst 0, 1) := by decide +kernel
theorem dX1_addText_1 : decode cX1_addText 1 = .ok (.istore_n 2, 1) := by decide +kernel
theorem dX1_addText_2 : decode cX1_addText 2 = .ok (.iload_n 2, 1) := by decide +kernel
theorem dX1_addText_3 : decode cX1_addText 3 = .ok (.aload_n 1, 1) := by decide +kernel
theorem dX1_addText_4 : decode cX1_addText 4 = .ok (.invokevirtual 31, 3) := by decide +kernel
theorem dX1_addText_7 : decode cX1_addText 7 = .ok (.if_icmp .ge 18, 3) := by decide +kernel
theorem dX1_addText_10 : decode cX1_addText 10 = .ok (.aload_n 0, 1) := by decide +kernel
theorem dX1_addText_11 : decode cX1_addText 11 = .ok (.aload_n 1, 1) := by decide +kernel
theorem dX1_addText_12 : decode cX1_addText 12 = .ok (.iload_n 2, 1) := by decide +kernel
theorem dX1_addText_13 : decode cX1_addText 13 = .ok (.invokevirtual 37, 3) := by decide +kernel
theorem dX1_addText_16 : decode cX1_addText 16 = .ok (.invokevirtual 28, 3) := by decide +kernel
theorem dX1_addText_19 : decode cX1_addText 19 = .ok (.iinc 2 1, 3) := by decide +kernel
theorem dX1_addText_22 : decode cX1_addText 22 = .ok (.goto (-20), 3) := by decide +kernel
theorem dX1_addText_25 : decode cX1_addText 25 = .ok (.aload_n 1, 1) := by decide +kernel
theorem dX1_addText_26 : decode cX1_addText 26 = .ok (.invokevirtual 31, 3) := by decide +kernel
theorem dX1_addText_29 : decode cX1_addText 29 = .ok (.ireturn, 1) := by decide +kernel
theorem dX2_init_0 : decode cX2_init 0 = .ok (.aload_n 0, 1) := by decide +kernel
theorem dX2_init_1 : decode cX2_init 1 = .ok (.bipush 40, 2) := by decide +kernel
theorem dX2_init_3 : decode cX2_init 3 = .ok (.invokespecial 3, 3) := by decide +kernel
theorem dX2_init_6 : decode cX2_init 6 = .ok (.aload_n 0, 1) := by decide +kernel
theorem dX2_init_7 : decode cX2_init 7 = .ok (.bipush 40, 2) := by decide +kernel
theorem dX2_init_9 : decode cX2_init 9 = .ok (.newarray .int, 2) := by decide +kernel
theorem dX2_init_11 : decode cX2_init 11 = .ok (.putfield 9, 3) := by decide +kernel
theorem dX2_init_14 : decode cX2_init 14 = .ok (.aload_n 0, 1) := by decide +kernel
theorem dX2_init_15 : decode cX2_init 15 = .ok (.bipush 40, 2) := by decide +kernel
theorem dX2_init_17 : decode cX2_init 17 = .ok (.newarray .int, 2) := by decide +kernel
theorem dX2_init_19 : decode cX2_init 19 = .ok (.putfield 15, 3) := by decide +kernel
theorem dX2_init_22 : decode cX2_init 22 = .ok (.aload_n 0, 1) := by decide +kernel
theorem dX2_init_23 : decode cX2_init 23 = .ok (.bipush 40, 2) := by decide +kernel
theorem dX2_init_25 : decode cX2_init 25 = .ok (.newarray .int, 2) := by decide +kernel
theorem dX2_init_27 : decode cX2_init 27 = .ok (.putfield 18, 3) := by decide +kernel
theorem dX2_init_30 : decode cX2_init 30 = .ok (.aload_n 0, 1) := by decide +kernel
theorem dX2_init_31 : decode cX2_init 31 = .ok (.bipush 40, 2) := by decide +kernel
theorem dX2_init_33 : decode cX2_init 33 = .ok (.newarray .int, 2) := by decide +kernel
theorem dX2_init_35 : decode cX2_init 35 = .ok (.putfield 21, 3) := by decide +kernel
theorem dX2_init_38 : decode cX2_init 38 = .ok (.aload_n 0, 1) := by decide +kernel
theorem dX2_init_39 : decode cX2_init 39 = .ok (.sipush 320, 3) := by decide +kernel
theorem dX2_init_42 : decode cX2_init 42 = .ok (.newarray .int, 2) := by decide +kernel
theorem dX2_init_44 : decode cX2_init 44 = .ok (.putfield 24, 3) := by decide +kernel
theorem dX2_init_47 : decode cX2_init 47 = .ok (.return_, 1) := by decide +kernel
theorem dX2_add_0 : decode cX2_add 0 = .ok (.aload_n 0, 1) := by decide +kernel
theorem dX2_add_1 : decode cX2_add 1 = .ok (.getfield 27, 3) := by decide +kernel
theorem dX2_add_4 : decode cX2_add 4 = .ok (.aload_n 0, 1) := by decide +kernel
theorem dX2_add_5 : decode cX2_add 5 = .ok (.getfield 31, 3) := by decide +kernel
theorem dX2_add_8 : decode cX2_add 8 = .ok (.if_icmp .lt 5, 3) := by decide +kernel
theorem dX2_add_11 : decode cX2_add 11 = .ok (.iconst (-1), 1) := by decide +kernel
theorem dX2_add_12 : decode cX2_add 12 = .ok (.ireturn, 1) := by decide +kernel
theorem dX2_add_13 : decode cX2_add 13 = .ok (.aload_n 0, 1) := by decide +kernel
theorem dX2_add_14 : decode cX2_add 14 = .ok (.getfield 9, 3) := by decide +kernel
theorem dX2_add_17 : decode cX2_add 17 = .ok (.aload_n 0, 1) := by decide +kernel
theorem dX2_add_18 : decode cX2_add 18 = .ok (.getfield 27, 3) := by decide +kernel
theorem dX2_add_21 : decode cX2_add 21 = .ok (.iload_n 1, 1) := by decide +kernel
theorem dX2_add_22 : decode cX2_add 22 = .ok (.iastore, 1) := by decide +kernel
theorem dX2_add_23 : decode cX2_add 23 = .ok (.aload_n 0, 1) := by decide +kernel
theorem dX2_add_24 : decode cX2_add 24 = .ok (.getfield 15, 3) := by decide +kernel
theorem dX2_add_27 : decode cX2_add 27 = .ok (.aload_n 0, 1) := by decide +kernel
theorem dX2_add_28 : decode cX2_add 28 = .ok (.getfield 27, 3) := by decide +kernel
theorem dX2_add_31 : decode cX2_add 31 = .ok (.iload_n 2, 1) := by decide +kernel
theorem dX2_add_32 : decode cX2_add 32 = .ok (.iastore, 1) := by decide +kernel
theorem dX2_add_33 : decode cX2_add 33 = .ok (.aload_n 0, 1) := by decide +kernel
theorem dX2_add_34 : decode cX2_add 34 = .ok (.getfield 18, 3) := by decide +kernel
theorem dX2_add_37 : decode cX2_add 37 = .ok (.aload_n 0, 1) := by decide +kernel
theorem dX2_add_38 : decode cX2_add 38 = .ok (.getfield 27, 3) := by decide +kernel
theorem dX2_add_41 : decode cX2_add 41 = .ok (.iload_n 3, 1) := by decide +kernel
theorem dX2_add_42 : decode cX2_add 42 = .ok (.iastore, 1) := by decide +kernel
theorem dX2_add_43 : decode cX2_add 43 = .ok (.aload_n 0, 1) := by decide +kernel
theorem dX2_add_44 : decode cX2_add 44 = .ok (.getfield 21, 3) := by decide +kernel
theorem dX2_add_47 : decode cX2_add 47 = .ok (.aload_n 0, 1) := by decide +kernel
theorem dX2_add_48 : decode cX2_add 48 = .ok (.getfield 27, 3) := by decide +kernel
theorem dX2_add_51 : decode cX2_add 51 = .ok (.iconst 0, 1) := by decide +kernel
theorem dX2_add_52 : decode cX2_add 52 = .ok (.iastore, 1) := by decide +kernel
theorem dX2_add_53 : decode cX2_add 53 = .ok (.aload_n 0, 1) := by decide +kernel
theorem dX2_add_54 : decode cX2_add 54 = .ok (.dup, 1) := by decide +kernel
theorem dX2_add_55 : decode cX2_add 55 = .ok (.getfield 27, 3) := by decide +kernel
theorem dX2_add_58 : decode cX2_add 58 = .ok (.iconst 1, 1) := by decide +kernel
theorem dX2_add_59 : decode cX2_add 59 = .ok (.iadd, 1) := by decide +kernel
theorem dX2_add_60 : decode cX2_add 60 = .ok (.putfield 27, 3) := by decide +kernel
theorem dX2_add_63 : decode cX2_add 63 = .ok (.aload_n 0, 1) := by decide +kernel
theorem dX2_add_64 : decode cX2_add 64 = .ok (.getfield 27, 3) := by decide +kernel
theorem dX2_add_67 : decode cX2_add 67 = .ok (.iconst 1, 1) := by decide +kernel
theorem dX2_add_68 : decode cX2_add 68 = .ok (.isub, 1) := by decide +kernel
theorem dX2_add_69 : decode cX2_add 69 = .ok (.ireturn, 1) := by decide +kernel
theorem dX2_citedBy_0 : decode cX2_citedBy 0 = .ok (.aload_n 0, 1) := by decide +kernel
theorem dX2_citedBy_1 : decode cX2_citedBy 1 = .ok (.getfield 24, 3) := by decide +kernel
theorem dX2_citedBy_4 : decode cX2_citedBy 4 = .ok (.iload_n 1, 1) := by decide +kernel
theorem dX2_citedBy_5 : decode cX2_citedBy 5 = .ok (.bipush 8, 2) := by decide +kernel
theorem dX2_citedBy_7 : decode cX2_citedBy 7 = .ok (.imul, 1) := by decide +kernel
theorem dX2_citedBy_8 : decode cX2_citedBy 8 = .ok (.iload_n 2, 1) := by decide +kernel
theorem dX2_citedBy_9 : decode cX2_citedBy 9 = .ok (.iadd, 1) := by decide +kernel
theorem dX2_citedBy_10 : decode cX2_citedBy 10 = .ok (.iaload, 1) := by decide +kernel
theorem dX2_citedBy_11 : decode cX2_citedBy 11 = .ok (.ireturn, 1) := by decide +kernel
theorem dX2_addCite_0 : decode cX2_addCite 0 = .ok (.aload_n 0, 1) := by decide +kernel
theorem dX2_addCite_1 : decode cX2_addCite 1 = .ok (.getfield 21, 3) := by decide +kernel
theorem dX2_addCite_4 : decode cX2_addCite 4 = .ok (.iload_n 1, 1) := by decide +kernel
theorem dX2_addCite_5 : decode cX2_addCite 5 = .ok (.iaload, 1) := by decide +kernel
theorem dX2_addCite_6 : decode cX2_addCite 6 = .ok (.istore_n 3, 1) := by decide +kernel
theorem dX2_addCite_7 : decode cX2_addCite 7 = .ok (.iload_n 3, 1) := by decide +kernel
theorem dX2_addCite_8 : decode cX2_addCite 8 = .ok (.bipush 8, 2) := by decide +kernel
theorem dX2_addCite_10 : decode cX2_addCite 10 = .ok (.if_icmp .lt 5, 3) := by decide +kernel
theorem dX2_addCite_13 : decode cX2_addCite 13 = .ok (.iconst (-1), 1) := by decide +kernel
theorem dX2_addCite_14 : decode cX2_addCite 14 = .ok (.ireturn, 1) := by decide +kernel
theorem dX2_addCite_15 : decode cX2_addCite 15 = .ok (.iconst 0, 1) := by decide +kernel
theorem dX2_addCite_16 : decode cX2_addCite 16 = .ok (.istore 4, 2) := by decide +kernel
theorem dX2_addCite_18 : decode cX2_addCite 18 = .ok (.iload 4, 2) := by decide +kernel
theorem dX2_addCite_20 : decode cX2_addCite 20 = .ok (.iload_n 3, 1) := by decide +kernel
theorem dX2_addCite_21 : decode cX2_addCite 21 = .ok (.if_icmp .ge 22, 3) := by decide +kernel
theorem dX2_addCite_24 : decode cX2_addCite 24 = .ok (.aload_n 0, 1) := by decide +kernel
theorem dX2_addCite_25 : decode cX2_addCite 25 = .ok (.iload_n 1, 1) := by decide +kernel
theorem dX2_addCite_26 : decode cX2_addCite 26 = .ok (.iload 4, 2) := by decide +kernel
theorem dX2_addCite_28 : decode cX2_addCite 28 = .ok (.invokevirtual 34, 3) := by decide +kernel
theorem dX2_addCite_31 : decode cX2_addCite 31 = .ok (.iload_n 2, 1) := by decide +kernel
theorem dX2_addCite_32 : decode cX2_addCite 32 = .ok (.if_icmp .ne 5, 3) := by decide +kernel
theorem dX2_addCite_35 : decode cX2_addCite 35 = .ok (.iconst (-1), 1) := by decide +kernel
theorem dX2_addCite_36 : decode cX2_addCite 36 = .ok (.ireturn, 1) := by decide +kernel
theorem dX2_addCite_37 : decode cX2_addCite 37 = .ok (.iinc 4 1, 3) := by decide +kernel
theorem dX2_addCite_40 : decode cX2_addCite 40 = .ok (.goto (-22), 3) := by decide +kernel
theorem dX2_addCite_43 : decode cX2_addCite 43 = .ok (.aload_n 0, 1) := by decide +kernel
theorem dX2_addCite_44 : decode cX2_addCite 44 = .ok (.getfield 24, 3) := by decide +kernel
theorem dX2_addCite_47 : decode cX2_addCite 47 = .ok (.iload_n 1, 1) := by decide +kernel
theorem dX2_addCite_48 : decode cX2_addCite 48 = .ok (.bipush 8, 2) := by decide +kernel
theorem dX2_addCite_50 : decode cX2_addCite 50 = .ok (.imul, 1) := by decide +kernel
theorem dX2_addCite_51 : decode cX2_addCite 51 = .ok (.iload_n 3, 1) := by decide +kernel
theorem dX2_addCite_52 : decode cX2_addCite 52 = .ok (.iadd, 1) := by decide +kernel
theorem dX2_addCite_53 : decode cX2_addCite 53 = .ok (.iload_n 2, 1) := by decide +kernel
theorem dX2_addCite_54 : decode cX2_addCite 54 = .ok (.iastore, 1) := by decide +kernel
theorem dX2_addCite_55 : decode cX2_addCite 55 = .ok (.aload_n 0, 1) := by decide +kernel
theorem dX2_addCite_56 : decode cX2_addCite 56 = .ok (.getfield 21, 3) := by decide +kernel
theorem dX2_addCite_59 : decode cX2_addCite 59 = .ok (.iload_n 1, 1) := by decide +kernel
theorem dX2_addCite_60 : decode cX2_addCite 60 = .ok (.iload_n 3, 1) := by decide +kernel
theorem dX2_addCite_61 : decode cX2_addCite 61 = .ok (.iconst 1, 1) := by decide +kernel
theorem dX2_addCite_62 : decode cX2_addCite 62 = .ok (.iadd, 1) := by decide +kernel
theorem dX2_addCite_63 : decode cX2_addCite 63 = .ok (.iastore, 1) := by decide +kernel
theorem dX2_addCite_64 : decode cX2_addCite 64 = .ok (.iload_n 3, 1) := by decide +kernel
theorem dX2_addCite_65 : decode cX2_addCite 65 = .ok (.iconst 1, 1) := by decide +kernel
theorem dX2_addCite_66 : decode cX2_addCite 66 = .ok (.iadd, 1) := by decide +kernel
theorem dX2_addCite_67 : decode cX2_addCite 67 = .ok (.ireturn, 1) := by decide +kernel
theorem dX3_init_0 : decode cX3_init 0 = .ok (.aload_n 0, 1) := by decide +kernel
theorem dX3_init_1 : decode cX3_init 1 = .ok (.sipush 150, 3) := by decide +kernel
theorem dX3_init_4 : decode cX3_init 4 = .ok (.invokespecial 3, 3) := by decide +kernel
theorem dX3_init_7 : decode cX3_init 7 = .ok (.aload_n 0, 1) := by decide +kernel
theorem dX3_init_8 : decode cX3_init 8 = .ok (.sipush 150, 3) := by decide +kernel
theorem dX3_init_11 : decode cX3_init 11 = .ok (.newarray .int, 2) := by decide +kernel
theorem dX3_init_13 : decode cX3_init 13 = .ok (.putfield 9, 3) := by decide +kernel
theorem dX3_init_16 : decode cX3_init 16 = .ok (.aload_n 0, 1) := by decide +kernel
theorem dX3_init_17 : decode cX3_init 17 = .ok (.sipush 150, 3) := by decide +kernel
theorem dX3_init_20 : decode cX3_init 20 = .ok (.newarray .int, 2) := by decide +kernel
theorem dX3_init_22 : decode cX3_init 22 = .ok (.putfield 15, 3) := by decide +kernel
theorem dX3_init_25 : decode cX3_init 25 = .ok (.aload_n 0, 1) := by decide +kernel
theorem dX3_init_26 : decode cX3_init 26 = .ok (.sipush 150, 3) := by decide +kernel
theorem dX3_init_29 : decode cX3_init 29 = .ok (.newarray .int, 2) := by decide +kernel
theorem dX3_init_31 : decode cX3_init 31 = .ok (.putfield 18, 3) := by decide +kernel
theorem dX3_init_34 : decode cX3_init 34 = .ok (.aload_n 0, 1) := by decide +kernel
theorem dX3_init_35 : decode cX3_init 35 = .ok (.sipush 150, 3) := by decide +kernel
theorem dX3_init_38 : decode cX3_init 38 = .ok (.newarray .int, 2) := by decide +kernel
theorem dX3_init_40 : decode cX3_init 40 = .ok (.putfield 21, 3) := by decide +kernel
theorem dX3_init_43 : decode cX3_init 43 = .ok (.aload_n 0, 1) := by decide +kernel
theorem dX3_init_44 : decode cX3_init 44 = .ok (.sipush 150, 3) := by decide +kernel
theorem dX3_init_47 : decode cX3_init 47 = .ok (.newarray .int, 2) := by decide +kernel
theorem dX3_init_49 : decode cX3_init 49 = .ok (.putfield 24, 3) := by decide +kernel
theorem dX3_init_52 : decode cX3_init 52 = .ok (.aload_n 0, 1) := by decide +kernel
theorem dX3_init_53 : decode cX3_init 53 = .ok (.sipush 150, 3) := by decide +kernel
theorem dX3_init_56 : decode cX3_init 56 = .ok (.newarray .int, 2) := by decide +kernel
theorem dX3_init_58 : decode cX3_init 58 = .ok (.putfield 27, 3) := by decide +kernel
theorem dX3_init_61 : decode cX3_init 61 = .ok (.return_, 1) := by decide +kernel
theorem dX3_add_0 : decode cX3_add 0 = .ok (.aload_n 0, 1) := by decide +kernel
theorem dX3_add_1 : decode cX3_add 1 = .ok (.getfield 30, 3) := by decide +kernel
theorem dX3_add_4 : decode cX3_add 4 = .ok (.aload_n 0, 1) := by decide +kernel
theorem dX3_add_5 : decode cX3_add 5 = .ok (.getfield 34, 3) := by decide +kernel
theorem dX3_add_8 : decode cX3_add 8 = .ok (.if_icmp .lt 4, 3) := by decide +kernel
theorem dX3_add_11 : decode cX3_add 11 = .ok (.return_, 1) := by decide +kernel
theorem dX3_add_12 : decode cX3_add 12 = .ok (.aload_n 0, 1) := by decide +kernel
theorem dX3_add_13 : decode cX3_add 13 = .ok (.getfield 9, 3) := by decide +kernel
theorem dX3_add_16 : decode cX3_add 16 = .ok (.aload_n 0, 1) := by decide +kernel
theorem dX3_add_17 : decode cX3_add 17 = .ok (.getfield 30, 3) := by decide +kernel
theorem dX3_add_20 : decode cX3_add 20 = .ok (.iload_n 1, 1) := by decide +kernel
theorem dX3_add_21 : decode cX3_add 21 = .ok (.iastore, 1) := by decide +kernel
theorem dX3_add_22 : decode cX3_add 22 = .ok (.aload_n 0, 1) := by decide +kernel
theorem dX3_add_23 : decode cX3_add 23 = .ok (.getfield 15, 3) := by decide +kernel
theorem dX3_add_26 : decode cX3_add 26 = .ok (.aload_n 0, 1) := by decide +kernel
theorem dX3_add_27 : decode cX3_add 27 = .ok (.getfield 30, 3) := by decide +kernel
theorem dX3_add_30 : decode cX3_add 30 = .ok (.iload_n 2, 1) := by decide +kernel
theorem dX3_add_31 : decode cX3_add 31 = .ok (.iastore, 1) := by decide +kernel
theorem dX3_add_32 : decode cX3_add 32 = .ok (.aload_n 0, 1) := by decide +kernel
theorem dX3_add_33 : decode cX3_add 33 = .ok (.getfield 18, 3) := by decide +kernel
theorem dX3_add_36 : decode cX3_add 36 = .ok (.aload_n 0, 1) := by decide +kernel
theorem dX3_add_37 : decode cX3_add 37 = .ok (.getfield 30, 3) := by decide +kernel
theorem dX3_add_40 : decode cX3_add 40 = .ok (.iload_n 3, 1) := by decide +kernel
theorem dX3_add_41 : decode cX3_add 41 = .ok (.iastore, 1) := by decide +kernel
theorem dX3_add_42 : decode cX3_add 42 = .ok (.aload_n 0, 1) := by decide +kernel
theorem dX3_add_43 : decode cX3_add 43 = .ok (.dup, 1) := by decide +kernel
theorem dX3_add_44 : decode cX3_add 44 = .ok (.getfield 30, 3) := by decide +kernel
theorem dX3_add_47 : decode cX3_add 47 = .ok (.iconst 1, 1) := by decide +kernel
theorem dX3_add_48 : decode cX3_add 48 = .ok (.iadd, 1) := by decide +kernel
theorem dX3_add_49 : decode cX3_add 49 = .ok (.putfield 30, 3) := by decide +kernel
theorem dX3_add_52 : decode cX3_add 52 = .ok (.return_, 1) := by decide +kernel
theorem dX3_setNumbers_0 : decode cX3_setNumbers 0 = .ok (.aload_n 0, 1) := by decide +kernel
theorem dX3_setNumbers_1 : decode cX3_setNumbers 1 = .ok (.getfield 30, 3) := by decide +kernel
theorem dX3_setNumbers_4 : decode cX3_setNumbers 4 = .ok (.ifCond .le 39, 3) := by decide +kernel
theorem dX3_setNumbers_7 : decode cX3_setNumbers 7 = .ok (.aload_n 0, 1) := by decide +kernel
theorem dX3_setNumbers_8 : decode cX3_setNumbers 8 = .ok (.getfield 21, 3) := by decide +kernel
theorem dX3_setNumbers_11 : decode cX3_setNumbers 11 = .ok (.aload_n 0, 1) := by decide +kernel
theorem dX3_setNumbers_12 : decode cX3_setNumbers 12 = .ok (.getfield 30, 3) := by decide +kernel
theorem dX3_setNumbers_15 : decode cX3_setNumbers 15 = .ok (.iconst 1, 1) := by decide +kernel
theorem dX3_setNumbers_16 : decode cX3_setNumbers 16 = .ok (.isub, 1) := by decide +kernel
theorem dX3_setNumbers_17 : decode cX3_setNumbers 17 = .ok (.iload_n 1, 1) := by decide +kernel
theorem dX3_setNumbers_18 : decode cX3_setNumbers 18 = .ok (.iastore, 1) := by decide +kernel
theorem dX3_setNumbers_19 : decode cX3_setNumbers 19 = .ok (.aload_n 0, 1) := by decide +kernel
theorem dX3_setNumbers_20 : decode cX3_setNumbers 20 = .ok (.getfield 24, 3) := by decide +kernel
theorem dX3_setNumbers_23 : decode cX3_setNumbers 23 = .ok (.aload_n 0, 1) := by decide +kernel
theorem dX3_setNumbers_24 : decode cX3_setNumbers 24 = .ok (.getfield 30, 3) := by decide +kernel
theorem dX3_setNumbers_27 : decode cX3_setNumbers 27 = .ok (.iconst 1, 1) := by decide +kernel
theorem dX3_setNumbers_28 : decode cX3_setNumbers 28 = .ok (.isub, 1) := by decide +kernel
theorem dX3_setNumbers_29 : decode cX3_setNumbers 29 = .ok (.iload_n 2, 1) := by decide +kernel
theorem dX3_setNumbers_30 : decode cX3_setNumbers 30 = .ok (.iastore, 1) := by decide +kernel
theorem dX3_setNumbers_31 : decode cX3_setNumbers 31 = .ok (.aload_n 0, 1) := by decide +kernel
theorem dX3_setNumbers_32 : decode cX3_setNumbers 32 = .ok (.getfield 27, 3) := by decide +kernel
theorem dX3_setNumbers_35 : decode cX3_setNumbers 35 = .ok (.aload_n 0, 1) := by decide +kernel
theorem dX3_setNumbers_36 : decode cX3_setNumbers 36 = .ok (.getfield 30, 3) := by decide +kernel
theorem dX3_setNumbers_39 : decode cX3_setNumbers 39 = .ok (.iconst 1, 1) := by decide +kernel
theorem dX3_setNumbers_40 : decode cX3_setNumbers 40 = .ok (.isub, 1) := by decide +kernel
theorem dX3_setNumbers_41 : decode cX3_setNumbers 41 = .ok (.iload_n 3, 1) := by decide +kernel
theorem dX3_setNumbers_42 : decode cX3_setNumbers 42 = .ok (.iastore, 1) := by decide +kernel
theorem dX3_setNumbers_43 : decode cX3_setNumbers 43 = .ok (.return_, 1) := by decide +kernel
theorem dX4_init_0 : decode cX4_init 0 = .ok (.aload_n 0, 1) := by decide +kernel
theorem dX4_init_1 : decode cX4_init 1 = .ok (.sipush 200, 3) := by decide +kernel
theorem dX4_init_4 : decode cX4_init 4 = .ok (.invokespecial 3, 3) := by decide +kernel
theorem dX4_init_7 : decode cX4_init 7 = .ok (.aload_n 0, 1) := by decide +kernel
theorem dX4_init_8 : decode cX4_init 8 = .ok (.sipush 200, 3) := by decide +kernel
theorem dX4_init_11 : decode cX4_init 11 = .ok (.newarray .int, 2) := by decide +kernel
theorem dX4_init_13 : decode cX4_init 13 = .ok (.putfield 9, 3) := by decide +kernel
theorem dX4_init_16 : decode cX4_init 16 = .ok (.aload_n 0, 1) := by decide +kernel
theorem dX4_init_17 : decode cX4_init 17 = .ok (.sipush 200, 3) := by decide +kernel
theorem dX4_init_20 : decode cX4_init 20 = .ok (.newarray .int, 2) := by decide +kernel
theorem dX4_init_22 : decode cX4_init 22 = .ok (.putfield 15, 3) := by decide +kernel
theorem dX4_init_25 : decode cX4_init 25 = .ok (.aload_n 0, 1) := by decide +kernel
theorem dX4_init_26 : decode cX4_init 26 = .ok (.sipush 200, 3) := by decide +kernel
theorem dX4_init_29 : decode cX4_init 29 = .ok (.newarray .int, 2) := by decide +kernel
theorem dX4_init_31 : decode cX4_init 31 = .ok (.putfield 18, 3) := by decide +kernel
theorem dX4_init_34 : decode cX4_init 34 = .ok (.aload_n 0, 1) := by decide +kernel
theorem dX4_init_35 : decode cX4_init 35 = .ok (.sipush 200, 3) := by decide +kernel
theorem dX4_init_38 : decode cX4_init 38 = .ok (.newarray .int, 2) := by decide +kernel
theorem dX4_init_40 : decode cX4_init 40 = .ok (.putfield 21, 3) := by decide +kernel
theorem dX4_init_43 : decode cX4_init 43 = .ok (.aload_n 0, 1) := by decide +kernel
theorem dX4_init_44 : decode cX4_init 44 = .ok (.sipush 200, 3) := by decide +kernel
theorem dX4_init_47 : decode cX4_init 47 = .ok (.newarray .int, 2) := by decide +kernel
theorem dX4_init_49 : decode cX4_init 49 = .ok (.putfield 24, 3) := by decide +kernel
theorem dX4_init_52 : decode cX4_init 52 = .ok (.aload_n 0, 1) := by decide +kernel
theorem dX4_init_53 : decode cX4_init 53 = .ok (.sipush 200, 3) := by decide +kernel
theorem dX4_init_56 : decode cX4_init 56 = .ok (.newarray .int, 2) := by decide +kernel
theorem dX4_init_58 : decode cX4_init 58 = .ok (.putfield 27, 3) := by decide +kernel
theorem dX4_init_61 : decode cX4_init 61 = .ok (.return_, 1) := by decide +kernel
theorem dX4_canGoOn_0 : decode cX4_canGoOn 0 = .ok (.aload_n 0, 1) := by decide +kernel
theorem dX4_canGoOn_1 : decode cX4_canGoOn 1 = .ok (.getfield 30, 3) := by decide +kernel
theorem dX4_canGoOn_4 : decode cX4_canGoOn 4 = .ok (.ifCond .le 37, 3) := by decide +kernel
theorem dX4_canGoOn_7 : decode cX4_canGoOn 7 = .ok (.aload_n 0, 1) := by decide +kernel
theorem dX4_canGoOn_8 : decode cX4_canGoOn 8 = .ok (.getfield 15, 3) := by decide +kernel
theorem dX4_canGoOn_11 : decode cX4_canGoOn 11 = .ok (.aload_n 0, 1) := by decide +kernel
theorem dX4_canGoOn_12 : decode cX4_canGoOn 12 = .ok (.getfield 30, 3) := by decide +kernel
theorem dX4_canGoOn_15 : decode cX4_canGoOn 15 = .ok (.iconst 1, 1) := by decide +kernel
theorem dX4_canGoOn_16 : decode cX4_canGoOn 16 = .ok (.isub, 1) := by decide +kernel
theorem dX4_canGoOn_17 : decode cX4_canGoOn 17 = .ok (.iaload, 1) := by decide +kernel
theorem dX4_canGoOn_18 : decode cX4_canGoOn 18 = .ok (.iload_n 1, 1) := by decide +kernel
theorem dX4_canGoOn_19 : decode cX4_canGoOn 19 = .ok (.if_icmp .ne 22, 3) := by decide +kernel
theorem dX4_canGoOn_22 : decode cX4_canGoOn 22 = .ok (.aload_n 0, 1) := by decide +kernel
theorem dX4_canGoOn_23 : decode cX4_canGoOn 23 = .ok (.getfield 9, 3) := by decide +kernel
theorem dX4_canGoOn_26 : decode cX4_canGoOn 26 = .ok (.aload_n 0, 1) := by decide +kernel
theorem dX4_canGoOn_27 : decode cX4_canGoOn 27 = .ok (.getfield 30, 3) := by decide +kernel
theorem dX4_canGoOn_30 : decode cX4_canGoOn 30 = .ok (.iconst 1, 1) := by decide +kernel
theorem dX4_canGoOn_31 : decode cX4_canGoOn 31 = .ok (.isub, 1) := by decide +kernel
theorem dX4_canGoOn_32 : decode cX4_canGoOn 32 = .ok (.iaload, 1) := by decide +kernel
theorem dX4_canGoOn_33 : decode cX4_canGoOn 33 = .ok (.iconst 5, 1) := by decide +kernel
theorem dX4_canGoOn_34 : decode cX4_canGoOn 34 = .ok (.if_icmp .eq 7, 3) := by decide +kernel
theorem dX4_canGoOn_37 : decode cX4_canGoOn 37 = .ok (.iconst 1, 1) := by decide +kernel
theorem dX4_canGoOn_38 : decode cX4_canGoOn 38 = .ok (.goto 4, 3) := by decide +kernel
theorem dX4_canGoOn_41 : decode cX4_canGoOn 41 = .ok (.iconst 0, 1) := by decide +kernel
theorem dX4_canGoOn_42 : decode cX4_canGoOn 42 = .ok (.ireturn, 1) := by decide +kernel
theorem dX4_add_0 : decode cX4_add 0 = .ok (.aload_n 0, 1) := by decide +kernel
theorem dX4_add_1 : decode cX4_add 1 = .ok (.getfield 30, 3) := by decide +kernel
theorem dX4_add_4 : decode cX4_add 4 = .ok (.aload_n 0, 1) := by decide +kernel
theorem dX4_add_5 : decode cX4_add 5 = .ok (.getfield 34, 3) := by decide +kernel
theorem dX4_add_8 : decode cX4_add 8 = .ok (.if_icmp .lt 4, 3) := by decide +kernel
theorem dX4_add_11 : decode cX4_add 11 = .ok (.return_, 1) := by decide +kernel
theorem dX4_add_12 : decode cX4_add 12 = .ok (.aload_n 0, 1) := by decide +kernel
theorem dX4_add_13 : decode cX4_add 13 = .ok (.getfield 9, 3) := by decide +kernel
theorem dX4_add_16 : decode cX4_add 16 = .ok (.aload_n 0, 1) := by decide +kernel
theorem dX4_add_17 : decode cX4_add 17 = .ok (.getfield 30, 3) := by decide +kernel
theorem dX4_add_20 : decode cX4_add 20 = .ok (.iload_n 1, 1) := by decide +kernel
theorem dX4_add_21 : decode cX4_add 21 = .ok (.iastore, 1) := by decide +kernel
theorem dX4_add_22 : decode cX4_add 22 = .ok (.aload_n 0, 1) := by decide +kernel
theorem dX4_add_23 : decode cX4_add 23 = .ok (.getfield 15, 3) := by decide +kernel
theorem dX4_add_26 : decode cX4_add 26 = .ok (.aload_n 0, 1) := by decide +kernel
theorem dX4_add_27 : decode cX4_add 27 = .ok (.getfield 30, 3) := by decide +kernel
theorem dX4_add_30 : decode cX4_add 30 = .ok (.iload_n 2, 1) := by decide +kernel
theorem dX4_add_31 : decode cX4_add 31 = .ok (.iastore, 1) := by decide +kernel
theorem dX4_add_32 : decode cX4_add 32 = .ok (.aload_n 0, 1) := by decide +kernel
theorem dX4_add_33 : decode cX4_add 33 = .ok (.getfield 27, 3) := by decide +kernel
theorem dX4_add_36 : decode cX4_add 36 = .ok (.aload_n 0, 1) := by decide +kernel
theorem dX4_add_37 : decode cX4_add 37 = .ok (.getfield 30, 3) := by decide +kernel
theorem dX4_add_40 : decode cX4_add 40 = .ok (.iconst (-1), 1) := by decide +kernel
theorem dX4_add_41 : decode cX4_add 41 = .ok (.iastore, 1) := by decide +kernel
theorem dX4_add_42 : decode cX4_add 42 = .ok (.aload_n 0, 1) := by decide +kernel
theorem dX4_add_43 : decode cX4_add 43 = .ok (.aload_n 0, 1) := by decide +kernel
theorem dX4_add_44 : decode cX4_add 44 = .ok (.getfield 30, 3) := by decide +kernel
theorem dX4_add_47 : decode cX4_add 47 = .ok (.invokevirtual 37, 3) := by decide +kernel
theorem dX4_add_50 : decode cX4_add 50 = .ok (.aload_n 0, 1) := by decide +kernel
theorem dX4_add_51 : decode cX4_add 51 = .ok (.aload_n 0, 1) := by decide +kernel
theorem dX4_add_52 : decode cX4_add 52 = .ok (.getfield 30, 3) := by decide +kernel
theorem dX4_add_55 : decode cX4_add 55 = .ok (.invokevirtual 40, 3) := by decide +kernel
theorem dX4_add_58 : decode cX4_add 58 = .ok (.aload_n 0, 1) := by decide +kernel
theorem dX4_add_59 : decode cX4_add 59 = .ok (.dup, 1) := by decide +kernel
theorem dX4_add_60 : decode cX4_add 60 = .ok (.getfield 30, 3) := by decide +kernel
theorem dX4_add_63 : decode cX4_add 63 = .ok (.iconst 1, 1) := by decide +kernel
theorem dX4_add_64 : decode cX4_add 64 = .ok (.iadd, 1) := by decide +kernel
theorem dX4_add_65 : decode cX4_add 65 = .ok (.putfield 30, 3) := by decide +kernel
theorem dX4_add_68 : decode cX4_add 68 = .ok (.return_, 1) := by decide +kernel
theorem dX4_setPage_0 : decode cX4_setPage 0 = .ok (.iload_n 1, 1) := by decide +kernel
theorem dX4_setPage_1 : decode cX4_setPage 1 = .ok (.ifCond .ne 20, 3) := by decide +kernel
theorem dX4_setPage_4 : decode cX4_setPage 4 = .ok (.aload_n 0, 1) := by decide +kernel
theorem dX4_setPage_5 : decode cX4_setPage 5 = .ok (.getfield 18, 3) := by decide +kernel
theorem dX4_setPage_8 : decode cX4_setPage 8 = .ok (.iload_n 1, 1) := by decide +kernel
theorem dX4_setPage_9 : decode cX4_setPage 9 = .ok (.iconst 1, 1) := by decide +kernel
theorem dX4_setPage_10 : decode cX4_setPage 10 = .ok (.iastore, 1) := by decide +kernel
theorem dX4_setPage_11 : decode cX4_setPage 11 = .ok (.aload_n 0, 1) := by decide +kernel
theorem dX4_setPage_12 : decode cX4_setPage 12 = .ok (.getfield 21, 3) := by decide +kernel
theorem dX4_setPage_15 : decode cX4_setPage 15 = .ok (.iload_n 1, 1) := by decide +kernel
theorem dX4_setPage_16 : decode cX4_setPage 16 = .ok (.iconst 1, 1) := by decide +kernel
theorem dX4_setPage_17 : decode cX4_setPage 17 = .ok (.iastore, 1) := by decide +kernel
theorem dX4_setPage_18 : decode cX4_setPage 18 = .ok (.goto 89, 3) := by decide +kernel
theorem dX4_setPage_21 : decode cX4_setPage 21 = .ok (.aload_n 0, 1) := by decide +kernel
theorem dX4_setPage_22 : decode cX4_setPage 22 = .ok (.getfield 15, 3) := by decide +kernel
theorem dX4_setPage_25 : decode cX4_setPage 25 = .ok (.iload_n 1, 1) := by decide +kernel
theorem dX4_setPage_26 : decode cX4_setPage 26 = .ok (.iconst 1, 1) := by decide +kernel
theorem dX4_setPage_27 : decode cX4_setPage 27 = .ok (.isub, 1) := by decide +kernel
theorem dX4_setPage_28 : decode cX4_setPage 28 = .ok (.iaload, 1) := by decide +kernel
theorem dX4_setPage_29 : decode cX4_setPage 29 = .ok (.aload_n 0, 1) := by decide +kernel
theorem dX4_setPage_30 : decode cX4_setPage 30 = .ok (.getfield 15, 3) := by decide +kernel
theorem dX4_setPage_33 : decode cX4_setPage 33 = .ok (.iload_n 1, 1) := by decide +kernel
theorem dX4_setPage_34 : decode cX4_setPage 34 = .ok (.iaload, 1) := by decide +kernel
theorem dX4_setPage_35 : decode cX4_setPage 35 = .ok (.if_icmp .ne 16, 3) := by decide +kernel
theorem dX4_setPage_38 : decode cX4_setPage 38 = .ok (.aload_n 0, 1) := by decide +kernel
theorem dX4_setPage_39 : decode cX4_setPage 39 = .ok (.getfield 21, 3) := by decide +kernel
theorem dX4_setPage_42 : decode cX4_setPage 42 = .ok (.iload_n 1, 1) := by decide +kernel
theorem dX4_setPage_43 : decode cX4_setPage 43 = .ok (.iconst 1, 1) := by decide +kernel
theorem dX4_setPage_44 : decode cX4_setPage 44 = .ok (.isub, 1) := by decide +kernel
theorem dX4_setPage_45 : decode cX4_setPage 45 = .ok (.iaload, 1) := by decide +kernel
theorem dX4_setPage_46 : decode cX4_setPage 46 = .ok (.bipush 10, 2) := by decide +kernel
theorem dX4_setPage_48 : decode cX4_setPage 48 = .ok (.if_icmp .ne 29, 3) := by decide +kernel
theorem dX4_setPage_51 : decode cX4_setPage 51 = .ok (.aload_n 0, 1) := by decide +kernel
theorem dX4_setPage_52 : decode cX4_setPage 52 = .ok (.getfield 18, 3) := by decide +kernel
theorem dX4_setPage_55 : decode cX4_setPage 55 = .ok (.iload_n 1, 1) := by decide +kernel
theorem dX4_setPage_56 : decode cX4_setPage 56 = .ok (.aload_n 0, 1) := by decide +kernel
theorem dX4_setPage_57 : decode cX4_setPage 57 = .ok (.getfield 18, 3) := by decide +kernel
theorem dX4_setPage_60 : decode cX4_setPage 60 = .ok (.iload_n 1, 1) := by decide +kernel
theorem dX4_setPage_61 : decode cX4_setPage 61 = .ok (.iconst 1, 1) := by decide +kernel
theorem dX4_setPage_62 : decode cX4_setPage 62 = .ok (.isub, 1) := by decide +kernel
theorem dX4_setPage_63 : decode cX4_setPage 63 = .ok (.iaload, 1) := by decide +kernel
theorem dX4_setPage_64 : decode cX4_setPage 64 = .ok (.iconst 1, 1) := by decide +kernel
theorem dX4_setPage_65 : decode cX4_setPage 65 = .ok (.iadd, 1) := by decide +kernel
theorem dX4_setPage_66 : decode cX4_setPage 66 = .ok (.iastore, 1) := by decide +kernel
theorem dX4_setPage_67 : decode cX4_setPage 67 = .ok (.aload_n 0, 1) := by decide +kernel
theorem dX4_setPage_68 : decode cX4_setPage 68 = .ok (.getfield 21, 3) := by decide +kernel
theorem dX4_setPage_71 : decode cX4_setPage 71 = .ok (.iload_n 1, 1) := by decide +kernel
theorem dX4_setPage_72 : decode cX4_setPage 72 = .ok (.iconst 1, 1) := by decide +kernel
theorem dX4_setPage_73 : decode cX4_setPage 73 = .ok (.iastore, 1) := by decide +kernel
theorem dX4_setPage_74 : decode cX4_setPage 74 = .ok (.goto 33, 3) := by decide +kernel
theorem dX4_setPage_77 : decode cX4_setPage 77 = .ok (.aload_n 0, 1) := by decide +kernel
theorem dX4_setPage_78 : decode cX4_setPage 78 = .ok (.getfield 18, 3) := by decide +kernel
theorem dX4_setPage_81 : decode cX4_setPage 81 = .ok (.iload_n 1, 1) := by decide +kernel
theorem dX4_setPage_82 : decode cX4_setPage 82 = .ok (.aload_n 0, 1) := by decide +kernel
theorem dX4_setPage_83 : decode cX4_setPage 83 = .ok (.getfield 18, 3) := by decide +kernel
theorem dX4_setPage_86 : decode cX4_setPage 86 = .ok (.iload_n 1, 1) := by decide +kernel
theorem dX4_setPage_87 : decode cX4_setPage 87 = .ok (.iconst 1, 1) := by decide +kernel
theorem dX4_setPage_88 : decode cX4_setPage 88 = .ok (.isub, 1) := by decide +kernel
theorem dX4_setPage_89 : decode cX4_setPage 89 = .ok (.iaload, 1) := by decide +kernel
theorem dX4_setPage_90 : decode cX4_setPage 90 = .ok (.iastore, 1) := by decide +kernel
theorem dX4_setPage_91 : decode cX4_setPage 91 = .ok (.aload_n 0, 1) := by decide +kernel
theorem dX4_setPage_92 : decode cX4_setPage 92 = .ok (.getfield 21, 3) := by decide +kernel
theorem dX4_setPage_95 : decode cX4_setPage 95 = .ok (.iload_n 1, 1) := by decide +kernel
theorem dX4_setPage_96 : decode cX4_setPage 96 = .ok (.aload_n 0, 1) := by decide +kernel
theorem dX4_setPage_97 : decode cX4_setPage 97 = .ok (.getfield 21, 3) := by decide +kernel
theorem dX4_setPage_100 : decode cX4_setPage 100 = .ok (.iload_n 1, 1) := by decide +kernel
theorem dX4_setPage_101 : decode cX4_setPage 101 = .ok (.iconst 1, 1) := by decide +kernel
theorem dX4_setPage_102 : decode cX4_setPage 102 = .ok (.isub, 1) := by decide +kernel
theorem dX4_setPage_103 : decode cX4_setPage 103 = .ok (.iaload, 1) := by decide +kernel
theorem dX4_setPage_104 : decode cX4_setPage 104 = .ok (.iconst 1, 1) := by decide +kernel
theorem dX4_setPage_105 : decode cX4_setPage 105 = .ok (.iadd, 1) := by decide +kernel
theorem dX4_setPage_106 : decode cX4_setPage 106 = .ok (.iastore, 1) := by decide +kernel
theorem dX4_setPage_107 : decode cX4_setPage 107 = .ok (.return_, 1) := by decide +kernel
theorem dX4_setEntry_0 : decode cX4_setEntry 0 = .ok (.aload_n 0, 1) := by decide +kernel
theorem dX4_setEntry_1 : decode cX4_setEntry 1 = .ok (.iload_n 1, 1) := by decide +kernel
theorem dX4_setEntry_2 : decode cX4_setEntry 2 = .ok (.invokevirtual 43, 3) := by decide +kernel
theorem dX4_setEntry_5 : decode cX4_setEntry 5 = .ok (.istore_n 2, 1) := by decide +kernel
theorem dX4_setEntry_6 : decode cX4_setEntry 6 = .ok (.aload_n 0, 1) := by decide +kernel
theorem dX4_setEntry_7 : decode cX4_setEntry 7 = .ok (.getfield 9, 3) := by decide +kernel
theorem dX4_setEntry_10 : decode cX4_setEntry 10 = .ok (.iload_n 1, 1) := by decide +kernel
theorem dX4_setEntry_11 : decode cX4_setEntry 11 = .ok (.iaload, 1) := by decide +kernel
theorem dX4_setEntry_12 : decode cX4_setEntry 12 = .ok (.iconst 5, 1) := by decide +kernel
theorem dX4_setEntry_13 : decode cX4_setEntry 13 = .ok (.if_icmp .ne 13, 3) := by decide +kernel
theorem dX4_setEntry_16 : decode cX4_setEntry 16 = .ok (.aload_n 0, 1) := by decide +kernel
theorem dX4_setEntry_17 : decode cX4_setEntry 17 = .ok (.getfield 24, 3) := by decide +kernel
theorem dX4_setEntry_20 : decode cX4_setEntry 20 = .ok (.iload_n 1, 1) := by decide +kernel
theorem dX4_setEntry_21 : decode cX4_setEntry 21 = .ok (.iconst (-1), 1) := by decide +kernel
theorem dX4_setEntry_22 : decode cX4_setEntry 22 = .ok (.iastore, 1) := by decide +kernel
theorem dX4_setEntry_23 : decode cX4_setEntry 23 = .ok (.goto 60, 3) := by decide +kernel
theorem dX4_setEntry_26 : decode cX4_setEntry 26 = .ok (.aload_n 0, 1) := by decide +kernel
theorem dX4_setEntry_27 : decode cX4_setEntry 27 = .ok (.getfield 9, 3) := by decide +kernel
theorem dX4_setEntry_30 : decode cX4_setEntry 30 = .ok (.iload_n 1, 1) := by decide +kernel
theorem dX4_setEntry_31 : decode cX4_setEntry 31 = .ok (.iaload, 1) := by decide +kernel
theorem dX4_setEntry_32 : decode cX4_setEntry 32 = .ok (.iconst 4, 1) := by decide +kernel
theorem dX4_setEntry_33 : decode cX4_setEntry 33 = .ok (.if_icmp .ne 13, 3) := by decide +kernel
theorem dX4_setEntry_36 : decode cX4_setEntry 36 = .ok (.aload_n 0, 1) := by decide +kernel
theorem dX4_setEntry_37 : decode cX4_setEntry 37 = .ok (.getfield 24, 3) := by decide +kernel
theorem dX4_setEntry_40 : decode cX4_setEntry 40 = .ok (.iload_n 1, 1) := by decide +kernel
theorem dX4_setEntry_41 : decode cX4_setEntry 41 = .ok (.iload_n 2, 1) := by decide +kernel
theorem dX4_setEntry_42 : decode cX4_setEntry 42 = .ok (.iastore, 1) := by decide +kernel
theorem dX4_setEntry_43 : decode cX4_setEntry 43 = .ok (.goto 40, 3) := by decide +kernel
theorem dX4_setEntry_46 : decode cX4_setEntry 46 = .ok (.aload_n 0, 1) := by decide +kernel
theorem dX4_setEntry_47 : decode cX4_setEntry 47 = .ok (.getfield 24, 3) := by decide +kernel
theorem dX4_setEntry_50 : decode cX4_setEntry 50 = .ok (.iload_n 1, 1) := by decide +kernel
theorem dX4_setEntry_51 : decode cX4_setEntry 51 = .ok (.iload_n 1, 1) := by decide +kernel
theorem dX4_setEntry_52 : decode cX4_setEntry 52 = .ok (.iastore, 1) := by decide +kernel
theorem dX4_setEntry_53 : decode cX4_setEntry 53 = .ok (.iload_n 2, 1) := by decide +kernel
theorem dX4_setEntry_54 : decode cX4_setEntry 54 = .ok (.iconst (-1), 1) := by decide +kernel
theorem dX4_setEntry_55 : decode cX4_setEntry 55 = .ok (.if_icmp .eq 28, 3) := by decide +kernel
theorem dX4_setEntry_58 : decode cX4_setEntry 58 = .ok (.aload_n 0, 1) := by decide +kernel
theorem dX4_setEntry_59 : decode cX4_setEntry 59 = .ok (.getfield 9, 3) := by decide +kernel
theorem dX4_setEntry_62 : decode cX4_setEntry 62 = .ok (.iload_n 2, 1) := by decide +kernel
theorem dX4_setEntry_63 : decode cX4_setEntry 63 = .ok (.iaload, 1) := by decide +kernel
theorem dX4_setEntry_64 : decode cX4_setEntry 64 = .ok (.ifCond .ne 19, 3) := by decide +kernel
theorem dX4_setEntry_67 : decode cX4_setEntry 67 = .ok (.aload_n 0, 1) := by decide +kernel
theorem dX4_setEntry_68 : decode cX4_setEntry 68 = .ok (.getfield 9, 3) := by decide +kernel
theorem dX4_setEntry_71 : decode cX4_setEntry 71 = .ok (.iload_n 1, 1) := by decide +kernel
theorem dX4_setEntry_72 : decode cX4_setEntry 72 = .ok (.iaload, 1) := by decide +kernel
theorem dX4_setEntry_73 : decode cX4_setEntry 73 = .ok (.ifCond .eq 10, 3) := by decide +kernel
theorem dX4_setEntry_76 : decode cX4_setEntry 76 = .ok (.aload_n 0, 1) := by decide +kernel
theorem dX4_setEntry_77 : decode cX4_setEntry 77 = .ok (.getfield 27, 3) := by decide +kernel
theorem dX4_setEntry_80 : decode cX4_setEntry 80 = .ok (.iload_n 2, 1) := by decide +kernel
theorem dX4_setEntry_81 : decode cX4_setEntry 81 = .ok (.iload_n 1, 1) := by decide +kernel
theorem dX4_setEntry_82 : decode cX4_setEntry 82 = .ok (.iastore, 1) := by decide +kernel
theorem dX4_setEntry_83 : decode cX4_setEntry 83 = .ok (.return_, 1) := by decide +kernel
theorem dX4_entryBefore_0 : decode cX4_entryBefore 0 = .ok (.iload_n 1, 1) := by decide +kernel
theorem dX4_entryBefore_1 : decode cX4_entryBefore 1 = .ok (.iconst 1, 1) := by decide +kernel
theorem dX4_entryBefore_2 : decode cX4_entryBefore 2 = .ok (.isub, 1) := by decide +kernel
theorem dX4_entryBefore_3 : decode cX4_entryBefore 3 = .ok (.istore_n 2, 1) := by decide +kernel
theorem dX4_entryBefore_4 : decode cX4_entryBefore 4 = .ok (.iload_n 2, 1) := by decide +kernel
theorem dX4_entryBefore_5 : decode cX4_entryBefore 5 = .ok (.ifCond .lt 41, 3) := by decide +kernel
theorem dX4_entryBefore_8 : decode cX4_entryBefore 8 = .ok (.aload_n 0, 1) := by decide +kernel
theorem dX4_entryBefore_9 : decode cX4_entryBefore 9 = .ok (.getfield 15, 3) := by decide +kernel
theorem dX4_entryBefore_12 : decode cX4_entryBefore 12 = .ok (.iload_n 2, 1) := by decide +kernel
theorem dX4_entryBefore_13 : decode cX4_entryBefore 13 = .ok (.iaload, 1) := by decide +kernel
theorem dX4_entryBefore_14 : decode cX4_entryBefore 14 = .ok (.aload_n 0, 1) := by decide +kernel
theorem dX4_entryBefore_15 : decode cX4_entryBefore 15 = .ok (.getfield 15, 3) := by decide +kernel
theorem dX4_entryBefore_18 : decode cX4_entryBefore 18 = .ok (.iload_n 1, 1) := by decide +kernel
theorem dX4_entryBefore_19 : decode cX4_entryBefore 19 = .ok (.iaload, 1) := by decide +kernel
theorem dX4_entryBefore_20 : decode cX4_entryBefore 20 = .ok (.if_icmp .ne 26, 3) := by decide +kernel
theorem dX4_entryBefore_23 : decode cX4_entryBefore 23 = .ok (.aload_n 0, 1) := by decide +kernel
theorem dX4_entryBefore_24 : decode cX4_entryBefore 24 = .ok (.getfield 9, 3) := by decide +kernel
theorem dX4_entryBefore_27 : decode cX4_entryBefore 27 = .ok (.iload_n 2, 1) := by decide +kernel
theorem dX4_entryBefore_28 : decode cX4_entryBefore 28 = .ok (.iaload, 1) := by decide +kernel
theorem dX4_entryBefore_29 : decode cX4_entryBefore 29 = .ok (.iconst 5, 1) := by decide +kernel
theorem dX4_entryBefore_30 : decode cX4_entryBefore 30 = .ok (.if_icmp .eq 10, 3) := by decide +kernel
theorem dX4_entryBefore_33 : decode cX4_entryBefore 33 = .ok (.aload_n 0, 1) := by decide +kernel
theorem dX4_entryBefore_34 : decode cX4_entryBefore 34 = .ok (.getfield 24, 3) := by decide +kernel
theorem dX4_entryBefore_37 : decode cX4_entryBefore 37 = .ok (.iload_n 2, 1) := by decide +kernel
theorem dX4_entryBefore_38 : decode cX4_entryBefore 38 = .ok (.iaload, 1) := by decide +kernel
theorem dX4_entryBefore_39 : decode cX4_entryBefore 39 = .ok (.ireturn, 1) := by decide +kernel
theorem dX4_entryBefore_40 : decode cX4_entryBefore 40 = .ok (.iinc 2 (-1), 3) := by decide +kernel
theorem dX4_entryBefore_43 : decode cX4_entryBefore 43 = .ok (.goto (-39), 3) := by decide +kernel
theorem dX4_entryBefore_46 : decode cX4_entryBefore 46 = .ok (.iconst (-1), 1) := by decide +kernel
theorem dX4_entryBefore_47 : decode cX4_entryBefore 47 = .ok (.ireturn, 1) := by decide +kernel
theorem dX4_answerTo_0 : decode cX4_answerTo 0 = .ok (.aload_n 0, 1) := by decide +kernel
theorem dX4_answerTo_1 : decode cX4_answerTo 1 = .ok (.getfield 24, 3) := by decide +kernel
theorem dX4_answerTo_4 : decode cX4_answerTo 4 = .ok (.iload_n 1, 1) := by decide +kernel
theorem dX4_answerTo_5 : decode cX4_answerTo 5 = .ok (.iaload, 1) := by decide +kernel
theorem dX4_answerTo_6 : decode cX4_answerTo 6 = .ok (.istore_n 2, 1) := by decide +kernel
theorem dX4_answerTo_7 : decode cX4_answerTo 7 = .ok (.aload_n 0, 1) := by decide +kernel
theorem dX4_answerTo_8 : decode cX4_answerTo 8 = .ok (.iload_n 2, 1) := by decide +kernel
theorem dX4_answerTo_9 : decode cX4_answerTo 9 = .ok (.invokevirtual 47, 3) := by decide +kernel
theorem dX4_answerTo_12 : decode cX4_answerTo 12 = .ok (.ifCond .eq 12, 3) := by decide +kernel
theorem dX4_answerTo_15 : decode cX4_answerTo 15 = .ok (.aload_n 0, 1) := by decide +kernel
theorem dX4_answerTo_16 : decode cX4_answerTo 16 = .ok (.getfield 27, 3) := by decide +kernel
theorem dX4_answerTo_19 : decode cX4_answerTo 19 = .ok (.iload_n 2, 1) := by decide +kernel
theorem dX4_answerTo_20 : decode cX4_answerTo 20 = .ok (.iaload, 1) := by decide +kernel
theorem dX4_answerTo_21 : decode cX4_answerTo 21 = .ok (.goto 4, 3) := by decide +kernel
theorem dX4_answerTo_24 : decode cX4_answerTo 24 = .ok (.iconst (-1), 1) := by decide +kernel
theorem dX4_answerTo_25 : decode cX4_answerTo 25 = .ok (.ireturn, 1) := by decide +kernel
theorem dX4_kindOfEntry_0 : decode cX4_kindOfEntry 0 = .ok (.aload_n 0, 1) := by decide +kernel
theorem dX4_kindOfEntry_1 : decode cX4_kindOfEntry 1 = .ok (.getfield 24, 3) := by decide +kernel
theorem dX4_kindOfEntry_4 : decode cX4_kindOfEntry 4 = .ok (.iload_n 1, 1) := by decide +kernel
theorem dX4_kindOfEntry_5 : decode cX4_kindOfEntry 5 = .ok (.iaload, 1) := by decide +kernel
theorem dX4_kindOfEntry_6 : decode cX4_kindOfEntry 6 = .ok (.istore_n 2, 1) := by decide +kernel
theorem dX4_kindOfEntry_7 : decode cX4_kindOfEntry 7 = .ok (.aload_n 0, 1) := by decide +kernel
theorem dX4_kindOfEntry_8 : decode cX4_kindOfEntry 8 = .ok (.iload_n 2, 1) := by decide +kernel
theorem dX4_kindOfEntry_9 : decode cX4_kindOfEntry 9 = .ok (.invokevirtual 47, 3) := by decide +kernel
theorem dX4_kindOfEntry_12 : decode cX4_kindOfEntry 12 = .ok (.ifCond .eq 12, 3) := by decide +kernel
theorem dX4_kindOfEntry_15 : decode cX4_kindOfEntry 15 = .ok (.aload_n 0, 1) := by decide +kernel
theorem dX4_kindOfEntry_16 : decode cX4_kindOfEntry 16 = .ok (.getfield 9, 3) := by decide +kernel
theorem dX4_kindOfEntry_19 : decode cX4_kindOfEntry 19 = .ok (.iload_n 2, 1) := by decide +kernel
theorem dX4_kindOfEntry_20 : decode cX4_kindOfEntry 20 = .ok (.iaload, 1) := by decide +kernel
theorem dX4_kindOfEntry_21 : decode cX4_kindOfEntry 21 = .ok (.goto 4, 3) := by decide +kernel
theorem dX4_kindOfEntry_24 : decode cX4_kindOfEntry 24 = .ok (.iconst 5, 1) := by decide +kernel
theorem dX4_kindOfEntry_25 : decode cX4_kindOfEntry 25 = .ok (.ireturn, 1) := by decide +kernel
theorem dX4_standingAt_0 : decode cX4_standingAt 0 = .ok (.iconst 0, 1) := by decide +kernel
theorem dX4_standingAt_1 : decode cX4_standingAt 1 = .ok (.istore_n 3, 1) := by decide +kernel
theorem dX4_standingAt_2 : decode cX4_standingAt 2 = .ok (.iload_n 3, 1) := by decide +kernel
theorem dX4_standingAt_3 : decode cX4_standingAt 3 = .ok (.aload_n 0, 1) := by decide +kernel
theorem dX4_standingAt_4 : decode cX4_standingAt 4 = .ok (.getfield 30, 3) := by decide +kernel
theorem dX4_standingAt_7 : decode cX4_standingAt 7 = .ok (.if_icmp .ge 31, 3) := by decide +kernel
theorem dX4_standingAt_10 : decode cX4_standingAt 10 = .ok (.aload_n 0, 1) := by decide +kernel
theorem dX4_standingAt_11 : decode cX4_standingAt 11 = .ok (.getfield 18, 3) := by decide +kernel
theorem dX4_standingAt_14 : decode cX4_standingAt 14 = .ok (.iload_n 3, 1) := by decide +kernel
theorem dX4_standingAt_15 : decode cX4_standingAt 15 = .ok (.iaload, 1) := by decide +kernel
theorem dX4_standingAt_16 : decode cX4_standingAt 16 = .ok (.iload_n 1, 1) := by decide +kernel
theorem dX4_standingAt_17 : decode cX4_standingAt 17 = .ok (.if_icmp .ne 15, 3) := by decide +kernel
theorem dX4_standingAt_20 : decode cX4_standingAt 20 = .ok (.aload_n 0, 1) := by decide +kernel
theorem dX4_standingAt_21 : decode cX4_standingAt 21 = .ok (.getfield 21, 3) := by decide +kernel
theorem dX4_standingAt_24 : decode cX4_standingAt 24 = .ok (.iload_n 3, 1) := by decide +kernel
theorem dX4_standingAt_25 : decode cX4_standingAt 25 = .ok (.iaload, 1) := by decide +kernel
theorem dX4_standingAt_26 : decode cX4_standingAt 26 = .ok (.iload_n 2, 1) := by decide +kernel
theorem dX4_standingAt_27 : decode cX4_standingAt 27 = .ok (.if_icmp .ne 5, 3) := by decide +kernel
theorem dX4_standingAt_30 : decode cX4_standingAt 30 = .ok (.iload_n 3, 1) := by decide +kernel
theorem dX4_standingAt_31 : decode cX4_standingAt 31 = .ok (.ireturn, 1) := by decide +kernel
theorem dX4_standingAt_32 : decode cX4_standingAt 32 = .ok (.iinc 3 1, 3) := by decide +kernel
theorem dX4_standingAt_35 : decode cX4_standingAt 35 = .ok (.goto (-33), 3) := by decide +kernel
theorem dX4_standingAt_38 : decode cX4_standingAt 38 = .ok (.iconst (-1), 1) := by decide +kernel
theorem dX4_standingAt_39 : decode cX4_standingAt 39 = .ok (.ireturn, 1) := by decide +kernel
theorem dX5_init_0 : decode cX5_init 0 = .ok (.aload_n 0, 1) := by decide +kernel
theorem dX5_init_1 : decode cX5_init 1 = .ok (.bipush 100, 2) := by decide +kernel
theorem dX5_init_3 : decode cX5_init 3 = .ok (.invokespecial 3, 3) := by decide +kernel
theorem dX5_init_6 : decode cX5_init 6 = .ok (.aload_n 0, 1) := by decide +kernel
theorem dX5_init_7 : decode cX5_init 7 = .ok (.bipush 100, 2) := by decide +kernel
theorem dX5_init_9 : decode cX5_init 9 = .ok (.newarray .int, 2) := by decide +kernel
theorem dX5_init_11 : decode cX5_init 11 = .ok (.putfield 9, 3) := by decide +kernel
theorem dX5_init_14 : decode cX5_init 14 = .ok (.aload_n 0, 1) := by decide +kernel
theorem dX5_init_15 : decode cX5_init 15 = .ok (.bipush 100, 2) := by decide +kernel
theorem dX5_init_17 : decode cX5_init 17 = .ok (.newarray .int, 2) := by decide +kernel
theorem dX5_init_19 : decode cX5_init 19 = .ok (.putfield 15, 3) := by decide +kernel
theorem dX5_init_22 : decode cX5_init 22 = .ok (.return_, 1) := by decide +kernel
theorem dX5_add_0 : decode cX5_add 0 = .ok (.aload_n 0, 1) := by decide +kernel
theorem dX5_add_1 : decode cX5_add 1 = .ok (.getfield 18, 3) := by decide +kernel
theorem dX5_add_4 : decode cX5_add 4 = .ok (.aload_n 0, 1) := by decide +kernel
theorem dX5_add_5 : decode cX5_add 5 = .ok (.getfield 22, 3) := by decide +kernel
theorem dX5_add_8 : decode cX5_add 8 = .ok (.if_icmp .lt 4, 3) := by decide +kernel
theorem dX5_add_11 : decode cX5_add 11 = .ok (.return_, 1) := by decide +kernel
theorem dX5_add_12 : decode cX5_add 12 = .ok (.aload_n 0, 1) := by decide +kernel
theorem dX5_add_13 : decode cX5_add 13 = .ok (.getfield 9, 3) := by decide +kernel
theorem dX5_add_16 : decode cX5_add 16 = .ok (.aload_n 0, 1) := by decide +kernel
theorem dX5_add_17 : decode cX5_add 17 = .ok (.getfield 18, 3) := by decide +kernel
theorem dX5_add_20 : decode cX5_add 20 = .ok (.iload_n 1, 1) := by decide +kernel
theorem dX5_add_21 : decode cX5_add 21 = .ok (.iastore, 1) := by decide +kernel
theorem dX5_add_22 : decode cX5_add 22 = .ok (.aload_n 0, 1) := by decide +kernel
theorem dX5_add_23 : decode cX5_add 23 = .ok (.getfield 15, 3) := by decide +kernel
theorem dX5_add_26 : decode cX5_add 26 = .ok (.aload_n 0, 1) := by decide +kernel
theorem dX5_add_27 : decode cX5_add 27 = .ok (.getfield 18, 3) := by decide +kernel
theorem dX5_add_30 : decode cX5_add 30 = .ok (.iload_n 2, 1) := by decide +kernel
theorem dX5_add_31 : decode cX5_add 31 = .ok (.iastore, 1) := by decide +kernel
theorem dX5_add_32 : decode cX5_add 32 = .ok (.aload_n 0, 1) := by decide +kernel
theorem dX5_add_33 : decode cX5_add 33 = .ok (.dup, 1) := by decide +kernel
theorem dX5_add_34 : decode cX5_add 34 = .ok (.getfield 18, 3) := by decide +kernel
theorem dX5_add_37 : decode cX5_add 37 = .ok (.iconst 1, 1) := by decide +kernel
theorem dX5_add_38 : decode cX5_add 38 = .ok (.iadd, 1) := by decide +kernel
theorem dX5_add_39 : decode cX5_add 39 = .ok (.putfield 18, 3) := by decide +kernel
theorem dX5_add_42 : decode cX5_add 42 = .ok (.return_, 1) := by decide +kernel
theorem dX6_init_0 : decode cX6_init 0 = .ok (.aload_n 0, 1) := by decide +kernel
theorem dX6_init_1 : decode cX6_init 1 = .ok (.sipush 200, 3) := by decide +kernel
theorem dX6_init_4 : decode cX6_init 4 = .ok (.invokespecial 3, 3) := by decide +kernel
theorem dX6_init_7 : decode cX6_init 7 = .ok (.aload_n 0, 1) := by decide +kernel
theorem dX6_init_8 : decode cX6_init 8 = .ok (.sipush 200, 3) := by decide +kernel
theorem dX6_init_11 : decode cX6_init 11 = .ok (.newarray .int, 2) := by decide +kernel
theorem dX6_init_13 : decode cX6_init 13 = .ok (.putfield 9, 3) := by decide +kernel
theorem dX6_init_16 : decode cX6_init 16 = .ok (.aload_n 0, 1) := by decide +kernel
theorem dX6_init_17 : decode cX6_init 17 = .ok (.sipush 200, 3) := by decide +kernel
theorem dX6_init_20 : decode cX6_init 20 = .ok (.newarray .int, 2) := by decide +kernel
theorem dX6_init_22 : decode cX6_init 22 = .ok (.putfield 15, 3) := by decide +kernel
theorem dX6_init_25 : decode cX6_init 25 = .ok (.aload_n 0, 1) := by decide +kernel
theorem dX6_init_26 : decode cX6_init 26 = .ok (.sipush 200, 3) := by decide +kernel
theorem dX6_init_29 : decode cX6_init 29 = .ok (.newarray .long, 2) := by decide +kernel
theorem dX6_init_31 : decode cX6_init 31 = .ok (.putfield 18, 3) := by decide +kernel
theorem dX6_init_34 : decode cX6_init 34 = .ok (.return_, 1) := by decide +kernel
theorem dX6_add_0 : decode cX6_add 0 = .ok (.aload_n 0, 1) := by decide +kernel
theorem dX6_add_1 : decode cX6_add 1 = .ok (.getfield 22, 3) := by decide +kernel
theorem dX6_add_4 : decode cX6_add 4 = .ok (.aload_n 0, 1) := by decide +kernel
theorem dX6_add_5 : decode cX6_add 5 = .ok (.getfield 26, 3) := by decide +kernel
theorem dX6_add_8 : decode cX6_add 8 = .ok (.if_icmp .lt 4, 3) := by decide +kernel
theorem dX6_add_11 : decode cX6_add 11 = .ok (.return_, 1) := by decide +kernel
theorem dX6_add_12 : decode cX6_add 12 = .ok (.aload_n 0, 1) := by decide +kernel
theorem dX6_add_13 : decode cX6_add 13 = .ok (.getfield 9, 3) := by decide +kernel
theorem dX6_add_16 : decode cX6_add 16 = .ok (.aload_n 0, 1) := by decide +kernel
theorem dX6_add_17 : decode cX6_add 17 = .ok (.getfield 22, 3) := by decide +kernel
theorem dX6_add_20 : decode cX6_add 20 = .ok (.iload_n 1, 1) := by decide +kernel
theorem dX6_add_21 : decode cX6_add 21 = .ok (.iastore, 1) := by decide +kernel
theorem dX6_add_22 : decode cX6_add 22 = .ok (.aload_n 0, 1) := by decide +kernel
theorem dX6_add_23 : decode cX6_add 23 = .ok (.getfield 15, 3) := by decide +kernel
theorem dX6_add_26 : decode cX6_add 26 = .ok (.aload_n 0, 1) := by decide +kernel
theorem dX6_add_27 : decode cX6_add 27 = .ok (.getfield 22, 3) := by decide +kernel
theorem dX6_add_30 : decode cX6_add 30 = .ok (.iload_n 2, 1) := by decide +kernel
theorem dX6_add_31 : decode cX6_add 31 = .ok (.iastore, 1) := by decide +kernel
theorem dX6_add_32 : decode cX6_add 32 = .ok (.aload_n 0, 1) := by decide +kernel
theorem dX6_add_33 : decode cX6_add 33 = .ok (.getfield 18, 3) := by decide +kernel
theorem dX6_add_36 : decode cX6_add 36 = .ok (.aload_n 0, 1) := by decide +kernel
theorem dX6_add_37 : decode cX6_add 37 = .ok (.getfield 22, 3) := by decide +kernel
theorem dX6_add_40 : decode cX6_add 40 = .ok (.lload_n 3, 1) := by decide +kernel
theorem dX6_add_41 : decode cX6_add 41 = .ok (.lastore, 1) := by decide +kernel
theorem dX6_add_42 : decode cX6_add 42 = .ok (.aload_n 0, 1) := by decide +kernel
theorem dX6_add_43 : decode cX6_add 43 = .ok (.dup, 1) := by decide +kernel
theorem dX6_add_44 : decode cX6_add 44 = .ok (.getfield 22, 3) := by decide +kernel
theorem dX6_add_47 : decode cX6_add 47 = .ok (.iconst 1, 1) := by decide +kernel
theorem dX6_add_48 : decode cX6_add 48 = .ok (.iadd, 1) := by decide +kernel
theorem dX6_add_49 : decode cX6_add 49 = .ok (.putfield 22, 3) := by decide +kernel
theorem dX6_add_52 : decode cX6_add 52 = .ok (.return_, 1) := by decide +kernel
theorem dX6_exhibits_0 : decode cX6_exhibits 0 = .ok (.iconst 0, 1) := by decide +kernel
theorem dX6_exhibits_1 : decode cX6_exhibits 1 = .ok (.istore_n 1, 1) := by decide +kernel
theorem dX6_exhibits_2 : decode cX6_exhibits 2 = .ok (.iconst 0, 1) := by decide +kernel
theorem dX6_exhibits_3 : decode cX6_exhibits 3 = .ok (.istore_n 2, 1) := by decide +kernel
theorem dX6_exhibits_4 : decode cX6_exhibits 4 = .ok (.iload_n 2, 1) := by decide +kernel
theorem dX6_exhibits_5 : decode cX6_exhibits 5 = .ok (.aload_n 0, 1) := by decide +kernel
theorem dX6_exhibits_6 : decode cX6_exhibits 6 = .ok (.getfield 22, 3) := by decide +kernel
theorem dX6_exhibits_9 : decode cX6_exhibits 9 = .ok (.if_icmp .ge 22, 3) := by decide +kernel
theorem dX6_exhibits_12 : decode cX6_exhibits 12 = .ok (.iload_n 1, 1) := by decide +kernel
theorem dX6_exhibits_13 : decode cX6_exhibits 13 = .ok (.aload_n 0, 1) := by decide +kernel
theorem dX6_exhibits_14 : decode cX6_exhibits 14 = .ok (.getfield 15, 3) := by decide +kernel
theorem dX6_exhibits_17 : decode cX6_exhibits 17 = .ok (.iload_n 2, 1) := by decide +kernel
theorem dX6_exhibits_18 : decode cX6_exhibits 18 = .ok (.iaload, 1) := by decide +kernel
theorem dX6_exhibits_19 : decode cX6_exhibits 19 = .ok (.iconst 1, 1) := by decide +kernel
theorem dX6_exhibits_20 : decode cX6_exhibits 20 = .ok (.iadd, 1) := by decide +kernel
theorem dX6_exhibits_21 : decode cX6_exhibits 21 = .ok (.invokestatic 29, 3) := by decide +kernel
theorem dX6_exhibits_24 : decode cX6_exhibits 24 = .ok (.istore_n 1, 1) := by decide +kernel
theorem dX6_exhibits_25 : decode cX6_exhibits 25 = .ok (.iinc 2 1, 3) := by decide +kernel
theorem dX6_exhibits_28 : decode cX6_exhibits 28 = .ok (.goto (-24), 3) := by decide +kernel
theorem dX6_exhibits_31 : decode cX6_exhibits 31 = .ok (.iload_n 1, 1) := by decide +kernel
theorem dX6_exhibits_32 : decode cX6_exhibits 32 = .ok (.ireturn, 1) := by decide +kernel
theorem dX6_holder_0 : decode cX6_holder 0 = .ok (.iconst (-1), 1) := by decide +kernel
theorem dX6_holder_1 : decode cX6_holder 1 = .ok (.istore 4, 2) := by decide +kernel
theorem dX6_holder_3 : decode cX6_holder 3 = .ok (.iconst 0, 1) := by decide +kernel
theorem dX6_holder_4 : decode cX6_holder 4 = .ok (.istore 5, 2) := by decide +kernel
theorem dX6_holder_6 : decode cX6_holder 6 = .ok (.iload 5, 2) := by decide +kernel
theorem dX6_holder_8 : decode cX6_holder 8 = .ok (.aload_n 0, 1) := by decide +kernel
theorem dX6_holder_9 : decode cX6_holder 9 = .ok (.getfield 22, 3) := by decide +kernel
theorem dX6_holder_12 : decode cX6_holder 12 = .ok (.if_icmp .ge 59, 3) := by decide +kernel
theorem dX6_holder_15 : decode cX6_holder 15 = .ok (.aload_n 0, 1) := by decide +kernel
theorem dX6_holder_16 : decode cX6_holder 16 = .ok (.getfield 9, 3) := by decide +kernel
theorem dX6_holder_19 : decode cX6_holder 19 = .ok (.iload 5, 2) := by decide +kernel
theorem dX6_holder_21 : decode cX6_holder 21 = .ok (.iaload, 1) := by decide +kernel
theorem dX6_holder_22 : decode cX6_holder 22 = .ok (.iload_n 3, 1) := by decide +kernel
theorem dX6_holder_23 : decode cX6_holder 23 = .ok (.if_icmp .gt 48, 3) := by decide +kernel
theorem dX6_holder_26 : decode cX6_holder 26 = .ok (.aload_n 0, 1) := by decide +kernel
theorem dX6_holder_27 : decode cX6_holder 27 = .ok (.getfield 18, 3) := by decide +kernel
theorem dX6_holder_30 : decode cX6_holder 30 = .ok (.iload 5, 2) := by decide +kernel
theorem dX6_holder_32 : decode cX6_holder 32 = .ok (.laload, 1) := by decide +kernel
theorem dX6_holder_33 : decode cX6_holder 33 = .ok (.lload_n 1, 1) := by decide +kernel
theorem dX6_holder_34 : decode cX6_holder 34 = .ok (.lcmp, 1) := by decide +kernel
theorem dX6_holder_35 : decode cX6_holder 35 = .ok (.ifCond .ne 15, 3) := by decide +kernel
theorem dX6_holder_38 : decode cX6_holder 38 = .ok (.aload_n 0, 1) := by decide +kernel
theorem dX6_holder_39 : decode cX6_holder 39 = .ok (.getfield 15, 3) := by decide +kernel
theorem dX6_holder_42 : decode cX6_holder 42 = .ok (.iload 5, 2) := by decide +kernel
theorem dX6_holder_44 : decode cX6_holder 44 = .ok (.iaload, 1) := by decide +kernel
theorem dX6_holder_45 : decode cX6_holder 45 = .ok (.istore 4, 2) := by decide +kernel
theorem dX6_holder_47 : decode cX6_holder 47 = .ok (.goto 18, 3) := by decide +kernel
theorem dX6_holder_50 : decode cX6_holder 50 = .ok (.aload_n 0, 1) := by decide +kernel
theorem dX6_holder_51 : decode cX6_holder 51 = .ok (.getfield 15, 3) := by decide +kernel
theorem dX6_holder_54 : decode cX6_holder 54 = .ok (.iload 5, 2) := by decide +kernel
theorem dX6_holder_56 : decode cX6_holder 56 = .ok (.iaload, 1) := by decide +kernel
theorem dX6_holder_57 : decode cX6_holder 57 = .ok (.iload 4, 2) := by decide +kernel
theorem dX6_holder_59 : decode cX6_holder 59 = .ok (.if_icmp .ne 6, 3) := by decide +kernel
theorem dX6_holder_62 : decode cX6_holder 62 = .ok (.iconst (-1), 1) := by decide +kernel
theorem dX6_holder_63 : decode cX6_holder 63 = .ok (.istore 4, 2) := by decide +kernel
theorem dX6_holder_65 : decode cX6_holder 65 = .ok (.iinc 5 1, 3) := by decide +kernel
theorem dX6_holder_68 : decode cX6_holder 68 = .ok (.goto (-62), 3) := by decide +kernel
theorem dX6_holder_71 : decode cX6_holder 71 = .ok (.iload 4, 2) := by decide +kernel
theorem dX6_holder_73 : decode cX6_holder 73 = .ok (.ireturn, 1) := by decide +kernel
theorem dX6_nameOf_0 : decode cX6_nameOf 0 = .ok (.lconst 0, 1) := by decide +kernel
theorem dX6_nameOf_1 : decode cX6_nameOf 1 = .ok (.lstore_n 3, 1) := by decide +kernel
theorem dX6_nameOf_2 : decode cX6_nameOf 2 = .ok (.iconst 0, 1) := by decide +kernel
theorem dX6_nameOf_3 : decode cX6_nameOf 3 = .ok (.istore 5, 2) := by decide +kernel
theorem dX6_nameOf_5 : decode cX6_nameOf 5 = .ok (.iload 5, 2) := by decide +kernel
theorem dX6_nameOf_7 : decode cX6_nameOf 7 = .ok (.aload_n 0, 1) := by decide +kernel
theorem dX6_nameOf_8 : decode cX6_nameOf 8 = .ok (.getfield 22, 3) := by decide +kernel
theorem dX6_nameOf_11 : decode cX6_nameOf 11 = .ok (.if_icmp .ge 39, 3) := by decide +kernel
theorem dX6_nameOf_14 : decode cX6_nameOf 14 = .ok (.aload_n 0, 1) := by decide +kernel
theorem dX6_nameOf_15 : decode cX6_nameOf 15 = .ok (.getfield 9, 3) := by decide +kernel
theorem dX6_nameOf_18 : decode cX6_nameOf 18 = .ok (.iload 5, 2) := by decide +kernel
theorem dX6_nameOf_20 : decode cX6_nameOf 20 = .ok (.iaload, 1) := by decide +kernel
theorem dX6_nameOf_21 : decode cX6_nameOf 21 = .ok (.iload_n 2, 1) := by decide +kernel
theorem dX6_nameOf_22 : decode cX6_nameOf 22 = .ok (.if_icmp .gt 28, 3) := by decide +kernel
theorem dX6_nameOf_25 : decode cX6_nameOf 25 = .ok (.aload_n 0, 1) := by decide +kernel
theorem dX6_nameOf_26 : decode cX6_nameOf 26 = .ok (.getfield 15, 3) := by decide +kernel
theorem dX6_nameOf_29 : decode cX6_nameOf 29 = .ok (.iload 5, 2) := by decide +kernel
theorem dX6_nameOf_31 : decode cX6_nameOf 31 = .ok (.iaload, 1) := by decide +kernel
theorem dX6_nameOf_32 : decode cX6_nameOf 32 = .ok (.iload_n 1, 1) := by decide +kernel
theorem dX6_nameOf_33 : decode cX6_nameOf 33 = .ok (.if_icmp .ne 11, 3) := by decide +kernel
theorem dX6_nameOf_36 : decode cX6_nameOf 36 = .ok (.aload_n 0, 1) := by decide +kernel
theorem dX6_nameOf_37 : decode cX6_nameOf 37 = .ok (.getfield 18, 3) := by decide +kernel
theorem dX6_nameOf_40 : decode cX6_nameOf 40 = .ok (.iload 5, 2) := by decide +kernel
theorem dX6_nameOf_42 : decode cX6_nameOf 42 = .ok (.laload, 1) := by decide +kernel
theorem dX6_nameOf_43 : decode cX6_nameOf 43 = .ok (.lstore_n 3, 1) := by decide +kernel
theorem dX6_nameOf_44 : decode cX6_nameOf 44 = .ok (.iinc 5 1, 3) := by decide +kernel
theorem dX6_nameOf_47 : decode cX6_nameOf 47 = .ok (.goto (-42), 3) := by decide +kernel
theorem dX6_nameOf_50 : decode cX6_nameOf 50 = .ok (.lload_n 3, 1) := by decide +kernel
theorem dX6_nameOf_51 : decode cX6_nameOf 51 = .ok (.lreturn, 1) := by decide +kernel
theorem dX7_init_0 : decode cX7_init 0 = .ok (.aload_n 0, 1) := by decide +kernel
theorem dX7_init_1 : decode cX7_init 1 = .ok (.bipush 60, 2) := by decide +kernel
theorem dX7_init_3 : decode cX7_init 3 = .ok (.invokespecial 3, 3) := by decide +kernel
theorem dX7_init_6 : decode cX7_init 6 = .ok (.aload_n 0, 1) := by decide +kernel
theorem dX7_init_7 : decode cX7_init 7 = .ok (.bipush 60, 2) := by decide +kernel
theorem dX7_init_9 : decode cX7_init 9 = .ok (.newarray .int, 2) := by decide +kernel
theorem dX7_init_11 : decode cX7_init 11 = .ok (.putfield 9, 3) := by decide +kernel
theorem dX7_init_14 : decode cX7_init 14 = .ok (.aload_n 0, 1) := by decide +kernel
theorem dX7_init_15 : decode cX7_init 15 = .ok (.bipush 60, 2) := by decide +kernel
theorem dX7_init_17 : decode cX7_init 17 = .ok (.newarray .int, 2) := by decide +kernel
theorem dX7_init_19 : decode cX7_init 19 = .ok (.putfield 15, 3) := by decide +kernel
theorem dX7_init_22 : decode cX7_init 22 = .ok (.aload_n 0, 1) := by decide +kernel
theorem dX7_init_23 : decode cX7_init 23 = .ok (.bipush 60, 2) := by decide +kernel
theorem dX7_init_25 : decode cX7_init 25 = .ok (.newarray .int, 2) := by decide +kernel
theorem dX7_init_27 : decode cX7_init 27 = .ok (.putfield 18, 3) := by decide +kernel
theorem dX7_init_30 : decode cX7_init 30 = .ok (.aload_n 0, 1) := by decide +kernel
theorem dX7_init_31 : decode cX7_init 31 = .ok (.bipush 60, 2) := by decide +kernel
theorem dX7_init_33 : decode cX7_init 33 = .ok (.newarray .int, 2) := by decide +kernel
theorem dX7_init_35 : decode cX7_init 35 = .ok (.putfield 21, 3) := by decide +kernel
theorem dX7_init_38 : decode cX7_init 38 = .ok (.aload_n 0, 1) := by decide +kernel
theorem dX7_init_39 : decode cX7_init 39 = .ok (.bipush 60, 2) := by decide +kernel
theorem dX7_init_41 : decode cX7_init 41 = .ok (.newarray .int, 2) := by decide +kernel
theorem dX7_init_43 : decode cX7_init 43 = .ok (.putfield 24, 3) := by decide +kernel
theorem dX7_init_46 : decode cX7_init 46 = .ok (.return_, 1) := by decide +kernel
theorem dX7_add_0 : decode cX7_add 0 = .ok (.aload_n 0, 1) := by decide +kernel
theorem dX7_add_1 : decode cX7_add 1 = .ok (.getfield 27, 3) := by decide +kernel
theorem dX7_add_4 : decode cX7_add 4 = .ok (.aload_n 0, 1) := by decide +kernel
theorem dX7_add_5 : decode cX7_add 5 = .ok (.getfield 31, 3) := by decide +kernel
theorem dX7_add_8 : decode cX7_add 8 = .ok (.if_icmp .lt 5, 3) := by decide +kernel
theorem dX7_add_11 : decode cX7_add 11 = .ok (.iconst (-1), 1) := by decide +kernel
theorem dX7_add_12 : decode cX7_add 12 = .ok (.ireturn, 1) := by decide +kernel
theorem dX7_add_13 : decode cX7_add 13 = .ok (.aload_n 0, 1) := by decide +kernel
theorem dX7_add_14 : decode cX7_add 14 = .ok (.getfield 9, 3) := by decide +kernel
theorem dX7_add_17 : decode cX7_add 17 = .ok (.aload_n 0, 1) := by decide +kernel
theorem dX7_add_18 : decode cX7_add 18 = .ok (.getfield 27, 3) := by decide +kernel
theorem dX7_add_21 : decode cX7_add 21 = .ok (.iload_n 1, 1) := by decide +kernel
theorem dX7_add_22 : decode cX7_add 22 = .ok (.iastore, 1) := by decide +kernel
theorem dX7_add_23 : decode cX7_add 23 = .ok (.aload_n 0, 1) := by decide +kernel
theorem dX7_add_24 : decode cX7_add 24 = .ok (.getfield 15, 3) := by decide +kernel
theorem dX7_add_27 : decode cX7_add 27 = .ok (.aload_n 0, 1) := by decide +kernel
theorem dX7_add_28 : decode cX7_add 28 = .ok (.getfield 27, 3) := by decide +kernel
theorem dX7_add_31 : decode cX7_add 31 = .ok (.iload_n 2, 1) := by decide +kernel
theorem dX7_add_32 : decode cX7_add 32 = .ok (.iastore, 1) := by decide +kernel
theorem dX7_add_33 : decode cX7_add 33 = .ok (.aload_n 0, 1) := by decide +kernel
theorem dX7_add_34 : decode cX7_add 34 = .ok (.getfield 18, 3) := by decide +kernel
theorem dX7_add_37 : decode cX7_add 37 = .ok (.aload_n 0, 1) := by decide +kernel
theorem dX7_add_38 : decode cX7_add 38 = .ok (.getfield 27, 3) := by decide +kernel
theorem dX7_add_41 : decode cX7_add 41 = .ok (.iload_n 3, 1) := by decide +kernel
theorem dX7_add_42 : decode cX7_add 42 = .ok (.iastore, 1) := by decide +kernel
