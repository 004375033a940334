theorem dX7_add_43 : decode cX7_add 43 = .ok (.aload_n 0, 1) := by decide +kernel
theorem dX7_add_44 : decode cX7_add 44 = .ok (.getfield 21, 3) := by decide +kernel
theorem dX7_add_47 : decode cX7_add 47 = .ok (.aload_n 0, 1) := by decide +kernel
theorem dX7_add_48 : decode cX7_add 48 = .ok (.getfield 27, 3) := by decide +kernel
theorem dX7_add_51 : decode cX7_add 51 = .ok (.iload 4, 2) := by decide +kernel
theorem dX7_add_53 : decode cX7_add 53 = .ok (.iastore, 1) := by decide +kernel
theorem dX7_add_54 : decode cX7_add 54 = .ok (.aload_n 0, 1) := by decide +kernel
theorem dX7_add_55 : decode cX7_add 55 = .ok (.getfield 24, 3) := by decide +kernel
theorem dX7_add_58 : decode cX7_add 58 = .ok (.aload_n 0, 1) := by decide +kernel
theorem dX7_add_59 : decode cX7_add 59 = .ok (.getfield 27, 3) := by decide +kernel
theorem dX7_add_62 : decode cX7_add 62 = .ok (.iconst (-1), 1) := by decide +kernel
theorem dX7_add_63 : decode cX7_add 63 = .ok (.iastore, 1) := by decide +kernel
theorem dX7_add_64 : decode cX7_add 64 = .ok (.aload_n 0, 1) := by decide +kernel
theorem dX7_add_65 : decode cX7_add 65 = .ok (.dup, 1) := by decide +kernel
theorem dX7_add_66 : decode cX7_add 66 = .ok (.getfield 27, 3) := by decide +kernel
theorem dX7_add_69 : decode cX7_add 69 = .ok (.iconst 1, 1) := by decide +kernel
theorem dX7_add_70 : decode cX7_add 70 = .ok (.iadd, 1) := by decide +kernel
theorem dX7_add_71 : decode cX7_add 71 = .ok (.putfield 27, 3) := by decide +kernel
theorem dX7_add_74 : decode cX7_add 74 = .ok (.aload_n 0, 1) := by decide +kernel
theorem dX7_add_75 : decode cX7_add 75 = .ok (.getfield 27, 3) := by decide +kernel
theorem dX7_add_78 : decode cX7_add 78 = .ok (.iconst 1, 1) := by decide +kernel
theorem dX7_add_79 : decode cX7_add 79 = .ok (.isub, 1) := by decide +kernel
theorem dX7_add_80 : decode cX7_add 80 = .ok (.ireturn, 1) := by decide +kernel
theorem dX7_liftOn_0 : decode cX7_liftOn 0 = .ok (.aload_n 0, 1) := by decide +kernel
theorem dX7_liftOn_1 : decode cX7_liftOn 1 = .ok (.getfield 24, 3) := by decide +kernel
theorem dX7_liftOn_4 : decode cX7_liftOn 4 = .ok (.iload_n 1, 1) := by decide +kernel
theorem dX7_liftOn_5 : decode cX7_liftOn 5 = .ok (.iaload, 1) := by decide +kernel
theorem dX7_liftOn_6 : decode cX7_liftOn 6 = .ok (.iconst (-1), 1) := by decide +kernel
theorem dX7_liftOn_7 : decode cX7_liftOn 7 = .ok (.if_icmp .eq 5, 3) := by decide +kernel
theorem dX7_liftOn_10 : decode cX7_liftOn 10 = .ok (.iconst 0, 1) := by decide +kernel
theorem dX7_liftOn_11 : decode cX7_liftOn 11 = .ok (.ireturn, 1) := by decide +kernel
theorem dX7_liftOn_12 : decode cX7_liftOn 12 = .ok (.aload_n 0, 1) := by decide +kernel
theorem dX7_liftOn_13 : decode cX7_liftOn 13 = .ok (.getfield 24, 3) := by decide +kernel
theorem dX7_liftOn_16 : decode cX7_liftOn 16 = .ok (.iload_n 1, 1) := by decide +kernel
theorem dX7_liftOn_17 : decode cX7_liftOn 17 = .ok (.iload_n 2, 1) := by decide +kernel
theorem dX7_liftOn_18 : decode cX7_liftOn 18 = .ok (.iastore, 1) := by decide +kernel
theorem dX7_liftOn_19 : decode cX7_liftOn 19 = .ok (.iconst 1, 1) := by decide +kernel
theorem dX7_liftOn_20 : decode cX7_liftOn 20 = .ok (.ireturn, 1) := by decide +kernel
theorem dX7_holds_0 : decode cX7_holds 0 = .ok (.aload_n 0, 1) := by decide +kernel
theorem dX7_holds_1 : decode cX7_holds 1 = .ok (.getfield 9, 3) := by decide +kernel
theorem dX7_holds_4 : decode cX7_holds 4 = .ok (.iload_n 1, 1) := by decide +kernel
theorem dX7_holds_5 : decode cX7_holds 5 = .ok (.iaload, 1) := by decide +kernel
theorem dX7_holds_6 : decode cX7_holds 6 = .ok (.iload_n 2, 1) := by decide +kernel
theorem dX7_holds_7 : decode cX7_holds 7 = .ok (.if_icmp .gt 47, 3) := by decide +kernel
theorem dX7_holds_10 : decode cX7_holds 10 = .ok (.iload_n 2, 1) := by decide +kernel
theorem dX7_holds_11 : decode cX7_holds 11 = .ok (.aload_n 0, 1) := by decide +kernel
theorem dX7_holds_12 : decode cX7_holds 12 = .ok (.getfield 15, 3) := by decide +kernel
theorem dX7_holds_15 : decode cX7_holds 15 = .ok (.iload_n 1, 1) := by decide +kernel
theorem dX7_holds_16 : decode cX7_holds 16 = .ok (.iaload, 1) := by decide +kernel
theorem dX7_holds_17 : decode cX7_holds 17 = .ok (.if_icmp .gt 37, 3) := by decide +kernel
theorem dX7_holds_20 : decode cX7_holds 20 = .ok (.aload_n 0, 1) := by decide +kernel
theorem dX7_holds_21 : decode cX7_holds 21 = .ok (.getfield 21, 3) := by decide +kernel
theorem dX7_holds_24 : decode cX7_holds 24 = .ok (.iload_n 1, 1) := by decide +kernel
theorem dX7_holds_25 : decode cX7_holds 25 = .ok (.iaload, 1) := by decide +kernel
theorem dX7_holds_26 : decode cX7_holds 26 = .ok (.iload_n 3, 1) := by decide +kernel
theorem dX7_holds_27 : decode cX7_holds 27 = .ok (.if_icmp .gt 27, 3) := by decide +kernel
theorem dX7_holds_30 : decode cX7_holds 30 = .ok (.aload_n 0, 1) := by decide +kernel
theorem dX7_holds_31 : decode cX7_holds 31 = .ok (.getfield 24, 3) := by decide +kernel
theorem dX7_holds_34 : decode cX7_holds 34 = .ok (.iload_n 1, 1) := by decide +kernel
theorem dX7_holds_35 : decode cX7_holds 35 = .ok (.iaload, 1) := by decide +kernel
theorem dX7_holds_36 : decode cX7_holds 36 = .ok (.iconst (-1), 1) := by decide +kernel
theorem dX7_holds_37 : decode cX7_holds 37 = .ok (.if_icmp .eq 13, 3) := by decide +kernel
theorem dX7_holds_40 : decode cX7_holds 40 = .ok (.aload_n 0, 1) := by decide +kernel
theorem dX7_holds_41 : decode cX7_holds 41 = .ok (.getfield 24, 3) := by decide +kernel
theorem dX7_holds_44 : decode cX7_holds 44 = .ok (.iload_n 1, 1) := by decide +kernel
theorem dX7_holds_45 : decode cX7_holds 45 = .ok (.iaload, 1) := by decide +kernel
theorem dX7_holds_46 : decode cX7_holds 46 = .ok (.iload_n 3, 1) := by decide +kernel
theorem dX7_holds_47 : decode cX7_holds 47 = .ok (.if_icmp .le 7, 3) := by decide +kernel
theorem dX7_holds_50 : decode cX7_holds 50 = .ok (.iconst 1, 1) := by decide +kernel
theorem dX7_holds_51 : decode cX7_holds 51 = .ok (.goto 4, 3) := by decide +kernel
theorem dX7_holds_54 : decode cX7_holds 54 = .ok (.iconst 0, 1) := by decide +kernel
theorem dX7_holds_55 : decode cX7_holds 55 = .ok (.ireturn, 1) := by decide +kernel
theorem dX7_strike_0 : decode cX7_strike 0 = .ok (.iconst 0, 1) := by decide +kernel
theorem dX7_strike_1 : decode cX7_strike 1 = .ok (.istore_n 3, 1) := by decide +kernel
theorem dX7_strike_2 : decode cX7_strike 2 = .ok (.iload_n 3, 1) := by decide +kernel
theorem dX7_strike_3 : decode cX7_strike 3 = .ok (.aload_n 0, 1) := by decide +kernel
theorem dX7_strike_4 : decode cX7_strike 4 = .ok (.getfield 27, 3) := by decide +kernel
theorem dX7_strike_7 : decode cX7_strike 7 = .ok (.if_icmp .ge 30, 3) := by decide +kernel
theorem dX7_strike_10 : decode cX7_strike 10 = .ok (.aload_n 0, 1) := by decide +kernel
theorem dX7_strike_11 : decode cX7_strike 11 = .ok (.getfield 18, 3) := by decide +kernel
theorem dX7_strike_14 : decode cX7_strike 14 = .ok (.iload_n 3, 1) := by decide +kernel
theorem dX7_strike_15 : decode cX7_strike 15 = .ok (.iaload, 1) := by decide +kernel
theorem dX7_strike_16 : decode cX7_strike 16 = .ok (.ifCond .ne 15, 3) := by decide +kernel
theorem dX7_strike_19 : decode cX7_strike 19 = .ok (.aload_n 0, 1) := by decide +kernel
theorem dX7_strike_20 : decode cX7_strike 20 = .ok (.iload_n 3, 1) := by decide +kernel
theorem dX7_strike_21 : decode cX7_strike 21 = .ok (.iload_n 1, 1) := by decide +kernel
theorem dX7_strike_22 : decode cX7_strike 22 = .ok (.iload_n 2, 1) := by decide +kernel
theorem dX7_strike_23 : decode cX7_strike 23 = .ok (.invokevirtual 34, 3) := by decide +kernel
theorem dX7_strike_26 : decode cX7_strike 26 = .ok (.ifCond .eq 5, 3) := by decide +kernel
theorem dX7_strike_29 : decode cX7_strike 29 = .ok (.iconst 1, 1) := by decide +kernel
theorem dX7_strike_30 : decode cX7_strike 30 = .ok (.ireturn, 1) := by decide +kernel
theorem dX7_strike_31 : decode cX7_strike 31 = .ok (.iinc 3 1, 3) := by decide +kernel
theorem dX7_strike_34 : decode cX7_strike 34 = .ok (.goto (-32), 3) := by decide +kernel
theorem dX7_strike_37 : decode cX7_strike 37 = .ok (.iconst 0, 1) := by decide +kernel
theorem dX7_strike_38 : decode cX7_strike 38 = .ok (.ireturn, 1) := by decide +kernel
theorem dX7_levelOf_0 : decode cX7_levelOf 0 = .ok (.iconst 0, 1) := by decide +kernel
theorem dX7_levelOf_1 : decode cX7_levelOf 1 = .ok (.istore_n 3, 1) := by decide +kernel
theorem dX7_levelOf_2 : decode cX7_levelOf 2 = .ok (.iconst 0, 1) := by decide +kernel
theorem dX7_levelOf_3 : decode cX7_levelOf 3 = .ok (.istore 4, 2) := by decide +kernel
theorem dX7_levelOf_5 : decode cX7_levelOf 5 = .ok (.iload 4, 2) := by decide +kernel
theorem dX7_levelOf_7 : decode cX7_levelOf 7 = .ok (.aload_n 0, 1) := by decide +kernel
theorem dX7_levelOf_8 : decode cX7_levelOf 8 = .ok (.getfield 27, 3) := by decide +kernel
theorem dX7_levelOf_11 : decode cX7_levelOf 11 = .ok (.if_icmp .ge 39, 3) := by decide +kernel
theorem dX7_levelOf_14 : decode cX7_levelOf 14 = .ok (.aload_n 0, 1) := by decide +kernel
theorem dX7_levelOf_15 : decode cX7_levelOf 15 = .ok (.getfield 18, 3) := by decide +kernel
theorem dX7_levelOf_18 : decode cX7_levelOf 18 = .ok (.iload 4, 2) := by decide +kernel
theorem dX7_levelOf_20 : decode cX7_levelOf 20 = .ok (.iaload, 1) := by decide +kernel
theorem dX7_levelOf_21 : decode cX7_levelOf 21 = .ok (.iload_n 3, 1) := by decide +kernel
theorem dX7_levelOf_22 : decode cX7_levelOf 22 = .ok (.if_icmp .le 22, 3) := by decide +kernel
theorem dX7_levelOf_25 : decode cX7_levelOf 25 = .ok (.aload_n 0, 1) := by decide +kernel
theorem dX7_levelOf_26 : decode cX7_levelOf 26 = .ok (.iload 4, 2) := by decide +kernel
theorem dX7_levelOf_28 : decode cX7_levelOf 28 = .ok (.iload_n 1, 1) := by decide +kernel
theorem dX7_levelOf_29 : decode cX7_levelOf 29 = .ok (.iload_n 2, 1) := by decide +kernel
theorem dX7_levelOf_30 : decode cX7_levelOf 30 = .ok (.invokevirtual 34, 3) := by decide +kernel
theorem dX7_levelOf_33 : decode cX7_levelOf 33 = .ok (.ifCond .eq 11, 3) := by decide +kernel
theorem dX7_levelOf_36 : decode cX7_levelOf 36 = .ok (.aload_n 0, 1) := by decide +kernel
theorem dX7_levelOf_37 : decode cX7_levelOf 37 = .ok (.getfield 18, 3) := by decide +kernel
theorem dX7_levelOf_40 : decode cX7_levelOf 40 = .ok (.iload 4, 2) := by decide +kernel
theorem dX7_levelOf_42 : decode cX7_levelOf 42 = .ok (.iaload, 1) := by decide +kernel
theorem dX7_levelOf_43 : decode cX7_levelOf 43 = .ok (.istore_n 3, 1) := by decide +kernel
theorem dX7_levelOf_44 : decode cX7_levelOf 44 = .ok (.iinc 4 1, 3) := by decide +kernel
theorem dX7_levelOf_47 : decode cX7_levelOf 47 = .ok (.goto (-42), 3) := by decide +kernel
theorem dX7_levelOf_50 : decode cX7_levelOf 50 = .ok (.iload_n 3, 1) := by decide +kernel
theorem dX7_levelOf_51 : decode cX7_levelOf 51 = .ok (.ireturn, 1) := by decide +kernel
theorem dX8_init_0 : decode cX8_init 0 = .ok (.aload_n 0, 1) := by decide +kernel
theorem dX8_init_1 : decode cX8_init 1 = .ok (.sipush 300, 3) := by decide +kernel
theorem dX8_init_4 : decode cX8_init 4 = .ok (.invokespecial 5, 3) := by decide +kernel
theorem dX8_init_7 : decode cX8_init 7 = .ok (.aload_n 0, 1) := by decide +kernel
theorem dX8_init_8 : decode cX8_init 8 = .ok (.new 11, 3) := by decide +kernel
theorem dX8_init_11 : decode cX8_init 11 = .ok (.dup, 1) := by decide +kernel
theorem dX8_init_12 : decode cX8_init 12 = .ok (.sipush 17400, 3) := by decide +kernel
theorem dX8_init_15 : decode cX8_init 15 = .ok (.invokespecial 13, 3) := by decide +kernel
theorem dX8_init_18 : decode cX8_init 18 = .ok (.putfield 14, 3) := by decide +kernel
theorem dX8_init_21 : decode cX8_init 21 = .ok (.aload_n 0, 1) := by decide +kernel
theorem dX8_init_22 : decode cX8_init 22 = .ok (.sipush 200, 3) := by decide +kernel
theorem dX8_init_25 : decode cX8_init 25 = .ok (.newarray .int, 2) := by decide +kernel
theorem dX8_init_27 : decode cX8_init 27 = .ok (.putfield 18, 3) := by decide +kernel
theorem dX8_init_30 : decode cX8_init 30 = .ok (.aload_n 0, 1) := by decide +kernel
theorem dX8_init_31 : decode cX8_init 31 = .ok (.sipush 300, 3) := by decide +kernel
theorem dX8_init_34 : decode cX8_init 34 = .ok (.newarray .int, 2) := by decide +kernel
theorem dX8_init_36 : decode cX8_init 36 = .ok (.putfield 22, 3) := by decide +kernel
theorem dX8_init_39 : decode cX8_init 39 = .ok (.aload_n 0, 1) := by decide +kernel
theorem dX8_init_40 : decode cX8_init 40 = .ok (.sipush 300, 3) := by decide +kernel
theorem dX8_init_43 : decode cX8_init 43 = .ok (.newarray .int, 2) := by decide +kernel
theorem dX8_init_45 : decode cX8_init 45 = .ok (.putfield 25, 3) := by decide +kernel
theorem dX8_init_48 : decode cX8_init 48 = .ok (.aload_n 0, 1) := by decide +kernel
theorem dX8_init_49 : decode cX8_init 49 = .ok (.sipush 300, 3) := by decide +kernel
theorem dX8_init_52 : decode cX8_init 52 = .ok (.newarray .int, 2) := by decide +kernel
theorem dX8_init_54 : decode cX8_init 54 = .ok (.putfield 28, 3) := by decide +kernel
theorem dX8_init_57 : decode cX8_init 57 = .ok (.aload_n 0, 1) := by decide +kernel
theorem dX8_init_58 : decode cX8_init 58 = .ok (.sipush 300, 3) := by decide +kernel
theorem dX8_init_61 : decode cX8_init 61 = .ok (.newarray .int, 2) := by decide +kernel
theorem dX8_init_63 : decode cX8_init 63 = .ok (.putfield 31, 3) := by decide +kernel
theorem dX8_init_66 : decode cX8_init 66 = .ok (.return_, 1) := by decide +kernel
theorem dX8_addFirst_0 : decode cX8_addFirst 0 = .ok (.aload_n 0, 1) := by decide +kernel
theorem dX8_addFirst_1 : decode cX8_addFirst 1 = .ok (.iload_n 1, 1) := by decide +kernel
theorem dX8_addFirst_2 : decode cX8_addFirst 2 = .ok (.iconst (-1), 1) := by decide +kernel
theorem dX8_addFirst_3 : decode cX8_addFirst 3 = .ok (.iconst 0, 1) := by decide +kernel
theorem dX8_addFirst_4 : decode cX8_addFirst 4 = .ok (.aload_n 2, 1) := by decide +kernel
theorem dX8_addFirst_5 : decode cX8_addFirst 5 = .ok (.iload_n 3, 1) := by decide +kernel
theorem dX8_addFirst_6 : decode cX8_addFirst 6 = .ok (.iload 4, 2) := by decide +kernel
theorem dX8_addFirst_8 : decode cX8_addFirst 8 = .ok (.invokevirtual 34, 3) := by decide +kernel
theorem dX8_addFirst_11 : decode cX8_addFirst 11 = .ok (.return_, 1) := by decide +kernel
theorem dX8_addRight_0 : decode cX8_addRight 0 = .ok (.aload_n 0, 1) := by decide +kernel
theorem dX8_addRight_1 : decode cX8_addRight 1 = .ok (.iload_n 1, 1) := by decide +kernel
theorem dX8_addRight_2 : decode cX8_addRight 2 = .ok (.aload_n 0, 1) := by decide +kernel
theorem dX8_addRight_3 : decode cX8_addRight 3 = .ok (.getfield 18, 3) := by decide +kernel
theorem dX8_addRight_6 : decode cX8_addRight 6 = .ok (.iload_n 1, 1) := by decide +kernel
theorem dX8_addRight_7 : decode cX8_addRight 7 = .ok (.iaload, 1) := by decide +kernel
theorem dX8_addRight_8 : decode cX8_addRight 8 = .ok (.iload_n 2, 1) := by decide +kernel
theorem dX8_addRight_9 : decode cX8_addRight 9 = .ok (.aload_n 3, 1) := by decide +kernel
theorem dX8_addRight_10 : decode cX8_addRight 10 = .ok (.iload 4, 2) := by decide +kernel
theorem dX8_addRight_12 : decode cX8_addRight 12 = .ok (.iload 5, 2) := by decide +kernel
theorem dX8_addRight_14 : decode cX8_addRight 14 = .ok (.invokevirtual 34, 3) := by decide +kernel
theorem dX8_addRight_17 : decode cX8_addRight 17 = .ok (.return_, 1) := by decide +kernel
theorem dX8_add_0 : decode cX8_add 0 = .ok (.aload_n 0, 1) := by decide +kernel
theorem dX8_add_1 : decode cX8_add 1 = .ok (.getfield 38, 3) := by decide +kernel
theorem dX8_add_4 : decode cX8_add 4 = .ok (.aload_n 0, 1) := by decide +kernel
theorem dX8_add_5 : decode cX8_add 5 = .ok (.getfield 42, 3) := by decide +kernel
theorem dX8_add_8 : decode cX8_add 8 = .ok (.if_icmp .lt 4, 3) := by decide +kernel
theorem dX8_add_11 : decode cX8_add 11 = .ok (.return_, 1) := by decide +kernel
theorem dX8_add_12 : decode cX8_add 12 = .ok (.aload_n 0, 1) := by decide +kernel
theorem dX8_add_13 : decode cX8_add 13 = .ok (.getfield 22, 3) := by decide +kernel
theorem dX8_add_16 : decode cX8_add 16 = .ok (.aload_n 0, 1) := by decide +kernel
theorem dX8_add_17 : decode cX8_add 17 = .ok (.getfield 38, 3) := by decide +kernel
theorem dX8_add_20 : decode cX8_add 20 = .ok (.iload_n 2, 1) := by decide +kernel
theorem dX8_add_21 : decode cX8_add 21 = .ok (.iastore, 1) := by decide +kernel
theorem dX8_add_22 : decode cX8_add 22 = .ok (.aload_n 0, 1) := by decide +kernel
theorem dX8_add_23 : decode cX8_add 23 = .ok (.getfield 25, 3) := by decide +kernel
theorem dX8_add_26 : decode cX8_add 26 = .ok (.aload_n 0, 1) := by decide +kernel
theorem dX8_add_27 : decode cX8_add 27 = .ok (.getfield 38, 3) := by decide +kernel
theorem dX8_add_30 : decode cX8_add 30 = .ok (.iload_n 3, 1) := by decide +kernel
theorem dX8_add_31 : decode cX8_add 31 = .ok (.iastore, 1) := by decide +kernel
theorem dX8_add_32 : decode cX8_add 32 = .ok (.aload_n 0, 1) := by decide +kernel
theorem dX8_add_33 : decode cX8_add 33 = .ok (.getfield 28, 3) := by decide +kernel
theorem dX8_add_36 : decode cX8_add 36 = .ok (.aload_n 0, 1) := by decide +kernel
theorem dX8_add_37 : decode cX8_add 37 = .ok (.getfield 38, 3) := by decide +kernel
theorem dX8_add_40 : decode cX8_add 40 = .ok (.aload_n 0, 1) := by decide +kernel
theorem dX8_add_41 : decode cX8_add 41 = .ok (.getfield 14, 3) := by decide +kernel
theorem dX8_add_44 : decode cX8_add 44 = .ok (.getfield 45, 3) := by decide +kernel
theorem dX8_add_47 : decode cX8_add 47 = .ok (.iastore, 1) := by decide +kernel
theorem dX8_add_48 : decode cX8_add 48 = .ok (.aload_n 0, 1) := by decide +kernel
theorem dX8_add_49 : decode cX8_add 49 = .ok (.getfield 31, 3) := by decide +kernel
theorem dX8_add_52 : decode cX8_add 52 = .ok (.aload_n 0, 1) := by decide +kernel
theorem dX8_add_53 : decode cX8_add 53 = .ok (.getfield 38, 3) := by decide +kernel
theorem dX8_add_56 : decode cX8_add 56 = .ok (.iload 6, 2) := by decide +kernel
theorem dX8_add_58 : decode cX8_add 58 = .ok (.iload 5, 2) := by decide +kernel
theorem dX8_add_60 : decode cX8_add 60 = .ok (.isub, 1) := by decide +kernel
theorem dX8_add_61 : decode cX8_add 61 = .ok (.iastore, 1) := by decide +kernel
theorem dX8_add_62 : decode cX8_add 62 = .ok (.iload 5, 2) := by decide +kernel
theorem dX8_add_64 : decode cX8_add 64 = .ok (.istore 7, 2) := by decide +kernel
theorem dX8_add_66 : decode cX8_add 66 = .ok (.iload 7, 2) := by decide +kernel
theorem dX8_add_68 : decode cX8_add 68 = .ok (.iload 6, 2) := by decide +kernel
theorem dX8_add_70 : decode cX8_add 70 = .ok (.if_icmp .ge 23, 3) := by decide +kernel
theorem dX8_add_73 : decode cX8_add 73 = .ok (.aload_n 0, 1) := by decide +kernel
theorem dX8_add_74 : decode cX8_add 74 = .ok (.getfield 14, 3) := by decide +kernel
theorem dX8_add_77 : decode cX8_add 77 = .ok (.aload 4, 2) := by decide +kernel
theorem dX8_add_79 : decode cX8_add 79 = .ok (.iload 7, 2) := by decide +kernel
theorem dX8_add_81 : decode cX8_add 81 = .ok (.invokevirtual 46, 3) := by decide +kernel
theorem dX8_add_84 : decode cX8_add 84 = .ok (.invokevirtual 50, 3) := by decide +kernel
theorem dX8_add_87 : decode cX8_add 87 = .ok (.iinc 7 1, 3) := by decide +kernel
theorem dX8_add_90 : decode cX8_add 90 = .ok (.goto (-24), 3) := by decide +kernel
theorem dX8_add_93 : decode cX8_add 93 = .ok (.aload_n 0, 1) := by decide +kernel
theorem dX8_add_94 : decode cX8_add 94 = .ok (.getfield 18, 3) := by decide +kernel
theorem dX8_add_97 : decode cX8_add 97 = .ok (.iload_n 1, 1) := by decide +kernel
theorem dX8_add_98 : decode cX8_add 98 = .ok (.aload_n 0, 1) := by decide +kernel
theorem dX8_add_99 : decode cX8_add 99 = .ok (.getfield 38, 3) := by decide +kernel
theorem dX8_add_102 : decode cX8_add 102 = .ok (.iastore, 1) := by decide +kernel
theorem dX8_add_103 : decode cX8_add 103 = .ok (.aload_n 0, 1) := by decide +kernel
theorem dX8_add_104 : decode cX8_add 104 = .ok (.dup, 1) := by decide +kernel
theorem dX8_add_105 : decode cX8_add 105 = .ok (.getfield 38, 3) := by decide +kernel
theorem dX8_add_108 : decode cX8_add 108 = .ok (.iconst 1, 1) := by decide +kernel
theorem dX8_add_109 : decode cX8_add 109 = .ok (.iadd, 1) := by decide +kernel
theorem dX8_add_110 : decode cX8_add 110 = .ok (.putfield 38, 3) := by decide +kernel
theorem dX8_add_113 : decode cX8_add 113 = .ok (.return_, 1) := by decide +kernel
theorem dX8_heldOn_0 : decode cX8_heldOn 0 = .ok (.aload_n 0, 1) := by decide +kernel
theorem dX8_heldOn_1 : decode cX8_heldOn 1 = .ok (.getfield 18, 3) := by decide +kernel
theorem dX8_heldOn_4 : decode cX8_heldOn 4 = .ok (.iload_n 1, 1) := by decide +kernel
theorem dX8_heldOn_5 : decode cX8_heldOn 5 = .ok (.iaload, 1) := by decide +kernel
theorem dX8_heldOn_6 : decode cX8_heldOn 6 = .ok (.istore_n 3, 1) := by decide +kernel
theorem dX8_heldOn_7 : decode cX8_heldOn 7 = .ok (.iconst 0, 1) := by decide +kernel
theorem dX8_heldOn_8 : decode cX8_heldOn 8 = .ok (.istore 4, 2) := by decide +kernel
theorem dX8_heldOn_10 : decode cX8_heldOn 10 = .ok (.iload 4, 2) := by decide +kernel
theorem dX8_heldOn_12 : decode cX8_heldOn 12 = .ok (.aload_n 0, 1) := by decide +kernel
theorem dX8_heldOn_13 : decode cX8_heldOn 13 = .ok (.getfield 38, 3) := by decide +kernel
theorem dX8_heldOn_16 : decode cX8_heldOn 16 = .ok (.if_icmp .ge 36, 3) := by decide +kernel
theorem dX8_heldOn_19 : decode cX8_heldOn 19 = .ok (.aload_n 0, 1) := by decide +kernel
theorem dX8_heldOn_20 : decode cX8_heldOn 20 = .ok (.getfield 22, 3) := by decide +kernel
theorem dX8_heldOn_23 : decode cX8_heldOn 23 = .ok (.iload_n 3, 1) := by decide +kernel
theorem dX8_heldOn_24 : decode cX8_heldOn 24 = .ok (.iaload, 1) := by decide +kernel
theorem dX8_heldOn_25 : decode cX8_heldOn 25 = .ok (.iconst (-1), 1) := by decide +kernel
theorem dX8_heldOn_26 : decode cX8_heldOn 26 = .ok (.if_icmp .eq 26, 3) := by decide +kernel
theorem dX8_heldOn_29 : decode cX8_heldOn 29 = .ok (.aload_n 0, 1) := by decide +kernel
theorem dX8_heldOn_30 : decode cX8_heldOn 30 = .ok (.getfield 25, 3) := by decide +kernel
theorem dX8_heldOn_33 : decode cX8_heldOn 33 = .ok (.iload_n 3, 1) := by decide +kernel
theorem dX8_heldOn_34 : decode cX8_heldOn 34 = .ok (.iaload, 1) := by decide +kernel
theorem dX8_heldOn_35 : decode cX8_heldOn 35 = .ok (.iload_n 2, 1) := by decide +kernel
theorem dX8_heldOn_36 : decode cX8_heldOn 36 = .ok (.if_icmp .le 16, 3) := by decide +kernel
theorem dX8_heldOn_39 : decode cX8_heldOn 39 = .ok (.aload_n 0, 1) := by decide +kernel
theorem dX8_heldOn_40 : decode cX8_heldOn 40 = .ok (.getfield 22, 3) := by decide +kernel
theorem dX8_heldOn_43 : decode cX8_heldOn 43 = .ok (.iload_n 3, 1) := by decide +kernel
theorem dX8_heldOn_44 : decode cX8_heldOn 44 = .ok (.iaload, 1) := by decide +kernel
theorem dX8_heldOn_45 : decode cX8_heldOn 45 = .ok (.istore_n 3, 1) := by decide +kernel
theorem dX8_heldOn_46 : decode cX8_heldOn 46 = .ok (.iinc 4 1, 3) := by decide +kernel
theorem dX8_heldOn_49 : decode cX8_heldOn 49 = .ok (.goto (-39), 3) := by decide +kernel
theorem dX8_heldOn_52 : decode cX8_heldOn 52 = .ok (.iload_n 3, 1) := by decide +kernel
theorem dX8_heldOn_53 : decode cX8_heldOn 53 = .ok (.ireturn, 1) := by decide +kernel
theorem dX8_timesRighted_0 : decode cX8_timesRighted 0 = .ok (.aload_n 0, 1) := by decide +kernel
theorem dX8_timesRighted_1 : decode cX8_timesRighted 1 = .ok (.getfield 18, 3) := by decide +kernel
theorem dX8_timesRighted_4 : decode cX8_timesRighted 4 = .ok (.iload_n 1, 1) := by decide +kernel
theorem dX8_timesRighted_5 : decode cX8_timesRighted 5 = .ok (.iaload, 1) := by decide +kernel
theorem dX8_timesRighted_6 : decode cX8_timesRighted 6 = .ok (.istore_n 2, 1) := by decide +kernel
theorem dX8_timesRighted_7 : decode cX8_timesRighted 7 = .ok (.iconst 0, 1) := by decide +kernel
theorem dX8_timesRighted_8 : decode cX8_timesRighted 8 = .ok (.istore_n 3, 1) := by decide +kernel
theorem dX8_timesRighted_9 : decode cX8_timesRighted 9 = .ok (.iload_n 3, 1) := by decide +kernel
theorem dX8_timesRighted_10 : decode cX8_timesRighted 10 = .ok (.aload_n 0, 1) := by decide +kernel
theorem dX8_timesRighted_11 : decode cX8_timesRighted 11 = .ok (.getfield 38, 3) := by decide +kernel
theorem dX8_timesRighted_14 : decode cX8_timesRighted 14 = .ok (.if_icmp .ge 26, 3) := by decide +kernel
theorem dX8_timesRighted_17 : decode cX8_timesRighted 17 = .ok (.aload_n 0, 1) := by decide +kernel
theorem dX8_timesRighted_18 : decode cX8_timesRighted 18 = .ok (.getfield 22, 3) := by decide +kernel
theorem dX8_timesRighted_21 : decode cX8_timesRighted 21 = .ok (.iload_n 2, 1) := by decide +kernel
theorem dX8_timesRighted_22 : decode cX8_timesRighted 22 = .ok (.iaload, 1) := by decide +kernel
theorem dX8_timesRighted_23 : decode cX8_timesRighted 23 = .ok (.iconst (-1), 1) := by decide +kernel
theorem dX8_timesRighted_24 : decode cX8_timesRighted 24 = .ok (.if_icmp .eq 16, 3) := by decide +kernel
theorem dX8_timesRighted_27 : decode cX8_timesRighted 27 = .ok (.aload_n 0, 1) := by decide +kernel
theorem dX8_timesRighted_28 : decode cX8_timesRighted 28 = .ok (.getfield 22, 3) := by decide +kernel
theorem dX8_timesRighted_31 : decode cX8_timesRighted 31 = .ok (.iload_n 2, 1) := by decide +kernel
theorem dX8_timesRighted_32 : decode cX8_timesRighted 32 = .ok (.iaload, 1) := by decide +kernel
theorem dX8_timesRighted_33 : decode cX8_timesRighted 33 = .ok (.istore_n 2, 1) := by decide +kernel
theorem dX8_timesRighted_34 : decode cX8_timesRighted 34 = .ok (.iinc 3 1, 3) := by decide +kernel
theorem dX8_timesRighted_37 : decode cX8_timesRighted 37 = .ok (.goto (-28), 3) := by decide +kernel
theorem dX8_timesRighted_40 : decode cX8_timesRighted 40 = .ok (.iload_n 3, 1) := by decide +kernel
theorem dX8_timesRighted_41 : decode cX8_timesRighted 41 = .ok (.ireturn, 1) := by decide +kernel
theorem dX8_tell_0 : decode cX8_tell 0 = .ok (.iconst 0, 1) := by decide +kernel
theorem dX8_tell_1 : decode cX8_tell 1 = .ok (.istore_n 3, 1) := by decide +kernel
theorem dX8_tell_2 : decode cX8_tell 2 = .ok (.iload_n 3, 1) := by decide +kernel
theorem dX8_tell_3 : decode cX8_tell 3 = .ok (.aload_n 0, 1) := by decide +kernel
theorem dX8_tell_4 : decode cX8_tell 4 = .ok (.getfield 31, 3) := by decide +kernel
theorem dX8_tell_7 : decode cX8_tell 7 = .ok (.iload_n 1, 1) := by decide +kernel
theorem dX8_tell_8 : decode cX8_tell 8 = .ok (.iaload, 1) := by decide +kernel
theorem dX8_tell_9 : decode cX8_tell 9 = .ok (.if_icmp .ge 28, 3) := by decide +kernel
theorem dX8_tell_12 : decode cX8_tell 12 = .ok (.aload_n 2, 1) := by decide +kernel
theorem dX8_tell_13 : decode cX8_tell 13 = .ok (.aload_n 0, 1) := by decide +kernel
theorem dX8_tell_14 : decode cX8_tell 14 = .ok (.getfield 14, 3) := by decide +kernel
theorem dX8_tell_17 : decode cX8_tell 17 = .ok (.aload_n 0, 1) := by decide +kernel
theorem dX8_tell_18 : decode cX8_tell 18 = .ok (.getfield 28, 3) := by decide +kernel
theorem dX8_tell_21 : decode cX8_tell 21 = .ok (.iload_n 1, 1) := by decide +kernel
theorem dX8_tell_22 : decode cX8_tell 22 = .ok (.iaload, 1) := by decide +kernel
theorem dX8_tell_23 : decode cX8_tell 23 = .ok (.iload_n 3, 1) := by decide +kernel
theorem dX8_tell_24 : decode cX8_tell 24 = .ok (.iadd, 1) := by decide +kernel
theorem dX8_tell_25 : decode cX8_tell 25 = .ok (.invokevirtual 46, 3) := by decide +kernel
theorem dX8_tell_28 : decode cX8_tell 28 = .ok (.invokevirtual 50, 3) := by decide +kernel
theorem dX8_tell_31 : decode cX8_tell 31 = .ok (.iinc 3 1, 3) := by decide +kernel
theorem dX8_tell_34 : decode cX8_tell 34 = .ok (.goto (-32), 3) := by decide +kernel
theorem dX8_tell_37 : decode cX8_tell 37 = .ok (.aload_n 0, 1) := by decide +kernel
theorem dX8_tell_38 : decode cX8_tell 38 = .ok (.getfield 31, 3) := by decide +kernel
theorem dX8_tell_41 : decode cX8_tell 41 = .ok (.iload_n 1, 1) := by decide +kernel
theorem dX8_tell_42 : decode cX8_tell 42 = .ok (.iaload, 1) := by decide +kernel
theorem dX8_tell_43 : decode cX8_tell 43 = .ok (.ireturn, 1) := by decide +kernel
theorem dX9_init_0 : decode cX9_init 0 = .ok (.aload_n 0, 1) := by decide +kernel
theorem dX9_init_1 : decode cX9_init 1 = .ok (.invokespecial 1, 3) := by decide +kernel
theorem dX9_init_4 : decode cX9_init 4 = .ok (.aload_n 0, 1) := by decide +kernel
theorem dX9_init_5 : decode cX9_init 5 = .ok (.iload_n 1, 1) := by decide +kernel
theorem dX9_init_6 : decode cX9_init 6 = .ok (.putfield 7, 3) := by decide +kernel
theorem dX9_init_9 : decode cX9_init 9 = .ok (.return_, 1) := by decide +kernel
theorem dX9_has_0 : decode cX9_has 0 = .ok (.iload_n 1, 1) := by decide +kernel
theorem dX9_has_1 : decode cX9_has 1 = .ok (.ifCond .lt 15, 3) := by decide +kernel
theorem dX9_has_4 : decode cX9_has 4 = .ok (.iload_n 1, 1) := by decide +kernel
theorem dX9_has_5 : decode cX9_has 5 = .ok (.aload_n 0, 1) := by decide +kernel
theorem dX9_has_6 : decode cX9_has 6 = .ok (.getfield 13, 3) := by decide +kernel
theorem dX9_has_9 : decode cX9_has 9 = .ok (.if_icmp .ge 7, 3) := by decide +kernel
theorem dX9_has_12 : decode cX9_has 12 = .ok (.iconst 1, 1) := by decide +kernel
theorem dX9_has_13 : decode cX9_has 13 = .ok (.goto 4, 3) := by decide +kernel
theorem dX9_has_16 : decode cX9_has 16 = .ok (.iconst 0, 1) := by decide +kernel
theorem dX9_has_17 : decode cX9_has 17 = .ok (.ireturn, 1) := by decide +kernel
theorem dX9_isFull_0 : decode cX9_isFull 0 = .ok (.aload_n 0, 1) := by decide +kernel
theorem dX9_isFull_1 : decode cX9_isFull 1 = .ok (.getfield 13, 3) := by decide +kernel
theorem dX9_isFull_4 : decode cX9_isFull 4 = .ok (.aload_n 0, 1) := by decide +kernel
theorem dX9_isFull_5 : decode cX9_isFull 5 = .ok (.getfield 7, 3) := by decide +kernel
theorem dX9_isFull_8 : decode cX9_isFull 8 = .ok (.if_icmp .lt 7, 3) := by decide +kernel
theorem dX9_isFull_11 : decode cX9_isFull 11 = .ok (.iconst 1, 1) := by decide +kernel
theorem dX9_isFull_12 : decode cX9_isFull 12 = .ok (.goto 4, 3) := by decide +kernel
theorem dX9_isFull_15 : decode cX9_isFull 15 = .ok (.iconst 0, 1) := by decide +kernel
theorem dX9_isFull_16 : decode cX9_isFull 16 = .ok (.ireturn, 1) := by decide +kernel
theorem dX9_mark_0 : decode cX9_mark 0 = .ok (.aload_n 0, 1) := by decide +kernel
theorem dX9_mark_1 : decode cX9_mark 1 = .ok (.aload_n 0, 1) := by decide +kernel
theorem dX9_mark_2 : decode cX9_mark 2 = .ok (.getfield 13, 3) := by decide +kernel
theorem dX9_mark_5 : decode cX9_mark 5 = .ok (.putfield 16, 3) := by decide +kernel
theorem dX9_mark_8 : decode cX9_mark 8 = .ok (.return_, 1) := by decide +kernel
theorem dX9_takeBack_0 : decode cX9_takeBack 0 = .ok (.aload_n 0, 1) := by decide +kernel
theorem dX9_takeBack_1 : decode cX9_takeBack 1 = .ok (.aload_n 0, 1) := by decide +kernel
theorem dX9_takeBack_2 : decode cX9_takeBack 2 = .ok (.getfield 16, 3) := by decide +kernel
theorem dX9_takeBack_5 : decode cX9_takeBack 5 = .ok (.putfield 13, 3) := by decide +kernel
theorem dX9_takeBack_8 : decode cX9_takeBack 8 = .ok (.return_, 1) := by decide +kernel
theorem dX10_init_0 : decode cX10_init 0 = .ok (.aload_n 0, 1) := by decide +kernel
theorem dX10_init_1 : decode cX10_init 1 = .ok (.invokespecial 3, 3) := by decide +kernel
theorem dX10_init_4 : decode cX10_init 4 = .ok (.aload_n 0, 1) := by decide +kernel
theorem dX10_init_5 : decode cX10_init 5 = .ok (.aload_n 1, 1) := by decide +kernel
theorem dX10_init_6 : decode cX10_init 6 = .ok (.putfield 9, 3) := by decide +kernel
theorem dX10_init_9 : decode cX10_init 9 = .ok (.aload_n 0, 1) := by decide +kernel
theorem dX10_init_10 : decode cX10_init 10 = .ok (.aload_n 2, 1) := by decide +kernel
theorem dX10_init_11 : decode cX10_init 11 = .ok (.putfield 15, 3) := by decide +kernel
theorem dX10_init_14 : decode cX10_init 14 = .ok (.aload_n 0, 1) := by decide +kernel
theorem dX10_init_15 : decode cX10_init 15 = .ok (.aload_n 3, 1) := by decide +kernel
theorem dX10_init_16 : decode cX10_init 16 = .ok (.putfield 19, 3) := by decide +kernel
theorem dX10_init_19 : decode cX10_init 19 = .ok (.aload_n 0, 1) := by decide +kernel
theorem dX10_init_20 : decode cX10_init 20 = .ok (.aload 4, 2) := by decide +kernel
theorem dX10_init_22 : decode cX10_init 22 = .ok (.putfield 23, 3) := by decide +kernel
theorem dX10_init_25 : decode cX10_init 25 = .ok (.aload_n 0, 1) := by decide +kernel
theorem dX10_init_26 : decode cX10_init 26 = .ok (.aload 5, 2) := by decide +kernel
theorem dX10_init_28 : decode cX10_init 28 = .ok (.putfield 27, 3) := by decide +kernel
theorem dX10_init_31 : decode cX10_init 31 = .ok (.aload_n 0, 1) := by decide +kernel
theorem dX10_init_32 : decode cX10_init 32 = .ok (.aload 6, 2) := by decide +kernel
theorem dX10_init_34 : decode cX10_init 34 = .ok (.putfield 31, 3) := by decide +kernel
theorem dX10_init_37 : decode cX10_init 37 = .ok (.return_, 1) := by decide +kernel
theorem dX10_takeSitting_0 : decode cX10_takeSitting 0 = .ok (.aload_n 0, 1) := by decide +kernel
theorem dX10_takeSitting_1 : decode cX10_takeSitting 1 = .ok (.iload_n 1, 1) := by decide +kernel
theorem dX10_takeSitting_2 : decode cX10_takeSitting 2 = .ok (.invokevirtual 35, 3) := by decide +kernel
theorem dX10_takeSitting_5 : decode cX10_takeSitting 5 = .ok (.iconst 1, 1) := by decide +kernel
theorem dX10_takeSitting_6 : decode cX10_takeSitting 6 = .ok (.istore_n 3, 1) := by decide +kernel
theorem dX10_takeSitting_7 : decode cX10_takeSitting 7 = .ok (.iconst 0, 1) := by decide +kernel
theorem dX10_takeSitting_8 : decode cX10_takeSitting 8 = .ok (.istore 4, 2) := by decide +kernel
theorem dX10_takeSitting_10 : decode cX10_takeSitting 10 = .ok (.iload 4, 2) := by decide +kernel
theorem dX10_takeSitting_12 : decode cX10_takeSitting 12 = .ok (.iload_n 1, 1) := by decide +kernel
theorem dX10_takeSitting_13 : decode cX10_takeSitting 13 = .ok (.if_icmp .ge 30, 3) := by decide +kernel
theorem dX10_takeSitting_16 : decode cX10_takeSitting 16 = .ok (.iload_n 3, 1) := by decide +kernel
theorem dX10_takeSitting_17 : decode cX10_takeSitting 17 = .ok (.ifCond .eq 26, 3) := by decide +kernel
theorem dX10_takeSitting_20 : decode cX10_takeSitting 20 = .ok (.aload_n 0, 1) := by decide +kernel
theorem dX10_takeSitting_21 : decode cX10_takeSitting 21 = .ok (.getfield 39, 3) := by decide +kernel
theorem dX10_takeSitting_24 : decode cX10_takeSitting 24 = .ok (.aload_n 0, 1) := by decide +kernel
theorem dX10_takeSitting_25 : decode cX10_takeSitting 25 = .ok (.getfield 43, 3) := by decide +kernel
theorem dX10_takeSitting_28 : decode cX10_takeSitting 28 = .ok (.if_icmp .ge 15, 3) := by decide +kernel
theorem dX10_takeSitting_31 : decode cX10_takeSitting 31 = .ok (.aload_n 0, 1) := by decide +kernel
theorem dX10_takeSitting_32 : decode cX10_takeSitting 32 = .ok (.iload_n 2, 1) := by decide +kernel
theorem dX10_takeSitting_33 : decode cX10_takeSitting 33 = .ok (.invokevirtual 46, 3) := by decide +kernel
theorem dX10_takeSitting_36 : decode cX10_takeSitting 36 = .ok (.istore_n 3, 1) := by decide +kernel
theorem dX10_takeSitting_37 : decode cX10_takeSitting 37 = .ok (.iinc 4 1, 3) := by decide +kernel
theorem dX10_takeSitting_40 : decode cX10_takeSitting 40 = .ok (.goto (-30), 3) := by decide +kernel
theorem dX10_takeSitting_43 : decode cX10_takeSitting 43 = .ok (.aload_n 0, 1) := by decide +kernel
theorem dX10_takeSitting_44 : decode cX10_takeSitting 44 = .ok (.iload_n 3, 1) := by decide +kernel
theorem dX10_takeSitting_45 : decode cX10_takeSitting 45 = .ok (.invokevirtual 50, 3) := by decide +kernel
theorem dX10_takeSitting_48 : decode cX10_takeSitting 48 = .ok (.ireturn, 1) := by decide +kernel
theorem dX10_takeRight_0 : decode cX10_takeRight 0 = .ok (.aload_n 0, 1) := by decide +kernel
theorem dX10_takeRight_1 : decode cX10_takeRight 1 = .ok (.iload_n 1, 1) := by decide +kernel
theorem dX10_takeRight_2 : decode cX10_takeRight 2 = .ok (.invokevirtual 35, 3) := by decide +kernel
theorem dX10_takeRight_5 : decode cX10_takeRight 5 = .ok (.aload_n 0, 1) := by decide +kernel
theorem dX10_takeRight_6 : decode cX10_takeRight 6 = .ok (.bipush (-2), 2) := by decide +kernel
theorem dX10_takeRight_8 : decode cX10_takeRight 8 = .ok (.putfield 54, 3) := by decide +kernel
theorem dX10_takeRight_11 : decode cX10_takeRight 11 = .ok (.aload_n 0, 1) := by decide +kernel
theorem dX10_takeRight_12 : decode cX10_takeRight 12 = .ok (.iload_n 2, 1) := by decide +kernel
theorem dX10_takeRight_13 : decode cX10_takeRight 13 = .ok (.invokevirtual 57, 3) := by decide +kernel
theorem dX10_takeRight_16 : decode cX10_takeRight 16 = .ok (.ifCond .eq 30, 3) := by decide +kernel
theorem dX10_takeRight_19 : decode cX10_takeRight 19 = .ok (.aload_n 0, 1) := by decide +kernel
theorem dX10_takeRight_20 : decode cX10_takeRight 20 = .ok (.getfield 39, 3) := by decide +kernel
theorem dX10_takeRight_23 : decode cX10_takeRight 23 = .ok (.aload_n 0, 1) := by decide +kernel
theorem dX10_takeRight_24 : decode cX10_takeRight 24 = .ok (.getfield 43, 3) := by decide +kernel
theorem dX10_takeRight_27 : decode cX10_takeRight 27 = .ok (.if_icmp .ge 15, 3) := by decide +kernel
theorem dX10_takeRight_30 : decode cX10_takeRight 30 = .ok (.aload_n 0, 1) := by decide +kernel
theorem dX10_takeRight_31 : decode cX10_takeRight 31 = .ok (.iconst 1, 1) := by decide +kernel
theorem dX10_takeRight_32 : decode cX10_takeRight 32 = .ok (.aload_n 0, 1) := by decide +kernel
theorem dX10_takeRight_33 : decode cX10_takeRight 33 = .ok (.getfield 39, 3) := by decide +kernel
theorem dX10_takeRight_36 : decode cX10_takeRight 36 = .ok (.invokevirtual 60, 3) := by decide +kernel
theorem dX10_takeRight_39 : decode cX10_takeRight 39 = .ok (.ifCond .eq 7, 3) := by decide +kernel
theorem dX10_takeRight_42 : decode cX10_takeRight 42 = .ok (.iconst 1, 1) := by decide +kernel
theorem dX10_takeRight_43 : decode cX10_takeRight 43 = .ok (.goto 4, 3) := by decide +kernel
theorem dX10_takeRight_46 : decode cX10_takeRight 46 = .ok (.iconst 0, 1) := by decide +kernel
theorem dX10_takeRight_47 : decode cX10_takeRight 47 = .ok (.istore 4, 2) := by decide +kernel
theorem dX10_takeRight_49 : decode cX10_takeRight 49 = .ok (.iload 4, 2) := by decide +kernel
theorem dX10_takeRight_51 : decode cX10_takeRight 51 = .ok (.ifCond .eq 21, 3) := by decide +kernel
theorem dX10_takeRight_54 : decode cX10_takeRight 54 = .ok (.aload_n 0, 1) := by decide +kernel
theorem dX10_takeRight_55 : decode cX10_takeRight 55 = .ok (.getfield 19, 3) := by decide +kernel
theorem dX10_takeRight_58 : decode cX10_takeRight 58 = .ok (.iload_n 2, 1) := by decide +kernel
theorem dX10_takeRight_59 : decode cX10_takeRight 59 = .ok (.iload_n 3, 1) := by decide +kernel
theorem dX10_takeRight_60 : decode cX10_takeRight 60 = .ok (.aload_n 0, 1) := by decide +kernel
theorem dX10_takeRight_61 : decode cX10_takeRight 61 = .ok (.getfield 9, 3) := by decide +kernel
theorem dX10_takeRight_64 : decode cX10_takeRight 64 = .ok (.iconst 0, 1) := by decide +kernel
theorem dX10_takeRight_65 : decode cX10_takeRight 65 = .ok (.aload_n 0, 1) := by decide +kernel
theorem dX10_takeRight_66 : decode cX10_takeRight 66 = .ok (.getfield 43, 3) := by decide +kernel
theorem dX10_takeRight_69 : decode cX10_takeRight 69 = .ok (.invokevirtual 64, 3) := by decide +kernel
theorem dX10_takeRight_72 : decode cX10_takeRight 72 = .ok (.aload_n 0, 1) := by decide +kernel
theorem dX10_takeRight_73 : decode cX10_takeRight 73 = .ok (.iload 4, 2) := by decide +kernel
theorem dX10_takeRight_75 : decode cX10_takeRight 75 = .ok (.invokevirtual 50, 3) := by decide +kernel
theorem dX10_takeRight_78 : decode cX10_takeRight 78 = .ok (.ireturn, 1) := by decide +kernel
theorem dX10_begin_0 : decode cX10_begin 0 = .ok (.aload_n 0, 1) := by decide +kernel
theorem dX10_begin_1 : decode cX10_begin 1 = .ok (.iload_n 1, 1) := by decide +kernel
theorem dX10_begin_2 : decode cX10_begin 2 = .ok (.aload_n 0, 1) := by decide +kernel
theorem dX10_begin_3 : decode cX10_begin 3 = .ok (.getfield 9, 3) := by decide +kernel
theorem dX10_begin_6 : decode cX10_begin 6 = .ok (.getfield 70, 3) := by decide +kernel
theorem dX10_begin_9 : decode cX10_begin 9 = .ok (.invokestatic 75, 3) := by decide +kernel
theorem dX10_begin_12 : decode cX10_begin 12 = .ok (.putfield 43, 3) := by decide +kernel
theorem dX10_begin_15 : decode cX10_begin 15 = .ok (.aload_n 0, 1) := by decide +kernel
theorem dX10_begin_16 : decode cX10_begin 16 = .ok (.iconst 0, 1) := by decide +kernel
theorem dX10_begin_17 : decode cX10_begin 17 = .ok (.putfield 39, 3) := by decide +kernel
theorem dX10_begin_20 : decode cX10_begin 20 = .ok (.aload_n 0, 1) := by decide +kernel
theorem dX10_begin_21 : decode cX10_begin 21 = .ok (.iconst 0, 1) := by decide +kernel
theorem dX10_begin_22 : decode cX10_begin 22 = .ok (.putfield 54, 3) := by decide +kernel
theorem dX10_begin_25 : decode cX10_begin 25 = .ok (.aload_n 0, 1) := by decide +kernel
theorem dX10_begin_26 : decode cX10_begin 26 = .ok (.iconst 0, 1) := by decide +kernel
theorem dX10_begin_27 : decode cX10_begin 27 = .ok (.putfield 81, 3) := by decide +kernel
theorem dX10_begin_30 : decode cX10_begin 30 = .ok (.aload_n 0, 1) := by decide +kernel
theorem dX10_begin_31 : decode cX10_begin 31 = .ok (.iconst (-1), 1) := by decide +kernel
theorem dX10_begin_32 : decode cX10_begin 32 = .ok (.putfield 84, 3) := by decide +kernel
theorem dX10_begin_35 : decode cX10_begin 35 = .ok (.aload_n 0, 1) := by decide +kernel
theorem dX10_begin_36 : decode cX10_begin 36 = .ok (.getfield 15, 3) := by decide +kernel
theorem dX10_begin_39 : decode cX10_begin 39 = .ok (.invokevirtual 87, 3) := by decide +kernel
theorem dX10_begin_42 : decode cX10_begin 42 = .ok (.aload_n 0, 1) := by decide +kernel
theorem dX10_begin_43 : decode cX10_begin 43 = .ok (.getfield 19, 3) := by decide +kernel
theorem dX10_begin_46 : decode cX10_begin 46 = .ok (.invokevirtual 92, 3) := by decide +kernel
theorem dX10_begin_49 : decode cX10_begin 49 = .ok (.aload_n 0, 1) := by decide +kernel
theorem dX10_begin_50 : decode cX10_begin 50 = .ok (.getfield 19, 3) := by decide +kernel
theorem dX10_begin_53 : decode cX10_begin 53 = .ok (.getfield 93, 3) := by decide +kernel
theorem dX10_begin_56 : decode cX10_begin 56 = .ok (.invokevirtual 94, 3) := by decide +kernel
theorem dX10_begin_59 : decode cX10_begin 59 = .ok (.aload_n 0, 1) := by decide +kernel
theorem dX10_begin_60 : decode cX10_begin 60 = .ok (.getfield 23, 3) := by decide +kernel
theorem dX10_begin_63 : decode cX10_begin 63 = .ok (.invokevirtual 95, 3) := by decide +kernel
theorem dX10_begin_66 : decode cX10_begin 66 = .ok (.aload_n 0, 1) := by decide +kernel
theorem dX10_begin_67 : decode cX10_begin 67 = .ok (.getfield 27, 3) := by decide +kernel
theorem dX10_begin_70 : decode cX10_begin 70 = .ok (.invokevirtual 98, 3) := by decide +kernel
theorem dX10_begin_73 : decode cX10_begin 73 = .ok (.aload_n 0, 1) := by decide +kernel
theorem dX10_begin_74 : decode cX10_begin 74 = .ok (.getfield 31, 3) := by decide +kernel
theorem dX10_begin_77 : decode cX10_begin 77 = .ok (.invokevirtual 101, 3) := by decide +kernel
theorem dX10_begin_80 : decode cX10_begin 80 = .ok (.return_, 1) := by decide +kernel
theorem dX10_finish_0 : decode cX10_finish 0 = .ok (.iload_n 1, 1) := by decide +kernel
theorem dX10_finish_1 : decode cX10_finish 1 = .ok (.ifCond .ne 48, 3) := by decide +kernel
theorem dX10_finish_4 : decode cX10_finish 4 = .ok (.aload_n 0, 1) := by decide +kernel
theorem dX10_finish_5 : decode cX10_finish 5 = .ok (.getfield 15, 3) := by decide +kernel
theorem dX10_finish_8 : decode cX10_finish 8 = .ok (.invokevirtual 104, 3) := by decide +kernel
theorem dX10_finish_11 : decode cX10_finish 11 = .ok (.aload_n 0, 1) := by decide +kernel
theorem dX10_finish_12 : decode cX10_finish 12 = .ok (.getfield 19, 3) := by decide +kernel
theorem dX10_finish_15 : decode cX10_finish 15 = .ok (.invokevirtual 107, 3) := by decide +kernel
theorem dX10_finish_18 : decode cX10_finish 18 = .ok (.aload_n 0, 1) := by decide +kernel
theorem dX10_finish_19 : decode cX10_finish 19 = .ok (.getfield 19, 3) := by decide +kernel
theorem dX10_finish_22 : decode cX10_finish 22 = .ok (.getfield 93, 3) := by decide +kernel
theorem dX10_finish_25 : decode cX10_finish 25 = .ok (.invokevirtual 108, 3) := by decide +kernel
theorem dX10_finish_28 : decode cX10_finish 28 = .ok (.aload_n 0, 1) := by decide +kernel
theorem dX10_finish_29 : decode cX10_finish 29 = .ok (.getfield 23, 3) := by decide +kernel
theorem dX10_finish_32 : decode cX10_finish 32 = .ok (.invokevirtual 109, 3) := by decide +kernel
theorem dX10_finish_35 : decode cX10_finish 35 = .ok (.aload_n 0, 1) := by decide +kernel
theorem dX10_finish_36 : decode cX10_finish 36 = .ok (.getfield 27, 3) := by decide +kernel
theorem dX10_finish_39 : decode cX10_finish 39 = .ok (.invokevirtual 110, 3) := by decide +kernel
theorem dX10_finish_42 : decode cX10_finish 42 = .ok (.aload_n 0, 1) := by decide +kernel
theorem dX10_finish_43 : decode cX10_finish 43 = .ok (.getfield 31, 3) := by decide +kernel
theorem dX10_finish_46 : decode cX10_finish 46 = .ok (.invokevirtual 111, 3) := by decide +kernel
theorem dX10_finish_49 : decode cX10_finish 49 = .ok (.aload_n 0, 1) := by decide +kernel
theorem dX10_finish_50 : decode cX10_finish 50 = .ok (.getfield 81, 3) := by decide +kernel
theorem dX10_finish_53 : decode cX10_finish 53 = .ok (.ireturn, 1) := by decide +kernel
theorem dX10_refuse_0 : decode cX10_refuse 0 = .ok (.aload_n 0, 1) := by decide +kernel
theorem dX10_refuse_1 : decode cX10_refuse 1 = .ok (.iload_n 1, 1) := by decide +kernel
theorem dX10_refuse_2 : decode cX10_refuse 2 = .ok (.putfield 81, 3) := by decide +kernel
theorem dX10_refuse_5 : decode cX10_refuse 5 = .ok (.aload_n 0, 1) := by decide +kernel
theorem dX10_refuse_6 : decode cX10_refuse 6 = .ok (.iload_n 2, 1) := by decide +kernel
theorem dX10_refuse_7 : decode cX10_refuse 7 = .ok (.putfield 84, 3) := by decide +kernel
theorem dX10_refuse_10 : decode cX10_refuse 10 = .ok (.iconst 0, 1) := by decide +kernel
theorem dX10_refuse_11 : decode cX10_refuse 11 = .ok (.ireturn, 1) := by decide +kernel
theorem dX10_sign_0 : decode cX10_sign 0 = .ok (.aload_n 0, 1) := by decide +kernel
theorem dX10_sign_1 : decode cX10_sign 1 = .ok (.getfield 39, 3) := by decide +kernel
theorem dX10_sign_4 : decode cX10_sign 4 = .ok (.aload_n 0, 1) := by decide +kernel
theorem dX10_sign_5 : decode cX10_sign 5 = .ok (.getfield 43, 3) := by decide +kernel
theorem dX10_sign_8 : decode cX10_sign 8 = .ok (.if_icmp .ge 17, 3) := by decide +kernel
theorem dX10_sign_11 : decode cX10_sign 11 = .ok (.aload_n 0, 1) := by decide +kernel
theorem dX10_sign_12 : decode cX10_sign 12 = .ok (.getfield 9, 3) := by decide +kernel
theorem dX10_sign_15 : decode cX10_sign 15 = .ok (.aload_n 0, 1) := by decide +kernel
theorem dX10_sign_16 : decode cX10_sign 16 = .ok (.getfield 39, 3) := by decide +kernel
theorem dX10_sign_19 : decode cX10_sign 19 = .ok (.invokevirtual 112, 3) := by decide +kernel
theorem dX10_sign_22 : decode cX10_sign 22 = .ok (.goto 4, 3) := by decide +kernel
theorem dX10_sign_25 : decode cX10_sign 25 = .ok (.iconst (-1), 1) := by decide +kernel
theorem dX10_sign_26 : decode cX10_sign 26 = .ok (.ireturn, 1) := by decide +kernel
theorem dX10_lineEnds_0 : decode cX10_lineEnds 0 = .ok (.aload_n 0, 1) := by decide +kernel
theorem dX10_lineEnds_1 : decode cX10_lineEnds 1 = .ok (.getfield 39, 3) := by decide +kernel
theorem dX10_lineEnds_4 : decode cX10_lineEnds 4 = .ok (.aload_n 0, 1) := by decide +kernel
theorem dX10_lineEnds_5 : decode cX10_lineEnds 5 = .ok (.getfield 43, 3) := by decide +kernel
theorem dX10_lineEnds_8 : decode cX10_lineEnds 8 = .ok (.if_icmp .ge 12, 3) := by decide +kernel
theorem dX10_lineEnds_11 : decode cX10_lineEnds 11 = .ok (.aload_n 0, 1) := by decide +kernel
theorem dX10_lineEnds_12 : decode cX10_lineEnds 12 = .ok (.invokevirtual 116, 3) := by decide +kernel
theorem dX10_lineEnds_15 : decode cX10_lineEnds 15 = .ok (.bipush 10, 2) := by decide +kernel
theorem dX10_lineEnds_17 : decode cX10_lineEnds 17 = .ok (.if_icmp .ne 7, 3) := by decide +kernel
theorem dX10_lineEnds_20 : decode cX10_lineEnds 20 = .ok (.iconst 1, 1) := by decide +kernel
theorem dX10_lineEnds_21 : decode cX10_lineEnds 21 = .ok (.goto 4, 3) := by decide +kernel
theorem dX10_lineEnds_24 : decode cX10_lineEnds 24 = .ok (.iconst 0, 1) := by decide +kernel
theorem dX10_lineEnds_25 : decode cX10_lineEnds 25 = .ok (.ireturn, 1) := by decide +kernel
theorem dX10_step_0 : decode cX10_step 0 = .ok (.aload_n 0, 1) := by decide +kernel
theorem dX10_step_1 : decode cX10_step 1 = .ok (.getfield 39, 3) := by decide +kernel
theorem dX10_step_4 : decode cX10_step 4 = .ok (.aload_n 0, 1) := by decide +kernel
theorem dX10_step_5 : decode cX10_step 5 = .ok (.getfield 54, 3) := by decide +kernel
theorem dX10_step_8 : decode cX10_step 8 = .ok (.isub, 1) := by decide +kernel
theorem dX10_step_9 : decode cX10_step 9 = .ok (.bipush 60, 2) := by decide +kernel
theorem dX10_step_11 : decode cX10_step 11 = .ok (.if_icmp .lt 13, 3) := by decide +kernel
theorem dX10_step_14 : decode cX10_step 14 = .ok (.aload_n 0, 1) := by decide +kernel
theorem dX10_step_15 : decode cX10_step 15 = .ok (.iconst 2, 1) := by decide +kernel
theorem dX10_step_16 : decode cX10_step 16 = .ok (.aload_n 0, 1) := by decide +kernel
theorem dX10_step_17 : decode cX10_step 17 = .ok (.getfield 39, 3) := by decide +kernel
theorem dX10_step_20 : decode cX10_step 20 = .ok (.invokevirtual 60, 3) := by decide +kernel
theorem dX10_step_23 : decode cX10_step 23 = .ok (.ireturn, 1) := by decide +kernel
theorem dX10_step_24 : decode cX10_step 24 = .ok (.aload_n 0, 1) := by decide +kernel
theorem dX10_step_25 : decode cX10_step 25 = .ok (.dup, 1) := by decide +kernel
theorem dX10_step_26 : decode cX10_step 26 = .ok (.getfield 39, 3) := by decide +kernel
theorem dX10_step_29 : decode cX10_step 29 = .ok (.iconst 1, 1) := by decide +kernel
theorem dX10_step_30 : decode cX10_step 30 = .ok (.iadd, 1) := by decide +kernel
theorem dX10_step_31 : decode cX10_step 31 = .ok (.putfield 39, 3) := by decide +kernel
theorem dX10_step_34 : decode cX10_step 34 = .ok (.iconst 1, 1) := by decide +kernel
theorem dX10_step_35 : decode cX10_step 35 = .ok (.ireturn, 1) := by decide +kernel
theorem dX10_expect_0 : decode cX10_expect 0 = .ok (.aload_n 0, 1) := by decide +kernel
theorem dX10_expect_1 : decode cX10_expect 1 = .ok (.invokevirtual 116, 3) := by decide +kernel
theorem dX10_expect_4 : decode cX10_expect 4 = .ok (.iload_n 1, 1) := by decide +kernel
theorem dX10_expect_5 : decode cX10_expect 5 = .ok (.if_icmp .ne 10, 3) := by decide +kernel
theorem dX10_expect_8 : decode cX10_expect 8 = .ok (.aload_n 0, 1) := by decide +kernel
theorem dX10_expect_9 : decode cX10_expect 9 = .ok (.invokevirtual 120, 3) := by decide +kernel
theorem dX10_expect_12 : decode cX10_expect 12 = .ok (.goto 12, 3) := by decide +kernel
theorem dX10_expect_15 : decode cX10_expect 15 = .ok (.aload_n 0, 1) := by decide +kernel
theorem dX10_expect_16 : decode cX10_expect 16 = .ok (.iconst 1, 1) := by decide +kernel
theorem dX10_expect_17 : decode cX10_expect 17 = .ok (.aload_n 0, 1) := by decide +kernel
theorem dX10_expect_18 : decode cX10_expect 18 = .ok (.getfield 39, 3) := by decide +kernel
theorem dX10_expect_21 : decode cX10_expect 21 = .ok (.invokevirtual 60, 3) := by decide +kernel
theorem dX10_expect_24 : decode cX10_expect 24 = .ok (.ireturn, 1) := by decide +kernel
theorem dX10_takeLine_0 : decode cX10_takeLine 0 = .ok (.aload_n 0, 1) := by decide +kernel
theorem dX10_takeLine_1 : decode cX10_takeLine 1 = .ok (.aload_n 0, 1) := by decide +kernel
theorem dX10_takeLine_2 : decode cX10_takeLine 2 = .ok (.getfield 39, 3) := by decide +kernel
theorem dX10_takeLine_5 : decode cX10_takeLine 5 = .ok (.putfield 54, 3) := by decide +kernel
theorem dX10_takeLine_8 : decode cX10_takeLine 8 = .ok (.ldc 124, 2) := by decide +kernel
theorem dX10_takeLine_10 : decode cX10_takeLine 10 = .ok (.iconst 0, 1) := by decide +kernel
theorem dX10_takeLine_11 : decode cX10_takeLine 11 = .ok (.aload_n 0, 1) := by decide +kernel
theorem dX10_takeLine_12 : decode cX10_takeLine 12 = .ok (.invokevirtual 116, 3) := by decide +kernel
theorem dX10_takeLine_15 : decode cX10_takeLine 15 = .ok (.invokestatic 126, 3) := by decide +kernel
theorem dX10_takeLine_18 : decode cX10_takeLine 18 = .ok (.i2c, 1) := by decide +kernel
theorem dX10_takeLine_19 : decode cX10_takeLine 19 = .ok (.invokevirtual 129, 3) := by decide +kernel
theorem dX10_takeLine_22 : decode cX10_takeLine 22 = .ok (.istore_n 2, 1) := by decide +kernel
theorem dX10_takeLine_23 : decode cX10_takeLine 23 = .ok (.aload_n 0, 1) := by decide +kernel
theorem dX10_takeLine_24 : decode cX10_takeLine 24 = .ok (.iload_n 2, 1) := by decide +kernel
theorem dX10_takeLine_25 : decode cX10_takeLine 25 = .ok (.iload_n 1, 1) := by decide +kernel
theorem dX10_takeLine_26 : decode cX10_takeLine 26 = .ok (.invokevirtual 134, 3) := by decide +kernel
theorem dX10_takeLine_29 : decode cX10_takeLine 29 = .ok (.ifCond .ne 5, 3) := by decide +kernel
theorem dX10_takeLine_32 : decode cX10_takeLine 32 = .ok (.iconst 0, 1) := by decide +kernel
theorem dX10_takeLine_33 : decode cX10_takeLine 33 = .ok (.ireturn, 1) := by decide +kernel
theorem dX10_takeLine_34 : decode cX10_takeLine 34 = .ok (.aload_n 0, 1) := by decide +kernel
theorem dX10_takeLine_35 : decode cX10_takeLine 35 = .ok (.getfield 15, 3) := by decide +kernel
theorem dX10_takeLine_38 : decode cX10_takeLine 38 = .ok (.getfield 137, 3) := by decide +kernel
theorem dX10_takeLine_41 : decode cX10_takeLine 41 = .ok (.istore_n 3, 1) := by decide +kernel
theorem dX10_takeLine_42 : decode cX10_takeLine 42 = .ok (.aload_n 0, 1) := by decide +kernel
theorem dX10_takeLine_43 : decode cX10_takeLine 43 = .ok (.getfield 39, 3) := by decide +kernel
theorem dX10_takeLine_46 : decode cX10_takeLine 46 = .ok (.istore 4, 2) := by decide +kernel
theorem dX10_takeLine_48 : decode cX10_takeLine 48 = .ok (.aload_n 0, 1) := by decide +kernel
theorem dX10_takeLine_49 : decode cX10_takeLine 49 = .ok (.getfield 15, 3) := by decide +kernel
theorem dX10_takeLine_52 : decode cX10_takeLine 52 = .ok (.iload_n 2, 1) := by decide +kernel
theorem dX10_takeLine_53 : decode cX10_takeLine 53 = .ok (.iload_n 1, 1) := by decide +kernel
theorem dX10_takeLine_54 : decode cX10_takeLine 54 = .ok (.invokevirtual 138, 3) := by decide +kernel
theorem dX10_takeLine_57 : decode cX10_takeLine 57 = .ok (.iload_n 2, 1) := by decide +kernel
theorem dX10_takeLine_58 : decode cX10_takeLine 58 = .ok (.iconst 5, 1) := by decide +kernel
theorem dX10_takeLine_59 : decode cX10_takeLine 59 = .ok (.if_icmp .ne 14, 3) := by decide +kernel
theorem dX10_takeLine_62 : decode cX10_takeLine 62 = .ok (.aload_n 0, 1) := by decide +kernel
theorem dX10_takeLine_63 : decode cX10_takeLine 63 = .ok (.iload_n 3, 1) := by decide +kernel
theorem dX10_takeLine_64 : decode cX10_takeLine 64 = .ok (.invokevirtual 142, 3) := by decide +kernel
theorem dX10_takeLine_67 : decode cX10_takeLine 67 = .ok (.ifCond .eq 14, 3) := by decide +kernel
theorem dX10_takeLine_70 : decode cX10_takeLine 70 = .ok (.goto 13, 3) := by decide +kernel
theorem dX10_takeLine_73 : decode cX10_takeLine 73 = .ok (.aload_n 0, 1) := by decide +kernel
theorem dX10_takeLine_74 : decode cX10_takeLine 74 = .ok (.iload_n 3, 1) := by decide +kernel
theorem dX10_takeLine_75 : decode cX10_takeLine 75 = .ok (.invokevirtual 57, 3) := by decide +kernel
theorem dX10_takeLine_78 : decode cX10_takeLine 78 = .ok (.ifCond .ne 5, 3) := by decide +kernel
theorem dX10_takeLine_81 : decode cX10_takeLine 81 = .ok (.iconst 0, 1) := by decide +kernel
theorem dX10_takeLine_82 : decode cX10_takeLine 82 = .ok (.ireturn, 1) := by decide +kernel
theorem dX10_takeLine_83 : decode cX10_takeLine 83 = .ok (.aload_n 0, 1) := by decide +kernel
theorem dX10_takeLine_84 : decode cX10_takeLine 84 = .ok (.getfield 19, 3) := by decide +kernel
theorem dX10_takeLine_87 : decode cX10_takeLine 87 = .ok (.iload_n 3, 1) := by decide +kernel
theorem dX10_takeLine_88 : decode cX10_takeLine 88 = .ok (.aload_n 0, 1) := by decide +kernel
theorem dX10_takeLine_89 : decode cX10_takeLine 89 = .ok (.getfield 9, 3) := by decide +kernel
theorem dX10_takeLine_92 : decode cX10_takeLine 92 = .ok (.iload 4, 2) := by decide +kernel
theorem dX10_takeLine_94 : decode cX10_takeLine 94 = .ok (.aload_n 0, 1) := by decide +kernel
theorem dX10_takeLine_95 : decode cX10_takeLine 95 = .ok (.getfield 39, 3) := by decide +kernel
theorem dX10_takeLine_98 : decode cX10_takeLine 98 = .ok (.invokevirtual 145, 3) := by decide +kernel
theorem dX10_takeLine_101 : decode cX10_takeLine 101 = .ok (.aload_n 0, 1) := by decide +kernel
theorem dX10_takeLine_102 : decode cX10_takeLine 102 = .ok (.getfield 39, 3) := by decide +kernel
theorem dX10_takeLine_105 : decode cX10_takeLine 105 = .ok (.aload_n 0, 1) := by decide +kernel
theorem dX10_takeLine_106 : decode cX10_takeLine 106 = .ok (.getfield 43, 3) := by decide +kernel
theorem dX10_takeLine_109 : decode cX10_takeLine 109 = .ok (.if_icmp .ge 13, 3) := by decide +kernel
theorem dX10_takeLine_112 : decode cX10_takeLine 112 = .ok (.aload_n 0, 1) := by decide +kernel
theorem dX10_takeLine_113 : decode cX10_takeLine 113 = .ok (.dup, 1) := by decide +kernel
theorem dX10_takeLine_114 : decode cX10_takeLine 114 = .ok (.getfield 39, 3) := by decide +kernel
theorem dX10_takeLine_117 : decode cX10_takeLine 117 = .ok (.iconst 1, 1) := by decide +kernel
theorem dX10_takeLine_118 : decode cX10_takeLine 118 = .ok (.iadd, 1) := by decide +kernel
theorem dX10_takeLine_119 : decode cX10_takeLine 119 = .ok (.putfield 39, 3) := by decide +kernel
theorem dX10_takeLine_122 : decode cX10_takeLine 122 = .ok (.iconst 1, 1) := by decide +kernel
theorem dX10_takeLine_123 : decode cX10_takeLine 123 = .ok (.ireturn, 1) := by decide +kernel
theorem dX10_takeHead_0 : decode cX10_takeHead 0 = .ok (.iload_n 1, 1) := by decide +kernel
theorem dX10_takeHead_1 : decode cX10_takeHead 1 = .ok (.ifCond .ge 13, 3) := by decide +kernel
theorem dX10_takeHead_4 : decode cX10_takeHead 4 = .ok (.aload_n 0, 1) := by decide +kernel
theorem dX10_takeHead_5 : decode cX10_takeHead 5 = .ok (.iconst 1, 1) := by decide +kernel
theorem dX10_takeHead_6 : decode cX10_takeHead 6 = .ok (.aload_n 0, 1) := by decide +kernel
theorem dX10_takeHead_7 : decode cX10_takeHead 7 = .ok (.getfield 39, 3) := by decide +kernel
theorem dX10_takeHead_10 : decode cX10_takeHead 10 = .ok (.invokevirtual 60, 3) := by decide +kernel
theorem dX10_takeHead_13 : decode cX10_takeHead 13 = .ok (.ireturn, 1) := by decide +kernel
theorem dX10_takeHead_14 : decode cX10_takeHead 14 = .ok (.iload_n 1, 1) := by decide +kernel
theorem dX10_takeHead_15 : decode cX10_takeHead 15 = .ok (.iconst 4, 1) := by decide +kernel
theorem dX10_takeHead_16 : decode cX10_takeHead 16 = .ok (.if_icmp .ne 38, 3) := by decide +kernel
theorem dX10_takeHead_19 : decode cX10_takeHead 19 = .ok (.aload_n 0, 1) := by decide +kernel
theorem dX10_takeHead_20 : decode cX10_takeHead 20 = .ok (.getfield 39, 3) := by decide +kernel
theorem dX10_takeHead_23 : decode cX10_takeHead 23 = .ok (.iconst 1, 1) := by decide +kernel
theorem dX10_takeHead_24 : decode cX10_takeHead 24 = .ok (.iadd, 1) := by decide +kernel
theorem dX10_takeHead_25 : decode cX10_takeHead 25 = .ok (.aload_n 0, 1) := by decide +kernel
theorem dX10_takeHead_26 : decode cX10_takeHead 26 = .ok (.getfield 43, 3) := by decide +kernel
theorem dX10_takeHead_29 : decode cX10_takeHead 29 = .ok (.if_icmp .ge 25, 3) := by decide +kernel
theorem dX10_takeHead_32 : decode cX10_takeHead 32 = .ok (.aload_n 0, 1) := by decide +kernel
theorem dX10_takeHead_33 : decode cX10_takeHead 33 = .ok (.getfield 9, 3) := by decide +kernel
theorem dX10_takeHead_36 : decode cX10_takeHead 36 = .ok (.aload_n 0, 1) := by decide +kernel
theorem dX10_takeHead_37 : decode cX10_takeHead 37 = .ok (.getfield 39, 3) := by decide +kernel
theorem dX10_takeHead_40 : decode cX10_takeHead 40 = .ok (.iconst 1, 1) := by decide +kernel
theorem dX10_takeHead_41 : decode cX10_takeHead 41 = .ok (.iadd, 1) := by decide +kernel
theorem dX10_takeHead_42 : decode cX10_takeHead 42 = .ok (.invokevirtual 112, 3) := by decide +kernel
theorem dX10_takeHead_45 : decode cX10_takeHead 45 = .ok (.bipush 32, 2) := by decide +kernel
theorem dX10_takeHead_47 : decode cX10_takeHead 47 = .ok (.if_icmp .ne 7, 3) := by decide +kernel
theorem dX10_takeHead_50 : decode cX10_takeHead 50 = .ok (.iconst 1, 1) := by decide +kernel
theorem dX10_takeHead_51 : decode cX10_takeHead 51 = .ok (.goto 4, 3) := by decide +kernel
theorem dX10_takeHead_54 : decode cX10_takeHead 54 = .ok (.iconst 0, 1) := by decide +kernel
theorem dX10_takeHead_55 : decode cX10_takeHead 55 = .ok (.istore_n 3, 1) := by decide +kernel
theorem dX10_takeHead_56 : decode cX10_takeHead 56 = .ok (.iload_n 3, 1) := by decide +kernel
theorem dX10_takeHead_57 : decode cX10_takeHead 57 = .ok (.ifCond .eq 24, 3) := by decide +kernel
theorem dX10_takeHead_60 : decode cX10_takeHead 60 = .ok (.aload_n 0, 1) := by decide +kernel
theorem dX10_takeHead_61 : decode cX10_takeHead 61 = .ok (.getfield 15, 3) := by decide +kernel
theorem dX10_takeHead_64 : decode cX10_takeHead 64 = .ok (.iload_n 2, 1) := by decide +kernel
theorem dX10_takeHead_65 : decode cX10_takeHead 65 = .ok (.invokevirtual 149, 3) := by decide +kernel
theorem dX10_takeHead_68 : decode cX10_takeHead 68 = .ok (.ifCond .ne 13, 3) := by decide +kernel
theorem dX10_takeHead_71 : decode cX10_takeHead 71 = .ok (.aload_n 0, 1) := by decide +kernel
theorem dX10_takeHead_72 : decode cX10_takeHead 72 = .ok (.iconst 3, 1) := by decide +kernel
theorem dX10_takeHead_73 : decode cX10_takeHead 73 = .ok (.aload_n 0, 1) := by decide +kernel
theorem dX10_takeHead_74 : decode cX10_takeHead 74 = .ok (.getfield 39, 3) := by decide +kernel
theorem dX10_takeHead_77 : decode cX10_takeHead 77 = .ok (.invokevirtual 60, 3) := by decide +kernel
theorem dX10_takeHead_80 : decode cX10_takeHead 80 = .ok (.ireturn, 1) := by decide +kernel
theorem dX10_takeHead_81 : decode cX10_takeHead 81 = .ok (.aload_n 0, 1) := by decide +kernel
theorem dX10_takeHead_82 : decode cX10_takeHead 82 = .ok (.getfield 15, 3) := by decide +kernel
theorem dX10_takeHead_85 : decode cX10_takeHead 85 = .ok (.invokevirtual 152, 3) := by decide +kernel
theorem dX10_takeHead_88 : decode cX10_takeHead 88 = .ok (.ifCond .eq 13, 3) := by decide +kernel
theorem dX10_takeHead_91 : decode cX10_takeHead 91 = .ok (.aload_n 0, 1) := by decide +kernel
theorem dX10_takeHead_92 : decode cX10_takeHead 92 = .ok (.iconst 5, 1) := by decide +kernel
theorem dX10_takeHead_93 : decode cX10_takeHead 93 = .ok (.aload_n 0, 1) := by decide +kernel
theorem dX10_takeHead_94 : decode cX10_takeHead 94 = .ok (.getfield 39, 3) := by decide +kernel
theorem dX10_takeHead_97 : decode cX10_takeHead 97 = .ok (.invokevirtual 60, 3) := by decide +kernel
theorem dX10_takeHead_100 : decode cX10_takeHead 100 = .ok (.ireturn, 1) := by decide +kernel
theorem dX10_takeHead_101 : decode cX10_takeHead 101 = .ok (.aload_n 0, 1) := by decide +kernel
theorem dX10_takeHead_102 : decode cX10_takeHead 102 = .ok (.dup, 1) := by decide +kernel
theorem dX10_takeHead_103 : decode cX10_takeHead 103 = .ok (.getfield 39, 3) := by decide +kernel
theorem dX10_takeHead_106 : decode cX10_takeHead 106 = .ok (.iconst 1, 1) := by decide +kernel
theorem dX10_takeHead_107 : decode cX10_takeHead 107 = .ok (.iadd, 1) := by decide +kernel
theorem dX10_takeHead_108 : decode cX10_takeHead 108 = .ok (.putfield 39, 3) := by decide +kernel
theorem dX10_takeHead_111 : decode cX10_takeHead 111 = .ok (.aload_n 0, 1) := by decide +kernel
theorem dX10_takeHead_112 : decode cX10_takeHead 112 = .ok (.bipush 32, 2) := by decide +kernel
theorem dX10_takeHead_114 : decode cX10_takeHead 114 = .ok (.invokevirtual 155, 3) := by decide +kernel
theorem dX10_takeHead_117 : decode cX10_takeHead 117 = .ok (.ireturn, 1) := by decide +kernel
theorem dX10_takeRest_0 : decode cX10_takeRest 0 = .ok (.aload_n 0, 1) := by decide +kernel
theorem dX10_takeRest_1 : decode cX10_takeRest 1 = .ok (.getfield 39, 3) := by decide +kernel
theorem dX10_takeRest_4 : decode cX10_takeRest 4 = .ok (.istore_n 2, 1) := by decide +kernel
theorem dX10_takeRest_5 : decode cX10_takeRest 5 = .ok (.iconst 1, 1) := by decide +kernel
theorem dX10_takeRest_6 : decode cX10_takeRest 6 = .ok (.istore_n 3, 1) := by decide +kernel
theorem dX10_takeRest_7 : decode cX10_takeRest 7 = .ok (.iconst 0, 1) := by decide +kernel
theorem dX10_takeRest_8 : decode cX10_takeRest 8 = .ok (.istore 4, 2) := by decide +kernel
theorem dX10_takeRest_10 : decode cX10_takeRest 10 = .ok (.iload 4, 2) := by decide +kernel
theorem dX10_takeRest_12 : decode cX10_takeRest 12 = .ok (.bipush 60, 2) := by decide +kernel
theorem dX10_takeRest_14 : decode cX10_takeRest 14 = .ok (.if_icmp .gt 83, 3) := by decide +kernel
theorem dX10_takeRest_17 : decode cX10_takeRest 17 = .ok (.iload_n 3, 1) := by decide +kernel
theorem dX10_takeRest_18 : decode cX10_takeRest 18 = .ok (.ifCond .eq 79, 3) := by decide +kernel
theorem dX10_takeRest_21 : decode cX10_takeRest 21 = .ok (.aload_n 0, 1) := by decide +kernel
theorem dX10_takeRest_22 : decode cX10_takeRest 22 = .ok (.invokevirtual 158, 3) := by decide +kernel
theorem dX10_takeRest_25 : decode cX10_takeRest 25 = .ok (.ifCond .ne 72, 3) := by decide +kernel
theorem dX10_takeRest_28 : decode cX10_takeRest 28 = .ok (.aload_n 0, 1) := by decide +kernel
theorem dX10_takeRest_29 : decode cX10_takeRest 29 = .ok (.invokevirtual 116, 3) := by decide +kernel
theorem dX10_takeRest_32 : decode cX10_takeRest 32 = .ok (.istore 5, 2) := by decide +kernel
theorem dX10_takeRest_34 : decode cX10_takeRest 34 = .ok (.iload 5, 2) := by decide +kernel
theorem dX10_takeRest_36 : decode cX10_takeRest 36 = .ok (.bipush 123, 2) := by decide +kernel
theorem dX10_takeRest_38 : decode cX10_takeRest 38 = .ok (.if_icmp .ne 12, 3) := by decide +kernel
theorem dX10_takeRest_41 : decode cX10_takeRest 41 = .ok (.aload_n 0, 1) := by decide +kernel
theorem dX10_takeRest_42 : decode cX10_takeRest 42 = .ok (.iload_n 1, 1) := by decide +kernel
theorem dX10_takeRest_43 : decode cX10_takeRest 43 = .ok (.invokevirtual 161, 3) := by decide +kernel
theorem dX10_takeRest_46 : decode cX10_takeRest 46 = .ok (.istore_n 3, 1) := by decide +kernel
theorem dX10_takeRest_47 : decode cX10_takeRest 47 = .ok (.goto 44, 3) := by decide +kernel
theorem dX10_takeRest_50 : decode cX10_takeRest 50 = .ok (.iload 5, 2) := by decide +kernel
theorem dX10_takeRest_52 : decode cX10_takeRest 52 = .ok (.bipush 60, 2) := by decide +kernel
theorem dX10_takeRest_54 : decode cX10_takeRest 54 = .ok (.if_icmp .ne 12, 3) := by decide +kernel
theorem dX10_takeRest_57 : decode cX10_takeRest 57 = .ok (.aload_n 0, 1) := by decide +kernel
theorem dX10_takeRest_58 : decode cX10_takeRest 58 = .ok (.iload_n 1, 1) := by decide +kernel
theorem dX10_takeRest_59 : decode cX10_takeRest 59 = .ok (.invokevirtual 164, 3) := by decide +kernel
theorem dX10_takeRest_62 : decode cX10_takeRest 62 = .ok (.istore_n 3, 1) := by decide +kernel
theorem dX10_takeRest_63 : decode cX10_takeRest 63 = .ok (.goto 28, 3) := by decide +kernel
theorem dX10_takeRest_66 : decode cX10_takeRest 66 = .ok (.iload 5, 2) := by decide +kernel
theorem dX10_takeRest_68 : decode cX10_takeRest 68 = .ok (.invokestatic 167, 3) := by decide +kernel
theorem dX10_takeRest_71 : decode cX10_takeRest 71 = .ok (.ifCond .eq 10, 3) := by decide +kernel
theorem dX10_takeRest_74 : decode cX10_takeRest 74 = .ok (.aload_n 0, 1) := by decide +kernel
theorem dX10_takeRest_75 : decode cX10_takeRest 75 = .ok (.invokevirtual 120, 3) := by decide +kernel
theorem dX10_takeRest_78 : decode cX10_takeRest 78 = .ok (.goto 12, 3) := by decide +kernel
theorem dX10_takeRest_81 : decode cX10_takeRest 81 = .ok (.aload_n 0, 1) := by decide +kernel
theorem dX10_takeRest_82 : decode cX10_takeRest 82 = .ok (.iconst 1, 1) := by decide +kernel
theorem dX10_takeRest_83 : decode cX10_takeRest 83 = .ok (.aload_n 0, 1) := by decide +kernel
theorem dX10_takeRest_84 : decode cX10_takeRest 84 = .ok (.getfield 39, 3) := by decide +kernel
theorem dX10_takeRest_87 : decode cX10_takeRest 87 = .ok (.invokevirtual 60, 3) := by decide +kernel
theorem dX10_takeRest_90 : decode cX10_takeRest 90 = .ok (.istore_n 3, 1) := by decide +kernel
theorem dX10_takeRest_91 : decode cX10_takeRest 91 = .ok (.iinc 4 1, 3) := by decide +kernel
theorem dX10_takeRest_94 : decode cX10_takeRest 94 = .ok (.goto (-84), 3) := by decide +kernel
theorem dX10_takeRest_97 : decode cX10_takeRest 97 = .ok (.iload_n 3, 1) := by decide +kernel
theorem dX10_takeRest_98 : decode cX10_takeRest 98 = .ok (.ifCond .eq 27, 3) := by decide +kernel
theorem dX10_takeRest_101 : decode cX10_takeRest 101 = .ok (.aload_n 0, 1) := by decide +kernel
theorem dX10_takeRest_102 : decode cX10_takeRest 102 = .ok (.getfield 39, 3) := by decide +kernel
theorem dX10_takeRest_105 : decode cX10_takeRest 105 = .ok (.iload_n 2, 1) := by decide +kernel
theorem dX10_takeRest_106 : decode cX10_takeRest 106 = .ok (.if_icmp .gt 15, 3) := by decide +kernel
theorem dX10_takeRest_109 : decode cX10_takeRest 109 = .ok (.aload_n 0, 1) := by decide +kernel
theorem dX10_takeRest_110 : decode cX10_takeRest 110 = .ok (.iconst 1, 1) := by decide +kernel
theorem dX10_takeRest_111 : decode cX10_takeRest 111 = .ok (.aload_n 0, 1) := by decide +kernel
theorem dX10_takeRest_112 : decode cX10_takeRest 112 = .ok (.getfield 39, 3) := by decide +kernel
theorem dX10_takeRest_115 : decode cX10_takeRest 115 = .ok (.invokevirtual 60, 3) := by decide +kernel
theorem dX10_takeRest_118 : decode cX10_takeRest 118 = .ok (.ifCond .eq 7, 3) := by decide +kernel
theorem dX10_takeRest_121 : decode cX10_takeRest 121 = .ok (.iconst 1, 1) := by decide +kernel
theorem dX10_takeRest_122 : decode cX10_takeRest 122 = .ok (.goto 4, 3) := by decide +kernel
theorem dX10_takeRest_125 : decode cX10_takeRest 125 = .ok (.iconst 0, 1) := by decide +kernel
theorem dX10_takeRest_126 : decode cX10_takeRest 126 = .ok (.ireturn, 1) := by decide +kernel
theorem dX10_isPlain_0 : decode cX10_isPlain 0 = .ok (.iload_n 0, 1) := by decide +kernel
theorem dX10_isPlain_1 : decode cX10_isPlain 1 = .ok (.bipush 32, 2) := by decide +kernel
theorem dX10_isPlain_3 : decode cX10_isPlain 3 = .ok (.if_icmp .lt 25, 3) := by decide +kernel
theorem dX10_isPlain_6 : decode cX10_isPlain 6 = .ok (.iload_n 0, 1) := by decide +kernel
theorem dX10_isPlain_7 : decode cX10_isPlain 7 = .ok (.bipush 126, 2) := by decide +kernel
theorem dX10_isPlain_9 : decode cX10_isPlain 9 = .ok (.if_icmp .gt 19, 3) := by decide +kernel
theorem dX10_isPlain_12 : decode cX10_isPlain 12 = .ok (.iload_n 0, 1) := by decide +kernel
theorem dX10_isPlain_13 : decode cX10_isPlain 13 = .ok (.bipush 62, 2) := by decide +kernel
theorem dX10_isPlain_15 : decode cX10_isPlain 15 = .ok (.if_icmp .eq 13, 3) := by decide +kernel
theorem dX10_isPlain_18 : decode cX10_isPlain 18 = .ok (.iload_n 0, 1) := by decide +kernel
theorem dX10_isPlain_19 : decode cX10_isPlain 19 = .ok (.bipush 125, 2) := by decide +kernel
theorem dX10_isPlain_21 : decode cX10_isPlain 21 = .ok (.if_icmp .eq 7, 3) := by decide +kernel
theorem dX10_isPlain_24 : decode cX10_isPlain 24 = .ok (.iconst 1, 1) := by decide +kernel
theorem dX10_isPlain_25 : decode cX10_isPlain 25 = .ok (.goto 4, 3) := by decide +kernel
theorem dX10_isPlain_28 : decode cX10_isPlain 28 = .ok (.iconst 0, 1) := by decide +kernel
theorem dX10_isPlain_29 : decode cX10_isPlain 29 = .ok (.ireturn, 1) := by decide +kernel
theorem dX10_takeFact_0 : decode cX10_takeFact 0 = .ok (.aload_n 0, 1) := by decide +kernel
theorem dX10_takeFact_1 : decode cX10_takeFact 1 = .ok (.getfield 39, 3) := by decide +kernel
theorem dX10_takeFact_4 : decode cX10_takeFact 4 = .ok (.istore_n 2, 1) := by decide +kernel
theorem dX10_takeFact_5 : decode cX10_takeFact 5 = .ok (.aload_n 0, 1) := by decide +kernel
theorem dX10_takeFact_6 : decode cX10_takeFact 6 = .ok (.invokevirtual 120, 3) := by decide +kernel
theorem dX10_takeFact_9 : decode cX10_takeFact 9 = .ok (.ifCond .ne 5, 3) := by decide +kernel
theorem dX10_takeFact_12 : decode cX10_takeFact 12 = .ok (.iconst 0, 1) := by decide +kernel
theorem dX10_takeFact_13 : decode cX10_takeFact 13 = .ok (.ireturn, 1) := by decide +kernel
theorem dX10_takeFact_14 : decode cX10_takeFact 14 = .ok (.aload_n 0, 1) := by decide +kernel
theorem dX10_takeFact_15 : decode cX10_takeFact 15 = .ok (.getfield 23, 3) := by decide +kernel
theorem dX10_takeFact_18 : decode cX10_takeFact 18 = .ok (.invokevirtual 170, 3) := by decide +kernel
theorem dX10_takeFact_21 : decode cX10_takeFact 21 = .ok (.ifCond .eq 10, 3) := by decide +kernel
theorem dX10_takeFact_24 : decode cX10_takeFact 24 = .ok (.aload_n 0, 1) := by decide +kernel
theorem dX10_takeFact_25 : decode cX10_takeFact 25 = .ok (.iconst 5, 1) := by decide +kernel
theorem dX10_takeFact_26 : decode cX10_takeFact 26 = .ok (.iload_n 2, 1) := by decide +kernel
theorem dX10_takeFact_27 : decode cX10_takeFact 27 = .ok (.invokevirtual 60, 3) := by decide +kernel
theorem dX10_takeFact_30 : decode cX10_takeFact 30 = .ok (.ireturn, 1) := by decide +kernel
theorem dX10_takeFact_31 : decode cX10_takeFact 31 = .ok (.aload_n 0, 1) := by decide +kernel
theorem dX10_takeFact_32 : decode cX10_takeFact 32 = .ok (.getfield 23, 3) := by decide +kernel
theorem dX10_takeFact_35 : decode cX10_takeFact 35 = .ok (.iload_n 1, 1) := by decide +kernel
theorem dX10_takeFact_36 : decode cX10_takeFact 36 = .ok (.aload_n 0, 1) := by decide +kernel
theorem dX10_takeFact_37 : decode cX10_takeFact 37 = .ok (.getfield 19, 3) := by decide +kernel
theorem dX10_takeFact_40 : decode cX10_takeFact 40 = .ok (.getfield 171, 3) := by decide +kernel
theorem dX10_takeFact_43 : decode cX10_takeFact 43 = .ok (.iload_n 2, 1) := by decide +kernel
theorem dX10_takeFact_44 : decode cX10_takeFact 44 = .ok (.aload_n 0, 1) := by decide +kernel
theorem dX10_takeFact_45 : decode cX10_takeFact 45 = .ok (.getfield 54, 3) := by decide +kernel
theorem dX10_takeFact_48 : decode cX10_takeFact 48 = .ok (.isub, 1) := by decide +kernel
theorem dX10_takeFact_49 : decode cX10_takeFact 49 = .ok (.invokevirtual 172, 3) := by decide +kernel
theorem dX10_takeFact_52 : decode cX10_takeFact 52 = .ok (.aload_n 0, 1) := by decide +kernel
theorem dX10_takeFact_53 : decode cX10_takeFact 53 = .ok (.invokevirtual 175, 3) := by decide +kernel
theorem dX10_takeFact_56 : decode cX10_takeFact 56 = .ok (.ifCond .ne 5, 3) := by decide +kernel
theorem dX10_takeFact_59 : decode cX10_takeFact 59 = .ok (.iconst 0, 1) := by decide +kernel
theorem dX10_takeFact_60 : decode cX10_takeFact 60 = .ok (.ireturn, 1) := by decide +kernel
theorem dX10_takeFact_61 : decode cX10_takeFact 61 = .ok (.aload_n 0, 1) := by decide +kernel
theorem dX10_takeFact_62 : decode cX10_takeFact 62 = .ok (.getfield 178, 3) := by decide +kernel
theorem dX10_takeFact_65 : decode cX10_takeFact 65 = .ok (.istore_n 3, 1) := by decide +kernel
theorem dX10_takeFact_66 : decode cX10_takeFact 66 = .ok (.aload_n 0, 1) := by decide +kernel
theorem dX10_takeFact_67 : decode cX10_takeFact 67 = .ok (.bipush 64, 2) := by decide +kernel
theorem dX10_takeFact_69 : decode cX10_takeFact 69 = .ok (.invokevirtual 155, 3) := by decide +kernel
theorem dX10_takeFact_72 : decode cX10_takeFact 72 = .ok (.ifCond .eq 10, 3) := by decide +kernel
theorem dX10_takeFact_75 : decode cX10_takeFact 75 = .ok (.aload_n 0, 1) := by decide +kernel
theorem dX10_takeFact_76 : decode cX10_takeFact 76 = .ok (.invokevirtual 175, 3) := by decide +kernel
theorem dX10_takeFact_79 : decode cX10_takeFact 79 = .ok (.ifCond .ne 5, 3) := by decide +kernel
theorem dX10_takeFact_82 : decode cX10_takeFact 82 = .ok (.iconst 0, 1) := by decide +kernel
theorem dX10_takeFact_83 : decode cX10_takeFact 83 = .ok (.ireturn, 1) := by decide +kernel
theorem dX10_takeFact_84 : decode cX10_takeFact 84 = .ok (.aload_n 0, 1) := by decide +kernel
theorem dX10_takeFact_85 : decode cX10_takeFact 85 = .ok (.getfield 178, 3) := by decide +kernel
theorem dX10_takeFact_88 : decode cX10_takeFact 88 = .ok (.istore 4, 2) := by decide +kernel
theorem dX10_takeFact_90 : decode cX10_takeFact 90 = .ok (.aload_n 0, 1) := by decide +kernel
theorem dX10_takeFact_91 : decode cX10_takeFact 91 = .ok (.bipush 61, 2) := by decide +kernel
theorem dX10_takeFact_93 : decode cX10_takeFact 93 = .ok (.invokevirtual 155, 3) := by decide +kernel
theorem dX10_takeFact_96 : decode cX10_takeFact 96 = .ok (.ifCond .eq 10, 3) := by decide +kernel
theorem dX10_takeFact_99 : decode cX10_takeFact 99 = .ok (.aload_n 0, 1) := by decide +kernel
theorem dX10_takeFact_100 : decode cX10_takeFact 100 = .ok (.invokevirtual 175, 3) := by decide +kernel
theorem dX10_takeFact_103 : decode cX10_takeFact 103 = .ok (.ifCond .ne 5, 3) := by decide +kernel
theorem dX10_takeFact_106 : decode cX10_takeFact 106 = .ok (.iconst 0, 1) := by decide +kernel
theorem dX10_takeFact_107 : decode cX10_takeFact 107 = .ok (.ireturn, 1) := by decide +kernel
theorem dX10_takeFact_108 : decode cX10_takeFact 108 = .ok (.aload_n 0, 1) := by decide +kernel
theorem dX10_takeFact_109 : decode cX10_takeFact 109 = .ok (.getfield 23, 3) := by decide +kernel
theorem dX10_takeFact_112 : decode cX10_takeFact 112 = .ok (.iload_n 3, 1) := by decide +kernel
theorem dX10_takeFact_113 : decode cX10_takeFact 113 = .ok (.iload 4, 2) := by decide +kernel
theorem dX10_takeFact_115 : decode cX10_takeFact 115 = .ok (.aload_n 0, 1) := by decide +kernel
theorem dX10_takeFact_116 : decode cX10_takeFact 116 = .ok (.getfield 178, 3) := by decide +kernel
theorem dX10_takeFact_119 : decode cX10_takeFact 119 = .ok (.invokevirtual 181, 3) := by decide +kernel
theorem dX10_takeFact_122 : decode cX10_takeFact 122 = .ok (.aload_n 0, 1) := by decide +kernel
theorem dX10_takeFact_123 : decode cX10_takeFact 123 = .ok (.bipush 125, 2) := by decide +kernel
theorem dX10_takeFact_125 : decode cX10_takeFact 125 = .ok (.invokevirtual 155, 3) := by decide +kernel
theorem dX10_takeFact_128 : decode cX10_takeFact 128 = .ok (.ireturn, 1) := by decide +kernel
theorem dX10_takeNumber_0 : decode cX10_takeNumber 0 = .ok (.aload_n 0, 1) := by decide +kernel
theorem dX10_takeNumber_1 : decode cX10_takeNumber 1 = .ok (.iconst 0, 1) := by decide +kernel
theorem dX10_takeNumber_2 : decode cX10_takeNumber 2 = .ok (.putfield 178, 3) := by decide +kernel
theorem dX10_takeNumber_5 : decode cX10_takeNumber 5 = .ok (.iconst 0, 1) := by decide +kernel
theorem dX10_takeNumber_6 : decode cX10_takeNumber 6 = .ok (.istore_n 1, 1) := by decide +kernel
theorem dX10_takeNumber_7 : decode cX10_takeNumber 7 = .ok (.iload_n 1, 1) := by decide +kernel
theorem dX10_takeNumber_8 : decode cX10_takeNumber 8 = .ok (.iconst 4, 1) := by decide +kernel
theorem dX10_takeNumber_9 : decode cX10_takeNumber 9 = .ok (.if_icmp .gt 88, 3) := by decide +kernel
theorem dX10_takeNumber_12 : decode cX10_takeNumber 12 = .ok (.aload_n 0, 1) := by decide +kernel
theorem dX10_takeNumber_13 : decode cX10_takeNumber 13 = .ok (.invokevirtual 116, 3) := by decide +kernel
theorem dX10_takeNumber_16 : decode cX10_takeNumber 16 = .ok (.istore_n 2, 1) := by decide +kernel
theorem dX10_takeNumber_17 : decode cX10_takeNumber 17 = .ok (.iload_n 2, 1) := by decide +kernel
theorem dX10_takeNumber_18 : decode cX10_takeNumber 18 = .ok (.bipush 48, 2) := by decide +kernel
theorem dX10_takeNumber_20 : decode cX10_takeNumber 20 = .ok (.if_icmp .lt 9, 3) := by decide +kernel
theorem dX10_takeNumber_23 : decode cX10_takeNumber 23 = .ok (.iload_n 2, 1) := by decide +kernel
theorem dX10_takeNumber_24 : decode cX10_takeNumber 24 = .ok (.bipush 57, 2) := by decide +kernel
theorem dX10_takeNumber_26 : decode cX10_takeNumber 26 = .ok (.if_icmp .le 25, 3) := by decide +kernel
theorem dX10_takeNumber_29 : decode cX10_takeNumber 29 = .ok (.iload_n 1, 1) := by decide +kernel
theorem dX10_takeNumber_30 : decode cX10_takeNumber 30 = .ok (.ifCond .gt 15, 3) := by decide +kernel
theorem dX10_takeNumber_33 : decode cX10_takeNumber 33 = .ok (.aload_n 0, 1) := by decide +kernel
theorem dX10_takeNumber_34 : decode cX10_takeNumber 34 = .ok (.iconst 1, 1) := by decide +kernel
theorem dX10_takeNumber_35 : decode cX10_takeNumber 35 = .ok (.aload_n 0, 1) := by decide +kernel
theorem dX10_takeNumber_36 : decode cX10_takeNumber 36 = .ok (.getfield 39, 3) := by decide +kernel
theorem dX10_takeNumber_39 : decode cX10_takeNumber 39 = .ok (.invokevirtual 60, 3) := by decide +kernel
theorem dX10_takeNumber_42 : decode cX10_takeNumber 42 = .ok (.ifCond .eq 7, 3) := by decide +kernel
theorem dX10_takeNumber_45 : decode cX10_takeNumber 45 = .ok (.iconst 1, 1) := by decide +kernel
theorem dX10_takeNumber_46 : decode cX10_takeNumber 46 = .ok (.goto 4, 3) := by decide +kernel
theorem dX10_takeNumber_49 : decode cX10_takeNumber 49 = .ok (.iconst 0, 1) := by decide +kernel
theorem dX10_takeNumber_50 : decode cX10_takeNumber 50 = .ok (.ireturn, 1) := by decide +kernel
theorem dX10_takeNumber_51 : decode cX10_takeNumber 51 = .ok (.iload_n 1, 1) := by decide +kernel
theorem dX10_takeNumber_52 : decode cX10_takeNumber 52 = .ok (.iconst 4, 1) := by decide +kernel
theorem dX10_takeNumber_53 : decode cX10_takeNumber 53 = .ok (.if_icmp .ne 13, 3) := by decide +kernel
theorem dX10_takeNumber_56 : decode cX10_takeNumber 56 = .ok (.aload_n 0, 1) := by decide +kernel
theorem dX10_takeNumber_57 : decode cX10_takeNumber 57 = .ok (.iconst 2, 1) := by decide +kernel
theorem dX10_takeNumber_58 : decode cX10_takeNumber 58 = .ok (.aload_n 0, 1) := by decide +kernel
theorem dX10_takeNumber_59 : decode cX10_takeNumber 59 = .ok (.getfield 39, 3) := by decide +kernel
theorem dX10_takeNumber_62 : decode cX10_takeNumber 62 = .ok (.invokevirtual 60, 3) := by decide +kernel
theorem dX10_takeNumber_65 : decode cX10_takeNumber 65 = .ok (.ireturn, 1) := by decide +kernel
theorem dX10_takeNumber_66 : decode cX10_takeNumber 66 = .ok (.aload_n 0, 1) := by decide +kernel
theorem dX10_takeNumber_67 : decode cX10_takeNumber 67 = .ok (.invokevirtual 120, 3) := by decide +kernel
theorem dX10_takeNumber_70 : decode cX10_takeNumber 70 = .ok (.ifCond .ne 5, 3) := by decide +kernel
theorem dX10_takeNumber_73 : decode cX10_takeNumber 73 = .ok (.iconst 0, 1) := by decide +kernel
theorem dX10_takeNumber_74 : decode cX10_takeNumber 74 = .ok (.ireturn, 1) := by decide +kernel
theorem dX10_takeNumber_75 : decode cX10_takeNumber 75 = .ok (.aload_n 0, 1) := by decide +kernel
theorem dX10_takeNumber_76 : decode cX10_takeNumber 76 = .ok (.bipush 10, 2) := by decide +kernel
theorem dX10_takeNumber_78 : decode cX10_takeNumber 78 = .ok (.aload_n 0, 1) := by decide +kernel
theorem dX10_takeNumber_79 : decode cX10_takeNumber 79 = .ok (.getfield 178, 3) := by decide +kernel
theorem dX10_takeNumber_82 : decode cX10_takeNumber 82 = .ok (.imul, 1) := by decide +kernel
theorem dX10_takeNumber_83 : decode cX10_takeNumber 83 = .ok (.iload_n 2, 1) := by decide +kernel
theorem dX10_takeNumber_84 : decode cX10_takeNumber 84 = .ok (.iadd, 1) := by decide +kernel
theorem dX10_takeNumber_85 : decode cX10_takeNumber 85 = .ok (.bipush 48, 2) := by decide +kernel
theorem dX10_takeNumber_87 : decode cX10_takeNumber 87 = .ok (.isub, 1) := by decide +kernel
theorem dX10_takeNumber_88 : decode cX10_takeNumber 88 = .ok (.putfield 178, 3) := by decide +kernel
theorem dX10_takeNumber_91 : decode cX10_takeNumber 91 = .ok (.iinc 1 1, 3) := by decide +kernel
theorem dX10_takeNumber_94 : decode cX10_takeNumber 94 = .ok (.goto (-87), 3) := by decide +kernel
theorem dX10_takeNumber_97 : decode cX10_takeNumber 97 = .ok (.iconst 0, 1) := by decide +kernel
theorem dX10_takeNumber_98 : decode cX10_takeNumber 98 = .ok (.ireturn, 1) := by decide +kernel
theorem dX10_takeMention_0 : decode cX10_takeMention 0 = .ok (.aload_n 0, 1) := by decide +kernel
theorem dX10_takeMention_1 : decode cX10_takeMention 1 = .ok (.getfield 39, 3) := by decide +kernel
theorem dX10_takeMention_4 : decode cX10_takeMention 4 = .ok (.istore_n 2, 1) := by decide +kernel
theorem dX10_takeMention_5 : decode cX10_takeMention 5 = .ok (.aload_n 0, 1) := by decide +kernel
theorem dX10_takeMention_6 : decode cX10_takeMention 6 = .ok (.invokevirtual 120, 3) := by decide +kernel
theorem dX10_takeMention_9 : decode cX10_takeMention 9 = .ok (.ifCond .ne 5, 3) := by decide +kernel
theorem dX10_takeMention_12 : decode cX10_takeMention 12 = .ok (.iconst 0, 1) := by decide +kernel
theorem dX10_takeMention_13 : decode cX10_takeMention 13 = .ok (.ireturn, 1) := by decide +kernel
theorem dX10_takeMention_14 : decode cX10_takeMention 14 = .ok (.aload_n 0, 1) := by decide +kernel
theorem dX10_takeMention_15 : decode cX10_takeMention 15 = .ok (.getfield 27, 3) := by decide +kernel
theorem dX10_takeMention_18 : decode cX10_takeMention 18 = .ok (.invokevirtual 184, 3) := by decide +kernel
theorem dX10_takeMention_21 : decode cX10_takeMention 21 = .ok (.ifCond .eq 10, 3) := by decide +kernel
theorem dX10_takeMention_24 : decode cX10_takeMention 24 = .ok (.aload_n 0, 1) := by decide +kernel
theorem dX10_takeMention_25 : decode cX10_takeMention 25 = .ok (.iconst 5, 1) := by decide +kernel
theorem dX10_takeMention_26 : decode cX10_takeMention 26 = .ok (.iload_n 2, 1) := by decide +kernel
theorem dX10_takeMention_27 : decode cX10_takeMention 27 = .ok (.invokevirtual 60, 3) := by decide +kernel
theorem dX10_takeMention_30 : decode cX10_takeMention 30 = .ok (.ireturn, 1) := by decide +kernel
theorem dX10_takeMention_31 : decode cX10_takeMention 31 = .ok (.aload_n 0, 1) := by decide +kernel
theorem dX10_takeMention_32 : decode cX10_takeMention 32 = .ok (.invokevirtual 185, 3) := by decide +kernel
theorem dX10_takeMention_35 : decode cX10_takeMention 35 = .ok (.ifCond .ne 5, 3) := by decide +kernel
theorem dX10_takeMention_38 : decode cX10_takeMention 38 = .ok (.iconst 0, 1) := by decide +kernel
theorem dX10_takeMention_39 : decode cX10_takeMention 39 = .ok (.ireturn, 1) := by decide +kernel
theorem dX10_takeMention_40 : decode cX10_takeMention 40 = .ok (.aload_n 0, 1) := by decide +kernel
theorem dX10_takeMention_41 : decode cX10_takeMention 41 = .ok (.getfield 31, 3) := by decide +kernel
theorem dX10_takeMention_44 : decode cX10_takeMention 44 = .ok (.aload_n 0, 1) := by decide +kernel
theorem dX10_takeMention_45 : decode cX10_takeMention 45 = .ok (.getfield 188, 3) := by decide +kernel
theorem dX10_takeMention_48 : decode cX10_takeMention 48 = .ok (.iload_n 1, 1) := by decide +kernel
theorem dX10_takeMention_49 : decode cX10_takeMention 49 = .ok (.invokevirtual 192, 3) := by decide +kernel
theorem dX10_takeMention_52 : decode cX10_takeMention 52 = .ok (.istore_n 3, 1) := by decide +kernel
theorem dX10_takeMention_53 : decode cX10_takeMention 53 = .ok (.iload_n 3, 1) := by decide +kernel
theorem dX10_takeMention_54 : decode cX10_takeMention 54 = .ok (.iconst (-1), 1) := by decide +kernel
theorem dX10_takeMention_55 : decode cX10_takeMention 55 = .ok (.if_icmp .ne 12, 3) := by decide +kernel
theorem dX10_takeMention_58 : decode cX10_takeMention 58 = .ok (.aload_n 0, 1) := by decide +kernel
theorem dX10_takeMention_59 : decode cX10_takeMention 59 = .ok (.iconst 4, 1) := by decide +kernel
theorem dX10_takeMention_60 : decode cX10_takeMention 60 = .ok (.iload_n 2, 1) := by decide +kernel
theorem dX10_takeMention_61 : decode cX10_takeMention 61 = .ok (.iconst 1, 1) := by decide +kernel
theorem dX10_takeMention_62 : decode cX10_takeMention 62 = .ok (.iadd, 1) := by decide +kernel
theorem dX10_takeMention_63 : decode cX10_takeMention 63 = .ok (.invokevirtual 60, 3) := by decide +kernel
theorem dX10_takeMention_66 : decode cX10_takeMention 66 = .ok (.ireturn, 1) := by decide +kernel
theorem dX10_takeMention_67 : decode cX10_takeMention 67 = .ok (.aload_n 0, 1) := by decide +kernel
theorem dX10_takeMention_68 : decode cX10_takeMention 68 = .ok (.getfield 27, 3) := by decide +kernel
theorem dX10_takeMention_71 : decode cX10_takeMention 71 = .ok (.iload_n 1, 1) := by decide +kernel
theorem dX10_takeMention_72 : decode cX10_takeMention 72 = .ok (.iload_n 3, 1) := by decide +kernel
theorem dX10_takeMention_73 : decode cX10_takeMention 73 = .ok (.invokevirtual 196, 3) := by decide +kernel
theorem dX10_takeMention_76 : decode cX10_takeMention 76 = .ok (.aload_n 0, 1) := by decide +kernel
theorem dX10_takeMention_77 : decode cX10_takeMention 77 = .ok (.bipush 62, 2) := by decide +kernel
theorem dX10_takeMention_79 : decode cX10_takeMention 79 = .ok (.invokevirtual 155, 3) := by decide +kernel
theorem dX10_takeMention_82 : decode cX10_takeMention 82 = .ok (.ireturn, 1) := by decide +kernel
theorem dX10_takeNaming_0 : decode cX10_takeNaming 0 = .ok (.aload_n 0, 1) := by decide +kernel
theorem dX10_takeNaming_1 : decode cX10_takeNaming 1 = .ok (.getfield 39, 3) := by decide +kernel
theorem dX10_takeNaming_4 : decode cX10_takeNaming 4 = .ok (.istore_n 2, 1) := by decide +kernel
theorem dX10_takeNaming_5 : decode cX10_takeNaming 5 = .ok (.aload_n 0, 1) := by decide +kernel
theorem dX10_takeNaming_6 : decode cX10_takeNaming 6 = .ok (.invokevirtual 185, 3) := by decide +kernel
theorem dX10_takeNaming_9 : decode cX10_takeNaming 9 = .ok (.ifCond .ne 5, 3) := by decide +kernel
theorem dX10_takeNaming_12 : decode cX10_takeNaming 12 = .ok (.iconst 0, 1) := by decide +kernel
theorem dX10_takeNaming_13 : decode cX10_takeNaming 13 = .ok (.ireturn, 1) := by decide +kernel
theorem dX10_takeNaming_14 : decode cX10_takeNaming 14 = .ok (.aload_n 0, 1) := by decide +kernel
theorem dX10_takeNaming_15 : decode cX10_takeNaming 15 = .ok (.getfield 31, 3) := by decide +kernel
theorem dX10_takeNaming_18 : decode cX10_takeNaming 18 = .ok (.aload_n 0, 1) := by decide +kernel
theorem dX10_takeNaming_19 : decode cX10_takeNaming 19 = .ok (.getfield 188, 3) := by decide +kernel
theorem dX10_takeNaming_22 : decode cX10_takeNaming 22 = .ok (.iload_n 1, 1) := by decide +kernel
theorem dX10_takeNaming_23 : decode cX10_takeNaming 23 = .ok (.invokevirtual 192, 3) := by decide +kernel
theorem dX10_takeNaming_26 : decode cX10_takeNaming 26 = .ok (.istore_n 3, 1) := by decide +kernel
theorem dX10_takeNaming_27 : decode cX10_takeNaming 27 = .ok (.aload_n 0, 1) := by decide +kernel
theorem dX10_takeNaming_28 : decode cX10_takeNaming 28 = .ok (.invokevirtual 116, 3) := by decide +kernel
theorem dX10_takeNaming_31 : decode cX10_takeNaming 31 = .ok (.bipush 32, 2) := by decide +kernel
theorem dX10_takeNaming_33 : decode cX10_takeNaming 33 = .ok (.if_icmp .ne 24, 3) := by decide +kernel
theorem dX10_takeNaming_36 : decode cX10_takeNaming 36 = .ok (.iload_n 3, 1) := by decide +kernel
theorem dX10_takeNaming_37 : decode cX10_takeNaming 37 = .ok (.iconst (-1), 1) := by decide +kernel
theorem dX10_takeNaming_38 : decode cX10_takeNaming 38 = .ok (.if_icmp .ne 12, 3) := by decide +kernel
theorem dX10_takeNaming_41 : decode cX10_takeNaming 41 = .ok (.aload_n 0, 1) := by decide +kernel
theorem dX10_takeNaming_42 : decode cX10_takeNaming 42 = .ok (.iconst 4, 1) := by decide +kernel
theorem dX10_takeNaming_43 : decode cX10_takeNaming 43 = .ok (.iload_n 2, 1) := by decide +kernel
theorem dX10_takeNaming_44 : decode cX10_takeNaming 44 = .ok (.invokevirtual 60, 3) := by decide +kernel
theorem dX10_takeNaming_47 : decode cX10_takeNaming 47 = .ok (.goto 9, 3) := by decide +kernel
theorem dX10_takeNaming_50 : decode cX10_takeNaming 50 = .ok (.aload_n 0, 1) := by decide +kernel
theorem dX10_takeNaming_51 : decode cX10_takeNaming 51 = .ok (.iload_n 1, 1) := by decide +kernel
theorem dX10_takeNaming_52 : decode cX10_takeNaming 52 = .ok (.iload_n 3, 1) := by decide +kernel
theorem dX10_takeNaming_53 : decode cX10_takeNaming 53 = .ok (.invokevirtual 197, 3) := by decide +kernel
theorem dX10_takeNaming_56 : decode cX10_takeNaming 56 = .ok (.ireturn, 1) := by decide +kernel
theorem dX10_takeNaming_57 : decode cX10_takeNaming 57 = .ok (.iload_n 3, 1) := by decide +kernel
theorem dX10_takeNaming_58 : decode cX10_takeNaming 58 = .ok (.iconst (-1), 1) := by decide +kernel
theorem dX10_takeNaming_59 : decode cX10_takeNaming 59 = .ok (.if_icmp .eq 10, 3) := by decide +kernel
theorem dX10_takeNaming_62 : decode cX10_takeNaming 62 = .ok (.aload_n 0, 1) := by decide +kernel
theorem dX10_takeNaming_63 : decode cX10_takeNaming 63 = .ok (.iconst 4, 1) := by decide +kernel
theorem dX10_takeNaming_64 : decode cX10_takeNaming 64 = .ok (.iload_n 2, 1) := by decide +kernel
theorem dX10_takeNaming_65 : decode cX10_takeNaming 65 = .ok (.invokevirtual 60, 3) := by decide +kernel
theorem dX10_takeNaming_68 : decode cX10_takeNaming 68 = .ok (.ireturn, 1) := by decide +kernel
theorem dX10_takeNaming_69 : decode cX10_takeNaming 69 = .ok (.aload_n 0, 1) := by decide +kernel
theorem dX10_takeNaming_70 : decode cX10_takeNaming 70 = .ok (.getfield 31, 3) := by decide +kernel
theorem dX10_takeNaming_73 : decode cX10_takeNaming 73 = .ok (.invokevirtual 200, 3) := by decide +kernel
theorem dX10_takeNaming_76 : decode cX10_takeNaming 76 = .ok (.istore 4, 2) := by decide +kernel
theorem dX10_takeNaming_78 : decode cX10_takeNaming 78 = .ok (.iload 4, 2) := by decide +kernel
theorem dX10_takeNaming_80 : decode cX10_takeNaming 80 = .ok (.bipush 20, 2) := by decide +kernel
theorem dX10_takeNaming_82 : decode cX10_takeNaming 82 = .ok (.if_icmp .lt 10, 3) := by decide +kernel
theorem dX10_takeNaming_85 : decode cX10_takeNaming 85 = .ok (.aload_n 0, 1) := by decide +kernel
theorem dX10_takeNaming_86 : decode cX10_takeNaming 86 = .ok (.iconst 5, 1) := by decide +kernel
theorem dX10_takeNaming_87 : decode cX10_takeNaming 87 = .ok (.iload_n 2, 1) := by decide +kernel
theorem dX10_takeNaming_88 : decode cX10_takeNaming 88 = .ok (.invokevirtual 60, 3) := by decide +kernel
theorem dX10_takeNaming_91 : decode cX10_takeNaming 91 = .ok (.ireturn, 1) := by decide +kernel
theorem dX10_takeNaming_92 : decode cX10_takeNaming 92 = .ok (.aload_n 0, 1) := by decide +kernel
theorem dX10_takeNaming_93 : decode cX10_takeNaming 93 = .ok (.getfield 31, 3) := by decide +kernel
theorem dX10_takeNaming_96 : decode cX10_takeNaming 96 = .ok (.iload_n 1, 1) := by decide +kernel
theorem dX10_takeNaming_97 : decode cX10_takeNaming 97 = .ok (.iload 4, 2) := by decide +kernel
theorem dX10_takeNaming_99 : decode cX10_takeNaming 99 = .ok (.aload_n 0, 1) := by decide +kernel
theorem dX10_takeNaming_100 : decode cX10_takeNaming 100 = .ok (.getfield 188, 3) := by decide +kernel
theorem dX10_takeNaming_103 : decode cX10_takeNaming 103 = .ok (.invokevirtual 203, 3) := by decide +kernel
theorem dX10_takeNaming_106 : decode cX10_takeNaming 106 = .ok (.aload_n 0, 1) := by decide +kernel
theorem dX10_takeNaming_107 : decode cX10_takeNaming 107 = .ok (.invokevirtual 158, 3) := by decide +kernel
theorem dX10_takeNaming_110 : decode cX10_takeNaming 110 = .ok (.ifCond .ne 15, 3) := by decide +kernel
theorem dX10_takeNaming_113 : decode cX10_takeNaming 113 = .ok (.aload_n 0, 1) := by decide +kernel
theorem dX10_takeNaming_114 : decode cX10_takeNaming 114 = .ok (.iconst 1, 1) := by decide +kernel
theorem dX10_takeNaming_115 : decode cX10_takeNaming 115 = .ok (.aload_n 0, 1) := by decide +kernel
theorem dX10_takeNaming_116 : decode cX10_takeNaming 116 = .ok (.getfield 39, 3) := by decide +kernel
theorem dX10_takeNaming_119 : decode cX10_takeNaming 119 = .ok (.invokevirtual 60, 3) := by decide +kernel
theorem dX10_takeNaming_122 : decode cX10_takeNaming 122 = .ok (.ifCond .eq 7, 3) := by decide +kernel
theorem dX10_takeNaming_125 : decode cX10_takeNaming 125 = .ok (.iconst 1, 1) := by decide +kernel
theorem dX10_takeNaming_126 : decode cX10_takeNaming 126 = .ok (.goto 4, 3) := by decide +kernel
theorem dX10_takeNaming_129 : decode cX10_takeNaming 129 = .ok (.iconst 0, 1) := by decide +kernel
theorem dX10_takeNaming_130 : decode cX10_takeNaming 130 = .ok (.ireturn, 1) := by decide +kernel
theorem dX10_takeNewName_0 : decode cX10_takeNewName 0 = .ok (.aload_n 0, 1) := by decide +kernel
theorem dX10_takeNewName_1 : decode cX10_takeNewName 1 = .ok (.dup, 1) := by decide +kernel
theorem dX10_takeNewName_2 : decode cX10_takeNewName 2 = .ok (.getfield 39, 3) := by decide +kernel
theorem dX10_takeNewName_5 : decode cX10_takeNewName 5 = .ok (.iconst 1, 1) := by decide +kernel
theorem dX10_takeNewName_6 : decode cX10_takeNewName 6 = .ok (.iadd, 1) := by decide +kernel
theorem dX10_takeNewName_7 : decode cX10_takeNewName 7 = .ok (.putfield 39, 3) := by decide +kernel
theorem dX10_takeNewName_10 : decode cX10_takeNewName 10 = .ok (.aload_n 0, 1) := by decide +kernel
theorem dX10_takeNewName_11 : decode cX10_takeNewName 11 = .ok (.getfield 39, 3) := by decide +kernel
theorem dX10_takeNewName_14 : decode cX10_takeNewName 14 = .ok (.istore_n 3, 1) := by decide +kernel
theorem dX10_takeNewName_15 : decode cX10_takeNewName 15 = .ok (.aload_n 0, 1) := by decide +kernel
theorem dX10_takeNewName_16 : decode cX10_takeNewName 16 = .ok (.invokevirtual 185, 3) := by decide +kernel
theorem dX10_takeNewName_19 : decode cX10_takeNewName 19 = .ok (.ifCond .ne 5, 3) := by decide +kernel
theorem dX10_takeNewName_22 : decode cX10_takeNewName 22 = .ok (.iconst 0, 1) := by decide +kernel
theorem dX10_takeNewName_23 : decode cX10_takeNewName 23 = .ok (.ireturn, 1) := by decide +kernel
theorem dX10_takeNewName_24 : decode cX10_takeNewName 24 = .ok (.aload_n 0, 1) := by decide +kernel
theorem dX10_takeNewName_25 : decode cX10_takeNewName 25 = .ok (.getfield 31, 3) := by decide +kernel
theorem dX10_takeNewName_28 : decode cX10_takeNewName 28 = .ok (.aload_n 0, 1) := by decide +kernel
theorem dX10_takeNewName_29 : decode cX10_takeNewName 29 = .ok (.getfield 188, 3) := by decide +kernel
theorem dX10_takeNewName_32 : decode cX10_takeNewName 32 = .ok (.iload_n 1, 1) := by decide +kernel
theorem dX10_takeNewName_33 : decode cX10_takeNewName 33 = .ok (.invokevirtual 192, 3) := by decide +kernel
theorem dX10_takeNewName_36 : decode cX10_takeNewName 36 = .ok (.iconst (-1), 1) := by decide +kernel
theorem dX10_takeNewName_37 : decode cX10_takeNewName 37 = .ok (.if_icmp .eq 10, 3) := by decide +kernel
theorem dX10_takeNewName_40 : decode cX10_takeNewName 40 = .ok (.aload_n 0, 1) := by decide +kernel
theorem dX10_takeNewName_41 : decode cX10_takeNewName 41 = .ok (.iconst 4, 1) := by decide +kernel
theorem dX10_takeNewName_42 : decode cX10_takeNewName 42 = .ok (.iload_n 3, 1) := by decide +kernel
theorem dX10_takeNewName_43 : decode cX10_takeNewName 43 = .ok (.invokevirtual 60, 3) := by decide +kernel
theorem dX10_takeNewName_46 : decode cX10_takeNewName 46 = .ok (.ireturn, 1) := by decide +kernel
theorem dX10_takeNewName_47 : decode cX10_takeNewName 47 = .ok (.aload_n 0, 1) := by decide +kernel
theorem dX10_takeNewName_48 : decode cX10_takeNewName 48 = .ok (.getfield 31, 3) := by decide +kernel
theorem dX10_takeNewName_51 : decode cX10_takeNewName 51 = .ok (.iload_n 1, 1) := by decide +kernel
theorem dX10_takeNewName_52 : decode cX10_takeNewName 52 = .ok (.iload_n 2, 1) := by decide +kernel
theorem dX10_takeNewName_53 : decode cX10_takeNewName 53 = .ok (.aload_n 0, 1) := by decide +kernel
theorem dX10_takeNewName_54 : decode cX10_takeNewName 54 = .ok (.getfield 188, 3) := by decide +kernel
theorem dX10_takeNewName_57 : decode cX10_takeNewName 57 = .ok (.invokevirtual 203, 3) := by decide +kernel
theorem dX10_takeNewName_60 : decode cX10_takeNewName 60 = .ok (.aload_n 0, 1) := by decide +kernel
theorem dX10_takeNewName_61 : decode cX10_takeNewName 61 = .ok (.invokevirtual 158, 3) := by decide +kernel
theorem dX10_takeNewName_64 : decode cX10_takeNewName 64 = .ok (.ifCond .ne 15, 3) := by decide +kernel
theorem dX10_takeNewName_67 : decode cX10_takeNewName 67 = .ok (.aload_n 0, 1) := by decide +kernel
theorem dX10_takeNewName_68 : decode cX10_takeNewName 68 = .ok (.iconst 1, 1) := by decide +kernel
theorem dX10_takeNewName_69 : decode cX10_takeNewName 69 = .ok (.aload_n 0, 1) := by decide +kernel
theorem dX10_takeNewName_70 : decode cX10_takeNewName 70 = .ok (.getfield 39, 3) := by decide +kernel
theorem dX10_takeNewName_73 : decode cX10_takeNewName 73 = .ok (.invokevirtual 60, 3) := by decide +kernel
theorem dX10_takeNewName_76 : decode cX10_takeNewName 76 = .ok (.ifCond .eq 7, 3) := by decide +kernel
theorem dX10_takeNewName_79 : decode cX10_takeNewName 79 = .ok (.iconst 1, 1) := by decide +kernel
theorem dX10_takeNewName_80 : decode cX10_takeNewName 80 = .ok (.goto 4, 3) := by decide +kernel
theorem dX10_takeNewName_83 : decode cX10_takeNewName 83 = .ok (.iconst 0, 1) := by decide +kernel
theorem dX10_takeNewName_84 : decode cX10_takeNewName 84 = .ok (.ireturn, 1) := by decide +kernel
theorem dX10_takeName_0 : decode cX10_takeName 0 = .ok (.aload_n 0, 1) := by decide +kernel
theorem dX10_takeName_1 : decode cX10_takeName 1 = .ok (.lconst 0, 1) := by decide +kernel
theorem dX10_takeName_2 : decode cX10_takeName 2 = .ok (.putfield 188, 3) := by decide +kernel
theorem dX10_takeName_5 : decode cX10_takeName 5 = .ok (.iconst 0, 1) := by decide +kernel
theorem dX10_takeName_6 : decode cX10_takeName 6 = .ok (.istore_n 1, 1) := by decide +kernel
theorem dX10_takeName_7 : decode cX10_takeName 7 = .ok (.iload_n 1, 1) := by decide +kernel
theorem dX10_takeName_8 : decode cX10_takeName 8 = .ok (.bipush 6, 2) := by decide +kernel
theorem dX10_takeName_10 : decode cX10_takeName 10 = .ok (.if_icmp .gt 82, 3) := by decide +kernel
theorem dX10_takeName_13 : decode cX10_takeName 13 = .ok (.aload_n 0, 1) := by decide +kernel
theorem dX10_takeName_14 : decode cX10_takeName 14 = .ok (.invokevirtual 116, 3) := by decide +kernel
theorem dX10_takeName_17 : decode cX10_takeName 17 = .ok (.istore_n 2, 1) := by decide +kernel
theorem dX10_takeName_18 : decode cX10_takeName 18 = .ok (.iload_n 2, 1) := by decide +kernel
theorem dX10_takeName_19 : decode cX10_takeName 19 = .ok (.invokestatic 206, 3) := by decide +kernel
theorem dX10_takeName_22 : decode cX10_takeName 22 = .ok (.ifCond .ne 25, 3) := by decide +kernel
theorem dX10_takeName_25 : decode cX10_takeName 25 = .ok (.iload_n 1, 1) := by decide +kernel
theorem dX10_takeName_26 : decode cX10_takeName 26 = .ok (.ifCond .gt 15, 3) := by decide +kernel
theorem dX10_takeName_29 : decode cX10_takeName 29 = .ok (.aload_n 0, 1) := by decide +kernel
theorem dX10_takeName_30 : decode cX10_takeName 30 = .ok (.iconst 1, 1) := by decide +kernel
theorem dX10_takeName_31 : decode cX10_takeName 31 = .ok (.aload_n 0, 1) := by decide +kernel
theorem dX10_takeName_32 : decode cX10_takeName 32 = .ok (.getfield 39, 3) := by decide +kernel
theorem dX10_takeName_35 : decode cX10_takeName 35 = .ok (.invokevirtual 60, 3) := by decide +kernel
theorem dX10_takeName_38 : decode cX10_takeName 38 = .ok (.ifCond .eq 7, 3) := by decide +kernel
theorem dX10_takeName_41 : decode cX10_takeName 41 = .ok (.iconst 1, 1) := by decide +kernel
theorem dX10_takeName_42 : decode cX10_takeName 42 = .ok (.goto 4, 3) := by decide +kernel
theorem dX10_takeName_45 : decode cX10_takeName 45 = .ok (.iconst 0, 1) := by decide +kernel
theorem dX10_takeName_46 : decode cX10_takeName 46 = .ok (.ireturn, 1) := by decide +kernel
theorem dX10_takeName_47 : decode cX10_takeName 47 = .ok (.iload_n 1, 1) := by decide +kernel
theorem dX10_takeName_48 : decode cX10_takeName 48 = .ok (.bipush 6, 2) := by decide +kernel
theorem dX10_takeName_50 : decode cX10_takeName 50 = .ok (.if_icmp .ne 13, 3) := by decide +kernel
theorem dX10_takeName_53 : decode cX10_takeName 53 = .ok (.aload_n 0, 1) := by decide +kernel
theorem dX10_takeName_54 : decode cX10_takeName 54 = .ok (.iconst 2, 1) := by decide +kernel
theorem dX10_takeName_55 : decode cX10_takeName 55 = .ok (.aload_n 0, 1) := by decide +kernel
theorem dX10_takeName_56 : decode cX10_takeName 56 = .ok (.getfield 39, 3) := by decide +kernel
theorem dX10_takeName_59 : decode cX10_takeName 59 = .ok (.invokevirtual 60, 3) := by decide +kernel
theorem dX10_takeName_62 : decode cX10_takeName 62 = .ok (.ireturn, 1) := by decide +kernel
theorem dX10_takeName_63 : decode cX10_takeName 63 = .ok (.aload_n 0, 1) := by decide +kernel
theorem dX10_takeName_64 : decode cX10_takeName 64 = .ok (.invokevirtual 120, 3) := by decide +kernel
theorem dX10_takeName_67 : decode cX10_takeName 67 = .ok (.ifCond .ne 5, 3) := by decide +kernel
theorem dX10_takeName_70 : decode cX10_takeName 70 = .ok (.iconst 0, 1) := by decide +kernel
theorem dX10_takeName_71 : decode cX10_takeName 71 = .ok (.ireturn, 1) := by decide +kernel
theorem dX10_takeName_72 : decode cX10_takeName 72 = .ok (.aload_n 0, 1) := by decide +kernel
theorem dX10_takeName_73 : decode cX10_takeName 73 = .ok (.aload_n 0, 1) := by decide +kernel
theorem dX10_takeName_74 : decode cX10_takeName 74 = .ok (.getfield 188, 3) := by decide +kernel
theorem dX10_takeName_77 : decode cX10_takeName 77 = .ok (.bipush 8, 2) := by decide +kernel
theorem dX10_takeName_79 : decode cX10_takeName 79 = .ok (.lshl, 1) := by decide +kernel
theorem dX10_takeName_80 : decode cX10_takeName 80 = .ok (.iload_n 2, 1) := by decide +kernel
theorem dX10_takeName_81 : decode cX10_takeName 81 = .ok (.i2l, 1) := by decide +kernel
theorem dX10_takeName_82 : decode cX10_takeName 82 = .ok (.lor, 1) := by decide +kernel
theorem dX10_takeName_83 : decode cX10_takeName 83 = .ok (.putfield 188, 3) := by decide +kernel
theorem dX10_takeName_86 : decode cX10_takeName 86 = .ok (.iinc 1 1, 3) := by decide +kernel
theorem dX10_takeName_89 : decode cX10_takeName 89 = .ok (.goto (-82), 3) := by decide +kernel
theorem dX10_takeName_92 : decode cX10_takeName 92 = .ok (.iconst 0, 1) := by decide +kernel
theorem dX10_takeName_93 : decode cX10_takeName 93 = .ok (.ireturn, 1) := by decide +kernel
theorem dX10_isOfName_0 : decode cX10_isOfName 0 = .ok (.iload_n 0, 1) := by decide +kernel
theorem dX10_isOfName_1 : decode cX10_isOfName 1 = .ok (.bipush 65, 2) := by decide +kernel
theorem dX10_isOfName_3 : decode cX10_isOfName 3 = .ok (.if_icmp .lt 9, 3) := by decide +kernel
theorem dX10_isOfName_6 : decode cX10_isOfName 6 = .ok (.iload_n 0, 1) := by decide +kernel
theorem dX10_isOfName_7 : decode cX10_isOfName 7 = .ok (.bipush 90, 2) := by decide +kernel
theorem dX10_isOfName_9 : decode cX10_isOfName 9 = .ok (.if_icmp .le 15, 3) := by decide +kernel
theorem dX10_isOfName_12 : decode cX10_isOfName 12 = .ok (.iload_n 0, 1) := by decide +kernel
theorem dX10_isOfName_13 : decode cX10_isOfName 13 = .ok (.bipush 48, 2) := by decide +kernel
theorem dX10_isOfName_15 : decode cX10_isOfName 15 = .ok (.if_icmp .lt 13, 3) := by decide +kernel
theorem dX10_isOfName_18 : decode cX10_isOfName 18 = .ok (.iload_n 0, 1) := by decide +kernel
theorem dX10_isOfName_19 : decode cX10_isOfName 19 = .ok (.bipush 57, 2) := by decide +kernel
theorem dX10_isOfName_21 : decode cX10_isOfName 21 = .ok (.if_icmp .gt 7, 3) := by decide +kernel
theorem dX10_isOfName_24 : decode cX10_isOfName 24 = .ok (.iconst 1, 1) := by decide +kernel
theorem dX10_isOfName_25 : decode cX10_isOfName 25 = .ok (.goto 4, 3) := by decide +kernel
theorem dX10_isOfName_28 : decode cX10_isOfName 28 = .ok (.iconst 0, 1) := by decide +kernel
theorem dX10_isOfName_29 : decode cX10_isOfName 29 = .ok (.ireturn, 1) := by decide +kernel
theorem dX11_init_0 : decode cX11_init 0 = .ok (.aload_n 0, 1) := by decide +kernel
theorem dX11_init_1 : decode cX11_init 1 = .ok (.invokespecial 3, 3) := by decide +kernel
theorem dX11_init_4 : decode cX11_init 4 = .ok (.aload_n 0, 1) := by decide +kernel
theorem dX11_init_5 : decode cX11_init 5 = .ok (.new 9, 3) := by decide +kernel
theorem dX11_init_8 : decode cX11_init 8 = .ok (.dup, 1) := by decide +kernel
theorem dX11_init_9 : decode cX11_init 9 = .ok (.sipush 3000, 3) := by decide +kernel
theorem dX11_init_12 : decode cX11_init 12 = .ok (.invokespecial 11, 3) := by decide +kernel
theorem dX11_init_15 : decode cX11_init 15 = .ok (.putfield 14, 3) := by decide +kernel
theorem dX11_init_18 : decode cX11_init 18 = .ok (.aload_n 0, 1) := by decide +kernel
theorem dX11_init_19 : decode cX11_init 19 = .ok (.new 9, 3) := by decide +kernel
theorem dX11_init_22 : decode cX11_init 22 = .ok (.dup, 1) := by decide +kernel
theorem dX11_init_23 : decode cX11_init 23 = .ok (.sipush 3000, 3) := by decide +kernel
theorem dX11_init_26 : decode cX11_init 26 = .ok (.invokespecial 11, 3) := by decide +kernel
theorem dX11_init_29 : decode cX11_init 29 = .ok (.putfield 18, 3) := by decide +kernel
theorem dX11_init_32 : decode cX11_init 32 = .ok (.aload_n 0, 1) := by decide +kernel
theorem dX11_init_33 : decode cX11_init 33 = .ok (.new 21, 3) := by decide +kernel
theorem dX11_init_36 : decode cX11_init 36 = .ok (.dup, 1) := by decide +kernel
theorem dX11_init_37 : decode cX11_init 37 = .ok (.invokespecial 23, 3) := by decide +kernel
theorem dX11_init_40 : decode cX11_init 40 = .ok (.putfield 24, 3) := by decide +kernel
theorem dX11_init_43 : decode cX11_init 43 = .ok (.aload_n 0, 1) := by decide +kernel
theorem dX11_init_44 : decode cX11_init 44 = .ok (.new 28, 3) := by decide +kernel
theorem dX11_init_47 : decode cX11_init 47 = .ok (.dup, 1) := by decide +kernel
theorem dX11_init_48 : decode cX11_init 48 = .ok (.invokespecial 30, 3) := by decide +kernel
theorem dX11_init_51 : decode cX11_init 51 = .ok (.putfield 31, 3) := by decide +kernel
theorem dX11_init_54 : decode cX11_init 54 = .ok (.aload_n 0, 1) := by decide +kernel
theorem dX11_init_55 : decode cX11_init 55 = .ok (.new 35, 3) := by decide +kernel
theorem dX11_init_58 : decode cX11_init 58 = .ok (.dup, 1) := by decide +kernel
theorem dX11_init_59 : decode cX11_init 59 = .ok (.invokespecial 37, 3) := by decide +kernel
theorem dX11_init_62 : decode cX11_init 62 = .ok (.putfield 38, 3) := by decide +kernel
theorem dX11_init_65 : decode cX11_init 65 = .ok (.aload_n 0, 1) := by decide +kernel
theorem dX11_init_66 : decode cX11_init 66 = .ok (.new 42, 3) := by decide +kernel
theorem dX11_init_69 : decode cX11_init 69 = .ok (.dup, 1) := by decide +kernel
theorem dX11_init_70 : decode cX11_init 70 = .ok (.invokespecial 44, 3) := by decide +kernel
theorem dX11_init_73 : decode cX11_init 73 = .ok (.putfield 45, 3) := by decide +kernel
theorem dX11_init_76 : decode cX11_init 76 = .ok (.aload_n 0, 1) := by decide +kernel
theorem dX11_init_77 : decode cX11_init 77 = .ok (.new 49, 3) := by decide +kernel
theorem dX11_init_80 : decode cX11_init 80 = .ok (.dup, 1) := by decide +kernel
theorem dX11_init_81 : decode cX11_init 81 = .ok (.invokespecial 51, 3) := by decide +kernel
theorem dX11_init_84 : decode cX11_init 84 = .ok (.putfield 52, 3) := by decide +kernel
theorem dX11_init_87 : decode cX11_init 87 = .ok (.aload_n 0, 1) := by decide +kernel
theorem dX11_init_88 : decode cX11_init 88 = .ok (.new 56, 3) := by decide +kernel
theorem dX11_init_91 : decode cX11_init 91 = .ok (.dup, 1) := by decide +kernel
theorem dX11_init_92 : decode cX11_init 92 = .ok (.invokespecial 58, 3) := by decide +kernel
theorem dX11_init_95 : decode cX11_init 95 = .ok (.putfield 59, 3) := by decide +kernel
theorem dX11_init_98 : decode cX11_init 98 = .ok (.aload_n 0, 1) := by decide +kernel
theorem dX11_init_99 : decode cX11_init 99 = .ok (.new 63, 3) := by decide +kernel
theorem dX11_init_102 : decode cX11_init 102 = .ok (.dup, 1) := by decide +kernel
theorem dX11_init_103 : decode cX11_init 103 = .ok (.invokespecial 65, 3) := by decide +kernel
theorem dX11_init_106 : decode cX11_init 106 = .ok (.putfield 66, 3) := by decide +kernel
theorem dX11_init_109 : decode cX11_init 109 = .ok (.aload_n 0, 1) := by decide +kernel
theorem dX11_init_110 : decode cX11_init 110 = .ok (.new 70, 3) := by decide +kernel
theorem dX11_init_113 : decode cX11_init 113 = .ok (.dup, 1) := by decide +kernel
theorem dX11_init_114 : decode cX11_init 114 = .ok (.aload_n 0, 1) := by decide +kernel
theorem dX11_init_115 : decode cX11_init 115 = .ok (.getfield 14, 3) := by decide +kernel
