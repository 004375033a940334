theorem dX12_cited_26 : decode cX12_cited 26 = .ok (.getfield 32, 3) := by decide +kernel
theorem dX12_cited_29 : decode cX12_cited 29 = .ok (.iload_n 3, 1) := by decide +kernel
theorem dX12_cited_30 : decode cX12_cited 30 = .ok (.iaload, 1) := by decide +kernel
theorem dX12_cited_31 : decode cX12_cited 31 = .ok (.iload_n 2, 1) := by decide +kernel
theorem dX12_cited_32 : decode cX12_cited 32 = .ok (.if_icmp .ne 5, 3) := by decide +kernel
theorem dX12_cited_35 : decode cX12_cited 35 = .ok (.iload_n 3, 1) := by decide +kernel
theorem dX12_cited_36 : decode cX12_cited 36 = .ok (.ireturn, 1) := by decide +kernel
theorem dX12_cited_37 : decode cX12_cited 37 = .ok (.iinc 3 1, 3) := by decide +kernel
theorem dX12_cited_40 : decode cX12_cited 40 = .ok (.goto (-33), 3) := by decide +kernel
theorem dX12_cited_43 : decode cX12_cited 43 = .ok (.iconst (-1), 1) := by decide +kernel
theorem dX12_cited_44 : decode cX12_cited 44 = .ok (.ireturn, 1) := by decide +kernel
theorem dX12_isFact_0 : decode cX12_isFact 0 = .ok (.iload_n 1, 1) := by decide +kernel
theorem dX12_isFact_1 : decode cX12_isFact 1 = .ok (.ifCond .lt 15, 3) := by decide +kernel
theorem dX12_isFact_4 : decode cX12_isFact 4 = .ok (.iload_n 1, 1) := by decide +kernel
theorem dX12_isFact_5 : decode cX12_isFact 5 = .ok (.aload_n 0, 1) := by decide +kernel
theorem dX12_isFact_6 : decode cX12_isFact 6 = .ok (.getfield 188, 3) := by decide +kernel
theorem dX12_isFact_9 : decode cX12_isFact 9 = .ok (.if_icmp .ge 7, 3) := by decide +kernel
theorem dX12_isFact_12 : decode cX12_isFact 12 = .ok (.iconst 1, 1) := by decide +kernel
theorem dX12_isFact_13 : decode cX12_isFact 13 = .ok (.goto 4, 3) := by decide +kernel
theorem dX12_isFact_16 : decode cX12_isFact 16 = .ok (.iconst 0, 1) := by decide +kernel
theorem dX12_isFact_17 : decode cX12_isFact 17 = .ok (.ireturn, 1) := by decide +kernel
theorem dX12_fact_0 : decode cX12_fact 0 = .ok (.aload_n 0, 1) := by decide +kernel
theorem dX12_fact_1 : decode cX12_fact 1 = .ok (.iconst 0, 1) := by decide +kernel
theorem dX12_fact_2 : decode cX12_fact 2 = .ok (.putfield 111, 3) := by decide +kernel
theorem dX12_fact_5 : decode cX12_fact 5 = .ok (.aload_n 0, 1) := by decide +kernel
theorem dX12_fact_6 : decode cX12_fact 6 = .ok (.iload_n 1, 1) := by decide +kernel
theorem dX12_fact_7 : decode cX12_fact 7 = .ok (.invokevirtual 237, 3) := by decide +kernel
theorem dX12_fact_10 : decode cX12_fact 10 = .ok (.ifCond .ne 9, 3) := by decide +kernel
theorem dX12_fact_13 : decode cX12_fact 13 = .ok (.aload_n 0, 1) := by decide +kernel
theorem dX12_fact_14 : decode cX12_fact 14 = .ok (.iconst 1, 1) := by decide +kernel
theorem dX12_fact_15 : decode cX12_fact 15 = .ok (.invokevirtual 213, 3) := by decide +kernel
theorem dX12_fact_18 : decode cX12_fact 18 = .ok (.ireturn, 1) := by decide +kernel
theorem dX12_fact_19 : decode cX12_fact 19 = .ok (.iload_n 2, 1) := by decide +kernel
theorem dX12_fact_20 : decode cX12_fact 20 = .ok (.tableswitch 76 0 4 #[36, 48, 55, 62, 69], 36) := by decide +kernel
theorem dX12_fact_56 : decode cX12_fact 56 = .ok (.aload_n 0, 1) := by decide +kernel
theorem dX12_fact_57 : decode cX12_fact 57 = .ok (.getfield 38, 3) := by decide +kernel
theorem dX12_fact_60 : decode cX12_fact 60 = .ok (.aload_n 0, 1) := by decide +kernel
theorem dX12_fact_61 : decode cX12_fact 61 = .ok (.getfield 50, 3) := by decide +kernel
theorem dX12_fact_64 : decode cX12_fact 64 = .ok (.iload_n 1, 1) := by decide +kernel
theorem dX12_fact_65 : decode cX12_fact 65 = .ok (.iaload, 1) := by decide +kernel
theorem dX12_fact_66 : decode cX12_fact 66 = .ok (.iaload, 1) := by decide +kernel
theorem dX12_fact_67 : decode cX12_fact 67 = .ok (.ireturn, 1) := by decide +kernel
theorem dX12_fact_68 : decode cX12_fact 68 = .ok (.aload_n 0, 1) := by decide +kernel
theorem dX12_fact_69 : decode cX12_fact 69 = .ok (.getfield 53, 3) := by decide +kernel
theorem dX12_fact_72 : decode cX12_fact 72 = .ok (.iload_n 1, 1) := by decide +kernel
theorem dX12_fact_73 : decode cX12_fact 73 = .ok (.iaload, 1) := by decide +kernel
theorem dX12_fact_74 : decode cX12_fact 74 = .ok (.ireturn, 1) := by decide +kernel
theorem dX12_fact_75 : decode cX12_fact 75 = .ok (.aload_n 0, 1) := by decide +kernel
theorem dX12_fact_76 : decode cX12_fact 76 = .ok (.getfield 56, 3) := by decide +kernel
theorem dX12_fact_79 : decode cX12_fact 79 = .ok (.iload_n 1, 1) := by decide +kernel
theorem dX12_fact_80 : decode cX12_fact 80 = .ok (.iaload, 1) := by decide +kernel
theorem dX12_fact_81 : decode cX12_fact 81 = .ok (.ireturn, 1) := by decide +kernel
theorem dX12_fact_82 : decode cX12_fact 82 = .ok (.aload_n 0, 1) := by decide +kernel
theorem dX12_fact_83 : decode cX12_fact 83 = .ok (.getfield 59, 3) := by decide +kernel
theorem dX12_fact_86 : decode cX12_fact 86 = .ok (.iload_n 1, 1) := by decide +kernel
theorem dX12_fact_87 : decode cX12_fact 87 = .ok (.iaload, 1) := by decide +kernel
theorem dX12_fact_88 : decode cX12_fact 88 = .ok (.ireturn, 1) := by decide +kernel
theorem dX12_fact_89 : decode cX12_fact 89 = .ok (.aload_n 0, 1) := by decide +kernel
theorem dX12_fact_90 : decode cX12_fact 90 = .ok (.getfield 62, 3) := by decide +kernel
theorem dX12_fact_93 : decode cX12_fact 93 = .ok (.iload_n 1, 1) := by decide +kernel
theorem dX12_fact_94 : decode cX12_fact 94 = .ok (.iaload, 1) := by decide +kernel
theorem dX12_fact_95 : decode cX12_fact 95 = .ok (.ireturn, 1) := by decide +kernel
theorem dX12_fact_96 : decode cX12_fact 96 = .ok (.aload_n 0, 1) := by decide +kernel
theorem dX12_fact_97 : decode cX12_fact 97 = .ok (.iconst 1, 1) := by decide +kernel
theorem dX12_fact_98 : decode cX12_fact 98 = .ok (.invokevirtual 213, 3) := by decide +kernel
theorem dX12_fact_101 : decode cX12_fact 101 = .ok (.ireturn, 1) := by decide +kernel
theorem dX12_isStruck_0 : decode cX12_isStruck 0 = .ok (.iconst 0, 1) := by decide +kernel
theorem dX12_isStruck_1 : decode cX12_isStruck 1 = .ok (.istore_n 3, 1) := by decide +kernel
theorem dX12_isStruck_2 : decode cX12_isStruck 2 = .ok (.iconst 0, 1) := by decide +kernel
theorem dX12_isStruck_3 : decode cX12_isStruck 3 = .ok (.istore 4, 2) := by decide +kernel
theorem dX12_isStruck_5 : decode cX12_isStruck 5 = .ok (.iload 4, 2) := by decide +kernel
theorem dX12_isStruck_7 : decode cX12_isStruck 7 = .ok (.aload_n 0, 1) := by decide +kernel
theorem dX12_isStruck_8 : decode cX12_isStruck 8 = .ok (.getfield 240, 3) := by decide +kernel
theorem dX12_isStruck_11 : decode cX12_isStruck 11 = .ok (.if_icmp .ge 32, 3) := by decide +kernel
theorem dX12_isStruck_14 : decode cX12_isStruck 14 = .ok (.aload_n 0, 1) := by decide +kernel
theorem dX12_isStruck_15 : decode cX12_isStruck 15 = .ok (.getfield 87, 3) := by decide +kernel
theorem dX12_isStruck_18 : decode cX12_isStruck 18 = .ok (.iload 4, 2) := by decide +kernel
theorem dX12_isStruck_20 : decode cX12_isStruck 20 = .ok (.iaload, 1) := by decide +kernel
theorem dX12_isStruck_21 : decode cX12_isStruck 21 = .ok (.ifCond .ne 16, 3) := by decide +kernel
theorem dX12_isStruck_24 : decode cX12_isStruck 24 = .ok (.aload_n 0, 1) := by decide +kernel
theorem dX12_isStruck_25 : decode cX12_isStruck 25 = .ok (.iload 4, 2) := by decide +kernel
theorem dX12_isStruck_27 : decode cX12_isStruck 27 = .ok (.iload_n 1, 1) := by decide +kernel
theorem dX12_isStruck_28 : decode cX12_isStruck 28 = .ok (.iload_n 2, 1) := by decide +kernel
theorem dX12_isStruck_29 : decode cX12_isStruck 29 = .ok (.invokevirtual 243, 3) := by decide +kernel
theorem dX12_isStruck_32 : decode cX12_isStruck 32 = .ok (.ifCond .eq 5, 3) := by decide +kernel
theorem dX12_isStruck_35 : decode cX12_isStruck 35 = .ok (.iconst 1, 1) := by decide +kernel
theorem dX12_isStruck_36 : decode cX12_isStruck 36 = .ok (.istore_n 3, 1) := by decide +kernel
theorem dX12_isStruck_37 : decode cX12_isStruck 37 = .ok (.iinc 4 1, 3) := by decide +kernel
theorem dX12_isStruck_40 : decode cX12_isStruck 40 = .ok (.goto (-35), 3) := by decide +kernel
theorem dX12_isStruck_43 : decode cX12_isStruck 43 = .ok (.iload_n 3, 1) := by decide +kernel
theorem dX12_isStruck_44 : decode cX12_isStruck 44 = .ok (.ireturn, 1) := by decide +kernel
theorem dX12_isOn_0 : decode cX12_isOn 0 = .ok (.aload_n 0, 1) := by decide +kernel
theorem dX12_isOn_1 : decode cX12_isOn 1 = .ok (.getfield 81, 3) := by decide +kernel
theorem dX12_isOn_4 : decode cX12_isOn 4 = .ok (.iload_n 1, 1) := by decide +kernel
theorem dX12_isOn_5 : decode cX12_isOn 5 = .ok (.iaload, 1) := by decide +kernel
theorem dX12_isOn_6 : decode cX12_isOn 6 = .ok (.iload_n 2, 1) := by decide +kernel
theorem dX12_isOn_7 : decode cX12_isOn 7 = .ok (.if_icmp .gt 47, 3) := by decide +kernel
theorem dX12_isOn_10 : decode cX12_isOn 10 = .ok (.iload_n 2, 1) := by decide +kernel
theorem dX12_isOn_11 : decode cX12_isOn 11 = .ok (.aload_n 0, 1) := by decide +kernel
theorem dX12_isOn_12 : decode cX12_isOn 12 = .ok (.getfield 84, 3) := by decide +kernel
theorem dX12_isOn_15 : decode cX12_isOn 15 = .ok (.iload_n 1, 1) := by decide +kernel
theorem dX12_isOn_16 : decode cX12_isOn 16 = .ok (.iaload, 1) := by decide +kernel
theorem dX12_isOn_17 : decode cX12_isOn 17 = .ok (.if_icmp .gt 37, 3) := by decide +kernel
theorem dX12_isOn_20 : decode cX12_isOn 20 = .ok (.aload_n 0, 1) := by decide +kernel
theorem dX12_isOn_21 : decode cX12_isOn 21 = .ok (.getfield 90, 3) := by decide +kernel
theorem dX12_isOn_24 : decode cX12_isOn 24 = .ok (.iload_n 1, 1) := by decide +kernel
theorem dX12_isOn_25 : decode cX12_isOn 25 = .ok (.iaload, 1) := by decide +kernel
theorem dX12_isOn_26 : decode cX12_isOn 26 = .ok (.iload_n 3, 1) := by decide +kernel
theorem dX12_isOn_27 : decode cX12_isOn 27 = .ok (.if_icmp .gt 27, 3) := by decide +kernel
theorem dX12_isOn_30 : decode cX12_isOn 30 = .ok (.aload_n 0, 1) := by decide +kernel
theorem dX12_isOn_31 : decode cX12_isOn 31 = .ok (.getfield 93, 3) := by decide +kernel
theorem dX12_isOn_34 : decode cX12_isOn 34 = .ok (.iload_n 1, 1) := by decide +kernel
theorem dX12_isOn_35 : decode cX12_isOn 35 = .ok (.iaload, 1) := by decide +kernel
theorem dX12_isOn_36 : decode cX12_isOn 36 = .ok (.iconst (-1), 1) := by decide +kernel
theorem dX12_isOn_37 : decode cX12_isOn 37 = .ok (.if_icmp .eq 13, 3) := by decide +kernel
theorem dX12_isOn_40 : decode cX12_isOn 40 = .ok (.aload_n 0, 1) := by decide +kernel
theorem dX12_isOn_41 : decode cX12_isOn 41 = .ok (.getfield 93, 3) := by decide +kernel
theorem dX12_isOn_44 : decode cX12_isOn 44 = .ok (.iload_n 1, 1) := by decide +kernel
theorem dX12_isOn_45 : decode cX12_isOn 45 = .ok (.iaload, 1) := by decide +kernel
theorem dX12_isOn_46 : decode cX12_isOn 46 = .ok (.iload_n 3, 1) := by decide +kernel
theorem dX12_isOn_47 : decode cX12_isOn 47 = .ok (.if_icmp .le 7, 3) := by decide +kernel
theorem dX12_isOn_50 : decode cX12_isOn 50 = .ok (.iconst 1, 1) := by decide +kernel
theorem dX12_isOn_51 : decode cX12_isOn 51 = .ok (.goto 4, 3) := by decide +kernel
theorem dX12_isOn_54 : decode cX12_isOn 54 = .ok (.iconst 0, 1) := by decide +kernel
theorem dX12_isOn_55 : decode cX12_isOn 55 = .ok (.ireturn, 1) := by decide +kernel
theorem dX12_level_0 : decode cX12_level 0 = .ok (.iconst 0, 1) := by decide +kernel
theorem dX12_level_1 : decode cX12_level 1 = .ok (.istore_n 3, 1) := by decide +kernel
theorem dX12_level_2 : decode cX12_level 2 = .ok (.iconst 0, 1) := by decide +kernel
theorem dX12_level_3 : decode cX12_level 3 = .ok (.istore 4, 2) := by decide +kernel
theorem dX12_level_5 : decode cX12_level 5 = .ok (.iload 4, 2) := by decide +kernel
theorem dX12_level_7 : decode cX12_level 7 = .ok (.aload_n 0, 1) := by decide +kernel
theorem dX12_level_8 : decode cX12_level 8 = .ok (.getfield 240, 3) := by decide +kernel
theorem dX12_level_11 : decode cX12_level 11 = .ok (.if_icmp .ge 32, 3) := by decide +kernel
theorem dX12_level_14 : decode cX12_level 14 = .ok (.aload_n 0, 1) := by decide +kernel
theorem dX12_level_15 : decode cX12_level 15 = .ok (.iload 4, 2) := by decide +kernel
theorem dX12_level_17 : decode cX12_level 17 = .ok (.iload_n 1, 1) := by decide +kernel
theorem dX12_level_18 : decode cX12_level 18 = .ok (.iload_n 2, 1) := by decide +kernel
theorem dX12_level_19 : decode cX12_level 19 = .ok (.invokevirtual 243, 3) := by decide +kernel
theorem dX12_level_22 : decode cX12_level 22 = .ok (.ifCond .eq 15, 3) := by decide +kernel
theorem dX12_level_25 : decode cX12_level 25 = .ok (.iload_n 3, 1) := by decide +kernel
theorem dX12_level_26 : decode cX12_level 26 = .ok (.aload_n 0, 1) := by decide +kernel
theorem dX12_level_27 : decode cX12_level 27 = .ok (.getfield 87, 3) := by decide +kernel
theorem dX12_level_30 : decode cX12_level 30 = .ok (.iload 4, 2) := by decide +kernel
theorem dX12_level_32 : decode cX12_level 32 = .ok (.iaload, 1) := by decide +kernel
theorem dX12_level_33 : decode cX12_level 33 = .ok (.invokestatic 247, 3) := by decide +kernel
theorem dX12_level_36 : decode cX12_level 36 = .ok (.istore_n 3, 1) := by decide +kernel
theorem dX12_level_37 : decode cX12_level 37 = .ok (.iinc 4 1, 3) := by decide +kernel
theorem dX12_level_40 : decode cX12_level 40 = .ok (.goto (-35), 3) := by decide +kernel
theorem dX12_level_43 : decode cX12_level 43 = .ok (.iload_n 3, 1) := by decide +kernel
theorem dX12_level_44 : decode cX12_level 44 = .ok (.ireturn, 1) := by decide +kernel
theorem dX12_standsOn_0 : decode cX12_standsOn 0 = .ok (.aload_n 0, 1) := by decide +kernel
theorem dX12_standsOn_1 : decode cX12_standsOn 1 = .ok (.getfield 38, 3) := by decide +kernel
theorem dX12_standsOn_4 : decode cX12_standsOn 4 = .ok (.aload_n 0, 1) := by decide +kernel
theorem dX12_standsOn_5 : decode cX12_standsOn 5 = .ok (.getfield 50, 3) := by decide +kernel
theorem dX12_standsOn_8 : decode cX12_standsOn 8 = .ok (.iload_n 1, 1) := by decide +kernel
theorem dX12_standsOn_9 : decode cX12_standsOn 9 = .ok (.iaload, 1) := by decide +kernel
theorem dX12_standsOn_10 : decode cX12_standsOn 10 = .ok (.iaload, 1) := by decide +kernel
theorem dX12_standsOn_11 : decode cX12_standsOn 11 = .ok (.istore_n 3, 1) := by decide +kernel
theorem dX12_standsOn_12 : decode cX12_standsOn 12 = .ok (.aload_n 0, 1) := by decide +kernel
theorem dX12_standsOn_13 : decode cX12_standsOn 13 = .ok (.iload_n 3, 1) := by decide +kernel
theorem dX12_standsOn_14 : decode cX12_standsOn 14 = .ok (.iload_n 2, 1) := by decide +kernel
theorem dX12_standsOn_15 : decode cX12_standsOn 15 = .ok (.invokevirtual 253, 3) := by decide +kernel
theorem dX12_standsOn_18 : decode cX12_standsOn 18 = .ok (.aload_n 0, 1) := by decide +kernel
theorem dX12_standsOn_19 : decode cX12_standsOn 19 = .ok (.getfield 50, 3) := by decide +kernel
theorem dX12_standsOn_22 : decode cX12_standsOn 22 = .ok (.iload_n 1, 1) := by decide +kernel
theorem dX12_standsOn_23 : decode cX12_standsOn 23 = .ok (.iaload, 1) := by decide +kernel
theorem dX12_standsOn_24 : decode cX12_standsOn 24 = .ok (.if_icmp .ne 12, 3) := by decide +kernel
theorem dX12_standsOn_27 : decode cX12_standsOn 27 = .ok (.aload_n 0, 1) := by decide +kernel
theorem dX12_standsOn_28 : decode cX12_standsOn 28 = .ok (.iload_n 3, 1) := by decide +kernel
theorem dX12_standsOn_29 : decode cX12_standsOn 29 = .ok (.iload_n 2, 1) := by decide +kernel
theorem dX12_standsOn_30 : decode cX12_standsOn 30 = .ok (.invokevirtual 256, 3) := by decide +kernel
theorem dX12_standsOn_33 : decode cX12_standsOn 33 = .ok (.ifCond .eq 5, 3) := by decide +kernel
theorem dX12_standsOn_36 : decode cX12_standsOn 36 = .ok (.iconst 0, 1) := by decide +kernel
theorem dX12_standsOn_37 : decode cX12_standsOn 37 = .ok (.ireturn, 1) := by decide +kernel
theorem dX12_standsOn_38 : decode cX12_standsOn 38 = .ok (.aload_n 0, 1) := by decide +kernel
theorem dX12_standsOn_39 : decode cX12_standsOn 39 = .ok (.getfield 20, 3) := by decide +kernel
theorem dX12_standsOn_42 : decode cX12_standsOn 42 = .ok (.aload_n 0, 1) := by decide +kernel
theorem dX12_standsOn_43 : decode cX12_standsOn 43 = .ok (.getfield 26, 3) := by decide +kernel
theorem dX12_standsOn_46 : decode cX12_standsOn 46 = .ok (.iload_n 3, 1) := by decide +kernel
theorem dX12_standsOn_47 : decode cX12_standsOn 47 = .ok (.iaload, 1) := by decide +kernel
theorem dX12_standsOn_48 : decode cX12_standsOn 48 = .ok (.iaload, 1) := by decide +kernel
theorem dX12_standsOn_49 : decode cX12_standsOn 49 = .ok (.istore 4, 2) := by decide +kernel
theorem dX12_standsOn_51 : decode cX12_standsOn 51 = .ok (.iload 4, 2) := by decide +kernel
theorem dX12_standsOn_53 : decode cX12_standsOn 53 = .ok (.iconst 1, 1) := by decide +kernel
theorem dX12_standsOn_54 : decode cX12_standsOn 54 = .ok (.if_icmp .ne 5, 3) := by decide +kernel
theorem dX12_standsOn_57 : decode cX12_standsOn 57 = .ok (.iconst 1, 1) := by decide +kernel
theorem dX12_standsOn_58 : decode cX12_standsOn 58 = .ok (.ireturn, 1) := by decide +kernel
theorem dX12_standsOn_59 : decode cX12_standsOn 59 = .ok (.aload_n 0, 1) := by decide +kernel
theorem dX12_standsOn_60 : decode cX12_standsOn 60 = .ok (.iload_n 3, 1) := by decide +kernel
theorem dX12_standsOn_61 : decode cX12_standsOn 61 = .ok (.invokevirtual 234, 3) := by decide +kernel
theorem dX12_standsOn_64 : decode cX12_standsOn 64 = .ok (.istore 5, 2) := by decide +kernel
theorem dX12_standsOn_66 : decode cX12_standsOn 66 = .ok (.iload 4, 2) := by decide +kernel
theorem dX12_standsOn_68 : decode cX12_standsOn 68 = .ok (.ifCond .ne 19, 3) := by decide +kernel
theorem dX12_standsOn_71 : decode cX12_standsOn 71 = .ok (.iload 5, 2) := by decide +kernel
theorem dX12_standsOn_73 : decode cX12_standsOn 73 = .ok (.iconst (-1), 1) := by decide +kernel
theorem dX12_standsOn_74 : decode cX12_standsOn 74 = .ok (.if_icmp .eq 13, 3) := by decide +kernel
theorem dX12_standsOn_77 : decode cX12_standsOn 77 = .ok (.aload_n 0, 1) := by decide +kernel
theorem dX12_standsOn_78 : decode cX12_standsOn 78 = .ok (.iload 5, 2) := by decide +kernel
theorem dX12_standsOn_80 : decode cX12_standsOn 80 = .ok (.iload_n 2, 1) := by decide +kernel
theorem dX12_standsOn_81 : decode cX12_standsOn 81 = .ok (.invokevirtual 256, 3) := by decide +kernel
theorem dX12_standsOn_84 : decode cX12_standsOn 84 = .ok (.ifCond .eq 5, 3) := by decide +kernel
theorem dX12_standsOn_87 : decode cX12_standsOn 87 = .ok (.iconst 0, 1) := by decide +kernel
theorem dX12_standsOn_88 : decode cX12_standsOn 88 = .ok (.ireturn, 1) := by decide +kernel
theorem dX12_standsOn_89 : decode cX12_standsOn 89 = .ok (.aload_n 0, 1) := by decide +kernel
theorem dX12_standsOn_90 : decode cX12_standsOn 90 = .ok (.getfield 20, 3) := by decide +kernel
theorem dX12_standsOn_93 : decode cX12_standsOn 93 = .ok (.iload 5, 2) := by decide +kernel
theorem dX12_standsOn_95 : decode cX12_standsOn 95 = .ok (.iaload, 1) := by decide +kernel
theorem dX12_standsOn_96 : decode cX12_standsOn 96 = .ok (.iconst 2, 1) := by decide +kernel
theorem dX12_standsOn_97 : decode cX12_standsOn 97 = .ok (.if_icmp .ne 7, 3) := by decide +kernel
theorem dX12_standsOn_100 : decode cX12_standsOn 100 = .ok (.iconst 1, 1) := by decide +kernel
theorem dX12_standsOn_101 : decode cX12_standsOn 101 = .ok (.goto 19, 3) := by decide +kernel
theorem dX12_standsOn_104 : decode cX12_standsOn 104 = .ok (.aload_n 0, 1) := by decide +kernel
theorem dX12_standsOn_105 : decode cX12_standsOn 105 = .ok (.getfield 20, 3) := by decide +kernel
theorem dX12_standsOn_108 : decode cX12_standsOn 108 = .ok (.iload 5, 2) := by decide +kernel
theorem dX12_standsOn_110 : decode cX12_standsOn 110 = .ok (.iaload, 1) := by decide +kernel
theorem dX12_standsOn_111 : decode cX12_standsOn 111 = .ok (.iconst 3, 1) := by decide +kernel
theorem dX12_standsOn_112 : decode cX12_standsOn 112 = .ok (.if_icmp .ne 7, 3) := by decide +kernel
theorem dX12_standsOn_115 : decode cX12_standsOn 115 = .ok (.iconst (-1), 1) := by decide +kernel
theorem dX12_standsOn_116 : decode cX12_standsOn 116 = .ok (.goto 4, 3) := by decide +kernel
theorem dX12_standsOn_119 : decode cX12_standsOn 119 = .ok (.iconst 0, 1) := by decide +kernel
theorem dX12_standsOn_120 : decode cX12_standsOn 120 = .ok (.ireturn, 1) := by decide +kernel
theorem dX12_stands_0 : decode cX12_stands 0 = .ok (.aload_n 0, 1) := by decide +kernel
theorem dX12_stands_1 : decode cX12_stands 1 = .ok (.iconst 0, 1) := by decide +kernel
theorem dX12_stands_2 : decode cX12_stands 2 = .ok (.putfield 111, 3) := by decide +kernel
theorem dX12_stands_5 : decode cX12_stands 5 = .ok (.aload_n 0, 1) := by decide +kernel
theorem dX12_stands_6 : decode cX12_stands 6 = .ok (.iload_n 1, 1) := by decide +kernel
theorem dX12_stands_7 : decode cX12_stands 7 = .ok (.invokevirtual 237, 3) := by decide +kernel
theorem dX12_stands_10 : decode cX12_stands 10 = .ok (.ifCond .eq 12, 3) := by decide +kernel
theorem dX12_stands_13 : decode cX12_stands 13 = .ok (.aload_n 0, 1) := by decide +kernel
theorem dX12_stands_14 : decode cX12_stands 14 = .ok (.iload_n 1, 1) := by decide +kernel
theorem dX12_stands_15 : decode cX12_stands 15 = .ok (.iload_n 2, 1) := by decide +kernel
theorem dX12_stands_16 : decode cX12_stands 16 = .ok (.invokevirtual 260, 3) := by decide +kernel
theorem dX12_stands_19 : decode cX12_stands 19 = .ok (.goto 8, 3) := by decide +kernel
theorem dX12_stands_22 : decode cX12_stands 22 = .ok (.aload_n 0, 1) := by decide +kernel
theorem dX12_stands_23 : decode cX12_stands 23 = .ok (.iconst 1, 1) := by decide +kernel
theorem dX12_stands_24 : decode cX12_stands 24 = .ok (.invokevirtual 213, 3) := by decide +kernel
theorem dX12_stands_27 : decode cX12_stands 27 = .ok (.ireturn, 1) := by decide +kernel
theorem dX12_doQuarrel_0 : decode cX12_doQuarrel 0 = .ok (.aload_n 0, 1) := by decide +kernel
theorem dX12_doQuarrel_1 : decode cX12_doQuarrel 1 = .ok (.getfield 53, 3) := by decide +kernel
theorem dX12_doQuarrel_4 : decode cX12_doQuarrel 4 = .ok (.iload_n 1, 1) := by decide +kernel
theorem dX12_doQuarrel_5 : decode cX12_doQuarrel 5 = .ok (.iaload, 1) := by decide +kernel
theorem dX12_doQuarrel_6 : decode cX12_doQuarrel 6 = .ok (.aload_n 0, 1) := by decide +kernel
theorem dX12_doQuarrel_7 : decode cX12_doQuarrel 7 = .ok (.getfield 53, 3) := by decide +kernel
theorem dX12_doQuarrel_10 : decode cX12_doQuarrel 10 = .ok (.iload_n 2, 1) := by decide +kernel
theorem dX12_doQuarrel_11 : decode cX12_doQuarrel 11 = .ok (.iaload, 1) := by decide +kernel
theorem dX12_doQuarrel_12 : decode cX12_doQuarrel 12 = .ok (.if_icmp .ne 18, 3) := by decide +kernel
theorem dX12_doQuarrel_15 : decode cX12_doQuarrel 15 = .ok (.aload_n 0, 1) := by decide +kernel
theorem dX12_doQuarrel_16 : decode cX12_doQuarrel 16 = .ok (.getfield 56, 3) := by decide +kernel
theorem dX12_doQuarrel_19 : decode cX12_doQuarrel 19 = .ok (.iload_n 1, 1) := by decide +kernel
theorem dX12_doQuarrel_20 : decode cX12_doQuarrel 20 = .ok (.iaload, 1) := by decide +kernel
theorem dX12_doQuarrel_21 : decode cX12_doQuarrel 21 = .ok (.aload_n 0, 1) := by decide +kernel
theorem dX12_doQuarrel_22 : decode cX12_doQuarrel 22 = .ok (.getfield 56, 3) := by decide +kernel
theorem dX12_doQuarrel_25 : decode cX12_doQuarrel 25 = .ok (.iload_n 2, 1) := by decide +kernel
theorem dX12_doQuarrel_26 : decode cX12_doQuarrel 26 = .ok (.iaload, 1) := by decide +kernel
theorem dX12_doQuarrel_27 : decode cX12_doQuarrel 27 = .ok (.if_icmp .eq 5, 3) := by decide +kernel
theorem dX12_doQuarrel_30 : decode cX12_doQuarrel 30 = .ok (.iconst 0, 1) := by decide +kernel
theorem dX12_doQuarrel_31 : decode cX12_doQuarrel 31 = .ok (.ireturn, 1) := by decide +kernel
theorem dX12_doQuarrel_32 : decode cX12_doQuarrel 32 = .ok (.aload_n 0, 1) := by decide +kernel
theorem dX12_doQuarrel_33 : decode cX12_doQuarrel 33 = .ok (.iload_n 1, 1) := by decide +kernel
theorem dX12_doQuarrel_34 : decode cX12_doQuarrel 34 = .ok (.iload_n 3, 1) := by decide +kernel
theorem dX12_doQuarrel_35 : decode cX12_doQuarrel 35 = .ok (.invokevirtual 260, 3) := by decide +kernel
theorem dX12_doQuarrel_38 : decode cX12_doQuarrel 38 = .ok (.istore 4, 2) := by decide +kernel
theorem dX12_doQuarrel_40 : decode cX12_doQuarrel 40 = .ok (.aload_n 0, 1) := by decide +kernel
theorem dX12_doQuarrel_41 : decode cX12_doQuarrel 41 = .ok (.iload_n 2, 1) := by decide +kernel
theorem dX12_doQuarrel_42 : decode cX12_doQuarrel 42 = .ok (.iload_n 3, 1) := by decide +kernel
theorem dX12_doQuarrel_43 : decode cX12_doQuarrel 43 = .ok (.invokevirtual 260, 3) := by decide +kernel
theorem dX12_doQuarrel_46 : decode cX12_doQuarrel 46 = .ok (.istore 5, 2) := by decide +kernel
theorem dX12_doQuarrel_48 : decode cX12_doQuarrel 48 = .ok (.iload 4, 2) := by decide +kernel
theorem dX12_doQuarrel_50 : decode cX12_doQuarrel 50 = .ok (.iconst 1, 1) := by decide +kernel
theorem dX12_doQuarrel_51 : decode cX12_doQuarrel 51 = .ok (.if_icmp .ne 24, 3) := by decide +kernel
theorem dX12_doQuarrel_54 : decode cX12_doQuarrel 54 = .ok (.iload 5, 2) := by decide +kernel
theorem dX12_doQuarrel_56 : decode cX12_doQuarrel 56 = .ok (.iconst 1, 1) := by decide +kernel
theorem dX12_doQuarrel_57 : decode cX12_doQuarrel 57 = .ok (.if_icmp .ne 18, 3) := by decide +kernel
theorem dX12_doQuarrel_60 : decode cX12_doQuarrel 60 = .ok (.aload_n 0, 1) := by decide +kernel
theorem dX12_doQuarrel_61 : decode cX12_doQuarrel 61 = .ok (.getfield 59, 3) := by decide +kernel
theorem dX12_doQuarrel_64 : decode cX12_doQuarrel 64 = .ok (.iload_n 1, 1) := by decide +kernel
theorem dX12_doQuarrel_65 : decode cX12_doQuarrel 65 = .ok (.iaload, 1) := by decide +kernel
theorem dX12_doQuarrel_66 : decode cX12_doQuarrel 66 = .ok (.aload_n 0, 1) := by decide +kernel
theorem dX12_doQuarrel_67 : decode cX12_doQuarrel 67 = .ok (.getfield 59, 3) := by decide +kernel
theorem dX12_doQuarrel_70 : decode cX12_doQuarrel 70 = .ok (.iload_n 2, 1) := by decide +kernel
theorem dX12_doQuarrel_71 : decode cX12_doQuarrel 71 = .ok (.iaload, 1) := by decide +kernel
theorem dX12_doQuarrel_72 : decode cX12_doQuarrel 72 = .ok (.if_icmp .ne 27, 3) := by decide +kernel
theorem dX12_doQuarrel_75 : decode cX12_doQuarrel 75 = .ok (.iload 4, 2) := by decide +kernel
theorem dX12_doQuarrel_77 : decode cX12_doQuarrel 77 = .ok (.iload 5, 2) := by decide +kernel
theorem dX12_doQuarrel_79 : decode cX12_doQuarrel 79 = .ok (.imul, 1) := by decide +kernel
theorem dX12_doQuarrel_80 : decode cX12_doQuarrel 80 = .ok (.iconst (-1), 1) := by decide +kernel
theorem dX12_doQuarrel_81 : decode cX12_doQuarrel 81 = .ok (.if_icmp .ne 22, 3) := by decide +kernel
theorem dX12_doQuarrel_84 : decode cX12_doQuarrel 84 = .ok (.aload_n 0, 1) := by decide +kernel
theorem dX12_doQuarrel_85 : decode cX12_doQuarrel 85 = .ok (.getfield 59, 3) := by decide +kernel
theorem dX12_doQuarrel_88 : decode cX12_doQuarrel 88 = .ok (.iload_n 1, 1) := by decide +kernel
theorem dX12_doQuarrel_89 : decode cX12_doQuarrel 89 = .ok (.iaload, 1) := by decide +kernel
theorem dX12_doQuarrel_90 : decode cX12_doQuarrel 90 = .ok (.aload_n 0, 1) := by decide +kernel
theorem dX12_doQuarrel_91 : decode cX12_doQuarrel 91 = .ok (.getfield 59, 3) := by decide +kernel
theorem dX12_doQuarrel_94 : decode cX12_doQuarrel 94 = .ok (.iload_n 2, 1) := by decide +kernel
theorem dX12_doQuarrel_95 : decode cX12_doQuarrel 95 = .ok (.iaload, 1) := by decide +kernel
theorem dX12_doQuarrel_96 : decode cX12_doQuarrel 96 = .ok (.if_icmp .ne 7, 3) := by decide +kernel
theorem dX12_doQuarrel_99 : decode cX12_doQuarrel 99 = .ok (.iconst 1, 1) := by decide +kernel
theorem dX12_doQuarrel_100 : decode cX12_doQuarrel 100 = .ok (.goto 4, 3) := by decide +kernel
theorem dX12_doQuarrel_103 : decode cX12_doQuarrel 103 = .ok (.iconst 0, 1) := by decide +kernel
theorem dX12_doQuarrel_104 : decode cX12_doQuarrel 104 = .ok (.ireturn, 1) := by decide +kernel
theorem dX12_quarrels_0 : decode cX12_quarrels 0 = .ok (.aload_n 0, 1) := by decide +kernel
theorem dX12_quarrels_1 : decode cX12_quarrels 1 = .ok (.iconst 0, 1) := by decide +kernel
theorem dX12_quarrels_2 : decode cX12_quarrels 2 = .ok (.putfield 111, 3) := by decide +kernel
theorem dX12_quarrels_5 : decode cX12_quarrels 5 = .ok (.iconst 0, 1) := by decide +kernel
theorem dX12_quarrels_6 : decode cX12_quarrels 6 = .ok (.istore_n 2, 1) := by decide +kernel
theorem dX12_quarrels_7 : decode cX12_quarrels 7 = .ok (.iconst 0, 1) := by decide +kernel
theorem dX12_quarrels_8 : decode cX12_quarrels 8 = .ok (.istore_n 3, 1) := by decide +kernel
theorem dX12_quarrels_9 : decode cX12_quarrels 9 = .ok (.iload_n 3, 1) := by decide +kernel
theorem dX12_quarrels_10 : decode cX12_quarrels 10 = .ok (.aload_n 0, 1) := by decide +kernel
theorem dX12_quarrels_11 : decode cX12_quarrels 11 = .ok (.getfield 188, 3) := by decide +kernel
theorem dX12_quarrels_14 : decode cX12_quarrels 14 = .ok (.if_icmp .ge 48, 3) := by decide +kernel
theorem dX12_quarrels_17 : decode cX12_quarrels 17 = .ok (.iload_n 3, 1) := by decide +kernel
theorem dX12_quarrels_18 : decode cX12_quarrels 18 = .ok (.iconst 1, 1) := by decide +kernel
theorem dX12_quarrels_19 : decode cX12_quarrels 19 = .ok (.iadd, 1) := by decide +kernel
theorem dX12_quarrels_20 : decode cX12_quarrels 20 = .ok (.istore 4, 2) := by decide +kernel
theorem dX12_quarrels_22 : decode cX12_quarrels 22 = .ok (.iload 4, 2) := by decide +kernel
theorem dX12_quarrels_24 : decode cX12_quarrels 24 = .ok (.aload_n 0, 1) := by decide +kernel
theorem dX12_quarrels_25 : decode cX12_quarrels 25 = .ok (.getfield 188, 3) := by decide +kernel
theorem dX12_quarrels_28 : decode cX12_quarrels 28 = .ok (.if_icmp .ge 28, 3) := by decide +kernel
theorem dX12_quarrels_31 : decode cX12_quarrels 31 = .ok (.iload_n 2, 1) := by decide +kernel
theorem dX12_quarrels_32 : decode cX12_quarrels 32 = .ok (.aload_n 0, 1) := by decide +kernel
theorem dX12_quarrels_33 : decode cX12_quarrels 33 = .ok (.iload_n 3, 1) := by decide +kernel
theorem dX12_quarrels_34 : decode cX12_quarrels 34 = .ok (.iload 4, 2) := by decide +kernel
theorem dX12_quarrels_36 : decode cX12_quarrels 36 = .ok (.iload_n 1, 1) := by decide +kernel
theorem dX12_quarrels_37 : decode cX12_quarrels 37 = .ok (.invokevirtual 263, 3) := by decide +kernel
theorem dX12_quarrels_40 : decode cX12_quarrels 40 = .ok (.ifCond .eq 7, 3) := by decide +kernel
theorem dX12_quarrels_43 : decode cX12_quarrels 43 = .ok (.iconst 1, 1) := by decide +kernel
theorem dX12_quarrels_44 : decode cX12_quarrels 44 = .ok (.goto 4, 3) := by decide +kernel
theorem dX12_quarrels_47 : decode cX12_quarrels 47 = .ok (.iconst 0, 1) := by decide +kernel
theorem dX12_quarrels_48 : decode cX12_quarrels 48 = .ok (.iadd, 1) := by decide +kernel
theorem dX12_quarrels_49 : decode cX12_quarrels 49 = .ok (.istore_n 2, 1) := by decide +kernel
theorem dX12_quarrels_50 : decode cX12_quarrels 50 = .ok (.iinc 4 1, 3) := by decide +kernel
theorem dX12_quarrels_53 : decode cX12_quarrels 53 = .ok (.goto (-31), 3) := by decide +kernel
theorem dX12_quarrels_56 : decode cX12_quarrels 56 = .ok (.iinc 3 1, 3) := by decide +kernel
theorem dX12_quarrels_59 : decode cX12_quarrels 59 = .ok (.goto (-50), 3) := by decide +kernel
theorem dX12_quarrels_62 : decode cX12_quarrels 62 = .ok (.iload_n 2, 1) := by decide +kernel
theorem dX12_quarrels_63 : decode cX12_quarrels 63 = .ok (.ireturn, 1) := by decide +kernel
theorem dX12_quarrel_0 : decode cX12_quarrel 0 = .ok (.aload_n 0, 1) := by decide +kernel
theorem dX12_quarrel_1 : decode cX12_quarrel 1 = .ok (.iconst 0, 1) := by decide +kernel
theorem dX12_quarrel_2 : decode cX12_quarrel 2 = .ok (.putfield 111, 3) := by decide +kernel
theorem dX12_quarrel_5 : decode cX12_quarrel 5 = .ok (.iconst 0, 1) := by decide +kernel
theorem dX12_quarrel_6 : decode cX12_quarrel 6 = .ok (.istore 4, 2) := by decide +kernel
theorem dX12_quarrel_8 : decode cX12_quarrel 8 = .ok (.iconst 0, 1) := by decide +kernel
theorem dX12_quarrel_9 : decode cX12_quarrel 9 = .ok (.istore 5, 2) := by decide +kernel
theorem dX12_quarrel_11 : decode cX12_quarrel 11 = .ok (.iload 5, 2) := by decide +kernel
theorem dX12_quarrel_13 : decode cX12_quarrel 13 = .ok (.aload_n 0, 1) := by decide +kernel
theorem dX12_quarrel_14 : decode cX12_quarrel 14 = .ok (.getfield 188, 3) := by decide +kernel
theorem dX12_quarrel_17 : decode cX12_quarrel 17 = .ok (.if_icmp .ge 79, 3) := by decide +kernel
theorem dX12_quarrel_20 : decode cX12_quarrel 20 = .ok (.iload_n 1, 1) := by decide +kernel
theorem dX12_quarrel_21 : decode cX12_quarrel 21 = .ok (.ifCond .lt 75, 3) := by decide +kernel
theorem dX12_quarrel_24 : decode cX12_quarrel 24 = .ok (.iload_n 3, 1) := by decide +kernel
theorem dX12_quarrel_25 : decode cX12_quarrel 25 = .ok (.ifCond .lt 71, 3) := by decide +kernel
theorem dX12_quarrel_28 : decode cX12_quarrel 28 = .ok (.iload_n 3, 1) := by decide +kernel
theorem dX12_quarrel_29 : decode cX12_quarrel 29 = .ok (.iconst 1, 1) := by decide +kernel
theorem dX12_quarrel_30 : decode cX12_quarrel 30 = .ok (.if_icmp .gt 66, 3) := by decide +kernel
theorem dX12_quarrel_33 : decode cX12_quarrel 33 = .ok (.iload 5, 2) := by decide +kernel
theorem dX12_quarrel_35 : decode cX12_quarrel 35 = .ok (.iconst 1, 1) := by decide +kernel
theorem dX12_quarrel_36 : decode cX12_quarrel 36 = .ok (.iadd, 1) := by decide +kernel
theorem dX12_quarrel_37 : decode cX12_quarrel 37 = .ok (.istore 6, 2) := by decide +kernel
theorem dX12_quarrel_39 : decode cX12_quarrel 39 = .ok (.iload 6, 2) := by decide +kernel
theorem dX12_quarrel_41 : decode cX12_quarrel 41 = .ok (.aload_n 0, 1) := by decide +kernel
theorem dX12_quarrel_42 : decode cX12_quarrel 42 = .ok (.getfield 188, 3) := by decide +kernel
theorem dX12_quarrel_45 : decode cX12_quarrel 45 = .ok (.if_icmp .ge 45, 3) := by decide +kernel
theorem dX12_quarrel_48 : decode cX12_quarrel 48 = .ok (.aload_n 0, 1) := by decide +kernel
theorem dX12_quarrel_49 : decode cX12_quarrel 49 = .ok (.iload 5, 2) := by decide +kernel
theorem dX12_quarrel_51 : decode cX12_quarrel 51 = .ok (.iload 6, 2) := by decide +kernel
theorem dX12_quarrel_53 : decode cX12_quarrel 53 = .ok (.iload_n 2, 1) := by decide +kernel
theorem dX12_quarrel_54 : decode cX12_quarrel 54 = .ok (.invokevirtual 263, 3) := by decide +kernel
theorem dX12_quarrel_57 : decode cX12_quarrel 57 = .ok (.ifCond .ne 6, 3) := by decide +kernel
theorem dX12_quarrel_60 : decode cX12_quarrel 60 = .ok (.goto 24, 3) := by decide +kernel
theorem dX12_quarrel_63 : decode cX12_quarrel 63 = .ok (.iload 4, 2) := by decide +kernel
theorem dX12_quarrel_65 : decode cX12_quarrel 65 = .ok (.iload_n 1, 1) := by decide +kernel
theorem dX12_quarrel_66 : decode cX12_quarrel 66 = .ok (.if_icmp .ne 15, 3) := by decide +kernel
theorem dX12_quarrel_69 : decode cX12_quarrel 69 = .ok (.iload_n 3, 1) := by decide +kernel
theorem dX12_quarrel_70 : decode cX12_quarrel 70 = .ok (.ifCond .ne 8, 3) := by decide +kernel
theorem dX12_quarrel_73 : decode cX12_quarrel 73 = .ok (.iload 5, 2) := by decide +kernel
theorem dX12_quarrel_75 : decode cX12_quarrel 75 = .ok (.goto 5, 3) := by decide +kernel
theorem dX12_quarrel_78 : decode cX12_quarrel 78 = .ok (.iload 6, 2) := by decide +kernel
theorem dX12_quarrel_80 : decode cX12_quarrel 80 = .ok (.ireturn, 1) := by decide +kernel
theorem dX12_quarrel_81 : decode cX12_quarrel 81 = .ok (.iinc 4 1, 3) := by decide +kernel
theorem dX12_quarrel_84 : decode cX12_quarrel 84 = .ok (.iinc 6 1, 3) := by decide +kernel
theorem dX12_quarrel_87 : decode cX12_quarrel 87 = .ok (.goto (-48), 3) := by decide +kernel
theorem dX12_quarrel_90 : decode cX12_quarrel 90 = .ok (.iinc 5 1, 3) := by decide +kernel
theorem dX12_quarrel_93 : decode cX12_quarrel 93 = .ok (.goto (-82), 3) := by decide +kernel
theorem dX12_quarrel_96 : decode cX12_quarrel 96 = .ok (.aload_n 0, 1) := by decide +kernel
theorem dX12_quarrel_97 : decode cX12_quarrel 97 = .ok (.iconst 1, 1) := by decide +kernel
theorem dX12_quarrel_98 : decode cX12_quarrel 98 = .ok (.invokevirtual 213, 3) := by decide +kernel
theorem dX12_quarrel_101 : decode cX12_quarrel 101 = .ok (.ireturn, 1) := by decide +kernel
theorem dX12_mention_0 : decode cX12_mention 0 = .ok (.aload_n 0, 1) := by decide +kernel
theorem dX12_mention_1 : decode cX12_mention 1 = .ok (.iconst 0, 1) := by decide +kernel
theorem dX12_mention_2 : decode cX12_mention 2 = .ok (.putfield 111, 3) := by decide +kernel
theorem dX12_mention_5 : decode cX12_mention 5 = .ok (.iload_n 1, 1) := by decide +kernel
theorem dX12_mention_6 : decode cX12_mention 6 = .ok (.ifCond .lt 20, 3) := by decide +kernel
theorem dX12_mention_9 : decode cX12_mention 9 = .ok (.iload_n 1, 1) := by decide +kernel
theorem dX12_mention_10 : decode cX12_mention 10 = .ok (.aload_n 0, 1) := by decide +kernel
theorem dX12_mention_11 : decode cX12_mention 11 = .ok (.getfield 174, 3) := by decide +kernel
theorem dX12_mention_14 : decode cX12_mention 14 = .ok (.if_icmp .ge 12, 3) := by decide +kernel
theorem dX12_mention_17 : decode cX12_mention 17 = .ok (.iload_n 2, 1) := by decide +kernel
theorem dX12_mention_18 : decode cX12_mention 18 = .ok (.ifCond .lt 8, 3) := by decide +kernel
theorem dX12_mention_21 : decode cX12_mention 21 = .ok (.iload_n 2, 1) := by decide +kernel
theorem dX12_mention_22 : decode cX12_mention 22 = .ok (.iconst 1, 1) := by decide +kernel
theorem dX12_mention_23 : decode cX12_mention 23 = .ok (.if_icmp .le 9, 3) := by decide +kernel
theorem dX12_mention_26 : decode cX12_mention 26 = .ok (.aload_n 0, 1) := by decide +kernel
theorem dX12_mention_27 : decode cX12_mention 27 = .ok (.iconst 1, 1) := by decide +kernel
theorem dX12_mention_28 : decode cX12_mention 28 = .ok (.invokevirtual 213, 3) := by decide +kernel
theorem dX12_mention_31 : decode cX12_mention 31 = .ok (.ireturn, 1) := by decide +kernel
theorem dX12_mention_32 : decode cX12_mention 32 = .ok (.iload_n 2, 1) := by decide +kernel
theorem dX12_mention_33 : decode cX12_mention 33 = .ok (.ifCond .ne 12, 3) := by decide +kernel
theorem dX12_mention_36 : decode cX12_mention 36 = .ok (.aload_n 0, 1) := by decide +kernel
theorem dX12_mention_37 : decode cX12_mention 37 = .ok (.getfield 65, 3) := by decide +kernel
theorem dX12_mention_40 : decode cX12_mention 40 = .ok (.iload_n 1, 1) := by decide +kernel
theorem dX12_mention_41 : decode cX12_mention 41 = .ok (.iaload, 1) := by decide +kernel
theorem dX12_mention_42 : decode cX12_mention 42 = .ok (.goto 9, 3) := by decide +kernel
theorem dX12_mention_45 : decode cX12_mention 45 = .ok (.aload_n 0, 1) := by decide +kernel
theorem dX12_mention_46 : decode cX12_mention 46 = .ok (.getfield 68, 3) := by decide +kernel
theorem dX12_mention_49 : decode cX12_mention 49 = .ok (.iload_n 1, 1) := by decide +kernel
theorem dX12_mention_50 : decode cX12_mention 50 = .ok (.iaload, 1) := by decide +kernel
theorem dX12_mention_51 : decode cX12_mention 51 = .ok (.ireturn, 1) := by decide +kernel
theorem dX12_say_0 : decode cX12_say 0 = .ok (.aload_n 0, 1) := by decide +kernel
theorem dX12_say_1 : decode cX12_say 1 = .ok (.getfield 266, 3) := by decide +kernel
theorem dX12_say_4 : decode cX12_say 4 = .ok (.sipush 3000, 3) := by decide +kernel
theorem dX12_say_7 : decode cX12_say 7 = .ok (.if_icmp .ge 13, 3) := by decide +kernel
theorem dX12_say_10 : decode cX12_say 10 = .ok (.aload_n 0, 1) := by decide +kernel
theorem dX12_say_11 : decode cX12_say 11 = .ok (.getfield 13, 3) := by decide +kernel
theorem dX12_say_14 : decode cX12_say 14 = .ok (.aload_n 0, 1) := by decide +kernel
theorem dX12_say_15 : decode cX12_say 15 = .ok (.getfield 266, 3) := by decide +kernel
theorem dX12_say_18 : decode cX12_say 18 = .ok (.iload_n 1, 1) := by decide +kernel
theorem dX12_say_19 : decode cX12_say 19 = .ok (.iastore, 1) := by decide +kernel
theorem dX12_say_20 : decode cX12_say 20 = .ok (.aload_n 0, 1) := by decide +kernel
theorem dX12_say_21 : decode cX12_say 21 = .ok (.dup, 1) := by decide +kernel
theorem dX12_say_22 : decode cX12_say 22 = .ok (.getfield 266, 3) := by decide +kernel
theorem dX12_say_25 : decode cX12_say 25 = .ok (.iconst 1, 1) := by decide +kernel
theorem dX12_say_26 : decode cX12_say 26 = .ok (.iadd, 1) := by decide +kernel
theorem dX12_say_27 : decode cX12_say 27 = .ok (.putfield 266, 3) := by decide +kernel
theorem dX12_say_30 : decode cX12_say 30 = .ok (.return_, 1) := by decide +kernel
theorem dX12_name__0 : decode cX12_name_ 0 = .ok (.aload_n 0, 1) := by decide +kernel
theorem dX12_name__1 : decode cX12_name_ 1 = .ok (.iconst 0, 1) := by decide +kernel
theorem dX12_name__2 : decode cX12_name_ 2 = .ok (.putfield 111, 3) := by decide +kernel
theorem dX12_name__5 : decode cX12_name_ 5 = .ok (.iload_n 1, 1) := by decide +kernel
theorem dX12_name__6 : decode cX12_name_ 6 = .ok (.ifCond .lt 19, 3) := by decide +kernel
theorem dX12_name__9 : decode cX12_name_ 9 = .ok (.iload_n 1, 1) := by decide +kernel
theorem dX12_name__10 : decode cX12_name_ 10 = .ok (.aload_n 0, 1) := by decide +kernel
theorem dX12_name__11 : decode cX12_name_ 11 = .ok (.getfield 120, 3) := by decide +kernel
theorem dX12_name__14 : decode cX12_name_ 14 = .ok (.if_icmp .ge 11, 3) := by decide +kernel
theorem dX12_name__17 : decode cX12_name_ 17 = .ok (.aload_n 0, 1) := by decide +kernel
theorem dX12_name__18 : decode cX12_name_ 18 = .ok (.iload_n 2, 1) := by decide +kernel
theorem dX12_name__19 : decode cX12_name_ 19 = .ok (.invokevirtual 223, 3) := by decide +kernel
theorem dX12_name__22 : decode cX12_name_ 22 = .ok (.ifCond .ne 9, 3) := by decide +kernel
theorem dX12_name__25 : decode cX12_name_ 25 = .ok (.aload_n 0, 1) := by decide +kernel
theorem dX12_name__26 : decode cX12_name_ 26 = .ok (.iconst 1, 1) := by decide +kernel
theorem dX12_name__27 : decode cX12_name_ 27 = .ok (.invokevirtual 213, 3) := by decide +kernel
theorem dX12_name__30 : decode cX12_name_ 30 = .ok (.ireturn, 1) := by decide +kernel
theorem dX12_name__31 : decode cX12_name_ 31 = .ok (.aload_n 0, 1) := by decide +kernel
theorem dX12_name__32 : decode cX12_name_ 32 = .ok (.iconst 0, 1) := by decide +kernel
theorem dX12_name__33 : decode cX12_name_ 33 = .ok (.putfield 266, 3) := by decide +kernel
theorem dX12_name__36 : decode cX12_name_ 36 = .ok (.aload_n 0, 1) := by decide +kernel
theorem dX12_name__37 : decode cX12_name_ 37 = .ok (.iload_n 1, 1) := by decide +kernel
theorem dX12_name__38 : decode cX12_name_ 38 = .ok (.iload_n 2, 1) := by decide +kernel
theorem dX12_name__39 : decode cX12_name_ 39 = .ok (.invokevirtual 123, 3) := by decide +kernel
theorem dX12_name__42 : decode cX12_name_ 42 = .ok (.lstore_n 3, 1) := by decide +kernel
theorem dX12_name__43 : decode cX12_name_ 43 = .ok (.bipush 40, 2) := by decide +kernel
theorem dX12_name__45 : decode cX12_name_ 45 = .ok (.istore 5, 2) := by decide +kernel
theorem dX12_name__47 : decode cX12_name_ 47 = .ok (.iload 5, 2) := by decide +kernel
theorem dX12_name__49 : decode cX12_name_ 49 = .ok (.ifCond .lt 35, 3) := by decide +kernel
theorem dX12_name__52 : decode cX12_name_ 52 = .ok (.lload_n 3, 1) := by decide +kernel
theorem dX12_name__53 : decode cX12_name_ 53 = .ok (.iload 5, 2) := by decide +kernel
theorem dX12_name__55 : decode cX12_name_ 55 = .ok (.lshr, 1) := by decide +kernel
theorem dX12_name__56 : decode cX12_name_ 56 = .ok (.ldc2_w 269, 3) := by decide +kernel
theorem dX12_name__59 : decode cX12_name_ 59 = .ok (.land, 1) := by decide +kernel
theorem dX12_name__60 : decode cX12_name_ 60 = .ok (.lconst 0, 1) := by decide +kernel
theorem dX12_name__61 : decode cX12_name_ 61 = .ok (.lcmp, 1) := by decide +kernel
theorem dX12_name__62 : decode cX12_name_ 62 = .ok (.ifCond .eq 16, 3) := by decide +kernel
theorem dX12_name__65 : decode cX12_name_ 65 = .ok (.aload_n 0, 1) := by decide +kernel
theorem dX12_name__66 : decode cX12_name_ 66 = .ok (.lload_n 3, 1) := by decide +kernel
theorem dX12_name__67 : decode cX12_name_ 67 = .ok (.iload 5, 2) := by decide +kernel
theorem dX12_name__69 : decode cX12_name_ 69 = .ok (.lshr, 1) := by decide +kernel
theorem dX12_name__70 : decode cX12_name_ 70 = .ok (.ldc2_w 269, 3) := by decide +kernel
theorem dX12_name__73 : decode cX12_name_ 73 = .ok (.land, 1) := by decide +kernel
theorem dX12_name__74 : decode cX12_name_ 74 = .ok (.l2i, 1) := by decide +kernel
theorem dX12_name__75 : decode cX12_name_ 75 = .ok (.invokevirtual 271, 3) := by decide +kernel
theorem dX12_name__78 : decode cX12_name_ 78 = .ok (.iinc 5 (-8), 3) := by decide +kernel
theorem dX12_name__81 : decode cX12_name_ 81 = .ok (.goto (-34), 3) := by decide +kernel
theorem dX12_name__84 : decode cX12_name_ 84 = .ok (.aload_n 0, 1) := by decide +kernel
theorem dX12_name__85 : decode cX12_name_ 85 = .ok (.getfield 266, 3) := by decide +kernel
theorem dX12_name__88 : decode cX12_name_ 88 = .ok (.ifCond .ne 7, 3) := by decide +kernel
theorem dX12_name__91 : decode cX12_name_ 91 = .ok (.iconst (-1), 1) := by decide +kernel
theorem dX12_name__92 : decode cX12_name_ 92 = .ok (.goto 7, 3) := by decide +kernel
theorem dX12_name__95 : decode cX12_name_ 95 = .ok (.aload_n 0, 1) := by decide +kernel
theorem dX12_name__96 : decode cX12_name_ 96 = .ok (.getfield 266, 3) := by decide +kernel
theorem dX12_name__99 : decode cX12_name_ 99 = .ok (.ireturn, 1) := by decide +kernel
theorem dX12_order_0 : decode cX12_order 0 = .ok (.aload_n 0, 1) := by decide +kernel
theorem dX12_order_1 : decode cX12_order 1 = .ok (.iconst 0, 1) := by decide +kernel
theorem dX12_order_2 : decode cX12_order 2 = .ok (.putfield 111, 3) := by decide +kernel
theorem dX12_order_5 : decode cX12_order 5 = .ok (.aload_n 0, 1) := by decide +kernel
theorem dX12_order_6 : decode cX12_order 6 = .ok (.iload_n 1, 1) := by decide +kernel
theorem dX12_order_7 : decode cX12_order 7 = .ok (.invokevirtual 223, 3) := by decide +kernel
theorem dX12_order_10 : decode cX12_order 10 = .ok (.ifCond .eq 16, 3) := by decide +kernel
theorem dX12_order_13 : decode cX12_order 13 = .ok (.aload_n 0, 1) := by decide +kernel
theorem dX12_order_14 : decode cX12_order 14 = .ok (.iload_n 2, 1) := by decide +kernel
theorem dX12_order_15 : decode cX12_order 15 = .ok (.invokevirtual 223, 3) := by decide +kernel
theorem dX12_order_18 : decode cX12_order 18 = .ok (.ifCond .eq 8, 3) := by decide +kernel
theorem dX12_order_21 : decode cX12_order 21 = .ok (.iload_n 1, 1) := by decide +kernel
theorem dX12_order_22 : decode cX12_order 22 = .ok (.iload_n 2, 1) := by decide +kernel
theorem dX12_order_23 : decode cX12_order 23 = .ok (.if_icmp .le 9, 3) := by decide +kernel
theorem dX12_order_26 : decode cX12_order 26 = .ok (.aload_n 0, 1) := by decide +kernel
theorem dX12_order_27 : decode cX12_order 27 = .ok (.iconst 1, 1) := by decide +kernel
theorem dX12_order_28 : decode cX12_order 28 = .ok (.invokevirtual 213, 3) := by decide +kernel
theorem dX12_order_31 : decode cX12_order 31 = .ok (.ireturn, 1) := by decide +kernel
theorem dX12_order_32 : decode cX12_order 32 = .ok (.aload_n 0, 1) := by decide +kernel
theorem dX12_order_33 : decode cX12_order 33 = .ok (.getfield 240, 3) := by decide +kernel
theorem dX12_order_36 : decode cX12_order 36 = .ok (.bipush 60, 2) := by decide +kernel
theorem dX12_order_38 : decode cX12_order 38 = .ok (.if_icmp .eq 12, 3) := by decide +kernel
theorem dX12_order_41 : decode cX12_order 41 = .ok (.iload_n 3, 1) := by decide +kernel
theorem dX12_order_42 : decode cX12_order 42 = .ok (.ifCond .lt 8, 3) := by decide +kernel
theorem dX12_order_45 : decode cX12_order 45 = .ok (.iload_n 3, 1) := by decide +kernel
theorem dX12_order_46 : decode cX12_order 46 = .ok (.iconst 3, 1) := by decide +kernel
theorem dX12_order_47 : decode cX12_order 47 = .ok (.if_icmp .le 5, 3) := by decide +kernel
theorem dX12_order_50 : decode cX12_order 50 = .ok (.iconst (-1), 1) := by decide +kernel
theorem dX12_order_51 : decode cX12_order 51 = .ok (.ireturn, 1) := by decide +kernel
theorem dX12_order_52 : decode cX12_order 52 = .ok (.aload_n 0, 1) := by decide +kernel
theorem dX12_order_53 : decode cX12_order 53 = .ok (.getfield 81, 3) := by decide +kernel
theorem dX12_order_56 : decode cX12_order 56 = .ok (.aload_n 0, 1) := by decide +kernel
theorem dX12_order_57 : decode cX12_order 57 = .ok (.getfield 240, 3) := by decide +kernel
theorem dX12_order_60 : decode cX12_order 60 = .ok (.iload_n 1, 1) := by decide +kernel
theorem dX12_order_61 : decode cX12_order 61 = .ok (.iastore, 1) := by decide +kernel
theorem dX12_order_62 : decode cX12_order 62 = .ok (.aload_n 0, 1) := by decide +kernel
theorem dX12_order_63 : decode cX12_order 63 = .ok (.getfield 84, 3) := by decide +kernel
theorem dX12_order_66 : decode cX12_order 66 = .ok (.aload_n 0, 1) := by decide +kernel
theorem dX12_order_67 : decode cX12_order 67 = .ok (.getfield 240, 3) := by decide +kernel
theorem dX12_order_70 : decode cX12_order 70 = .ok (.iload_n 2, 1) := by decide +kernel
theorem dX12_order_71 : decode cX12_order 71 = .ok (.iastore, 1) := by decide +kernel
theorem dX12_order_72 : decode cX12_order 72 = .ok (.aload_n 0, 1) := by decide +kernel
theorem dX12_order_73 : decode cX12_order 73 = .ok (.getfield 87, 3) := by decide +kernel
theorem dX12_order_76 : decode cX12_order 76 = .ok (.aload_n 0, 1) := by decide +kernel
theorem dX12_order_77 : decode cX12_order 77 = .ok (.getfield 240, 3) := by decide +kernel
theorem dX12_order_80 : decode cX12_order 80 = .ok (.iload_n 3, 1) := by decide +kernel
theorem dX12_order_81 : decode cX12_order 81 = .ok (.iastore, 1) := by decide +kernel
theorem dX12_order_82 : decode cX12_order 82 = .ok (.aload_n 0, 1) := by decide +kernel
theorem dX12_order_83 : decode cX12_order 83 = .ok (.getfield 90, 3) := by decide +kernel
theorem dX12_order_86 : decode cX12_order 86 = .ok (.aload_n 0, 1) := by decide +kernel
theorem dX12_order_87 : decode cX12_order 87 = .ok (.getfield 240, 3) := by decide +kernel
theorem dX12_order_90 : decode cX12_order 90 = .ok (.aload_n 0, 1) := by decide +kernel
theorem dX12_order_91 : decode cX12_order 91 = .ok (.getfield 229, 3) := by decide +kernel
theorem dX12_order_94 : decode cX12_order 94 = .ok (.iastore, 1) := by decide +kernel
theorem dX12_order_95 : decode cX12_order 95 = .ok (.aload_n 0, 1) := by decide +kernel
theorem dX12_order_96 : decode cX12_order 96 = .ok (.getfield 93, 3) := by decide +kernel
theorem dX12_order_99 : decode cX12_order 99 = .ok (.aload_n 0, 1) := by decide +kernel
theorem dX12_order_100 : decode cX12_order 100 = .ok (.getfield 240, 3) := by decide +kernel
theorem dX12_order_103 : decode cX12_order 103 = .ok (.iconst (-1), 1) := by decide +kernel
theorem dX12_order_104 : decode cX12_order 104 = .ok (.iastore, 1) := by decide +kernel
theorem dX12_order_105 : decode cX12_order 105 = .ok (.aload_n 0, 1) := by decide +kernel
theorem dX12_order_106 : decode cX12_order 106 = .ok (.dup, 1) := by decide +kernel
theorem dX12_order_107 : decode cX12_order 107 = .ok (.getfield 240, 3) := by decide +kernel
theorem dX12_order_110 : decode cX12_order 110 = .ok (.iconst 1, 1) := by decide +kernel
theorem dX12_order_111 : decode cX12_order 111 = .ok (.iadd, 1) := by decide +kernel
theorem dX12_order_112 : decode cX12_order 112 = .ok (.putfield 240, 3) := by decide +kernel
theorem dX12_order_115 : decode cX12_order 115 = .ok (.aload_n 0, 1) := by decide +kernel
theorem dX12_order_116 : decode cX12_order 116 = .ok (.getfield 240, 3) := by decide +kernel
theorem dX12_order_119 : decode cX12_order 119 = .ok (.iconst 1, 1) := by decide +kernel
theorem dX12_order_120 : decode cX12_order 120 = .ok (.isub, 1) := by decide +kernel
theorem dX12_order_121 : decode cX12_order 121 = .ok (.ireturn, 1) := by decide +kernel
theorem dX12_lift_0 : decode cX12_lift 0 = .ok (.aload_n 0, 1) := by decide +kernel
theorem dX12_lift_1 : decode cX12_lift 1 = .ok (.iconst 0, 1) := by decide +kernel
theorem dX12_lift_2 : decode cX12_lift 2 = .ok (.putfield 111, 3) := by decide +kernel
theorem dX12_lift_5 : decode cX12_lift 5 = .ok (.iload_n 1, 1) := by decide +kernel
theorem dX12_lift_6 : decode cX12_lift 6 = .ok (.ifCond .lt 11, 3) := by decide +kernel
theorem dX12_lift_9 : decode cX12_lift 9 = .ok (.iload_n 1, 1) := by decide +kernel
theorem dX12_lift_10 : decode cX12_lift 10 = .ok (.aload_n 0, 1) := by decide +kernel
theorem dX12_lift_11 : decode cX12_lift 11 = .ok (.getfield 240, 3) := by decide +kernel
theorem dX12_lift_14 : decode cX12_lift 14 = .ok (.if_icmp .lt 11, 3) := by decide +kernel
theorem dX12_lift_17 : decode cX12_lift 17 = .ok (.aload_n 0, 1) := by decide +kernel
theorem dX12_lift_18 : decode cX12_lift 18 = .ok (.iconst 1, 1) := by decide +kernel
theorem dX12_lift_19 : decode cX12_lift 19 = .ok (.invokevirtual 213, 3) := by decide +kernel
theorem dX12_lift_22 : decode cX12_lift 22 = .ok (.pop, 1) := by decide +kernel
theorem dX12_lift_23 : decode cX12_lift 23 = .ok (.iconst 0, 1) := by decide +kernel
theorem dX12_lift_24 : decode cX12_lift 24 = .ok (.ireturn, 1) := by decide +kernel
theorem dX12_lift_25 : decode cX12_lift 25 = .ok (.aload_n 0, 1) := by decide +kernel
theorem dX12_lift_26 : decode cX12_lift 26 = .ok (.getfield 93, 3) := by decide +kernel
theorem dX12_lift_29 : decode cX12_lift 29 = .ok (.iload_n 1, 1) := by decide +kernel
theorem dX12_lift_30 : decode cX12_lift 30 = .ok (.iaload, 1) := by decide +kernel
theorem dX12_lift_31 : decode cX12_lift 31 = .ok (.iconst (-1), 1) := by decide +kernel
theorem dX12_lift_32 : decode cX12_lift 32 = .ok (.if_icmp .eq 5, 3) := by decide +kernel
theorem dX12_lift_35 : decode cX12_lift 35 = .ok (.iconst 0, 1) := by decide +kernel
theorem dX12_lift_36 : decode cX12_lift 36 = .ok (.ireturn, 1) := by decide +kernel
theorem dX12_lift_37 : decode cX12_lift 37 = .ok (.aload_n 0, 1) := by decide +kernel
theorem dX12_lift_38 : decode cX12_lift 38 = .ok (.getfield 93, 3) := by decide +kernel
theorem dX12_lift_41 : decode cX12_lift 41 = .ok (.iload_n 1, 1) := by decide +kernel
theorem dX12_lift_42 : decode cX12_lift 42 = .ok (.aload_n 0, 1) := by decide +kernel
theorem dX12_lift_43 : decode cX12_lift 43 = .ok (.getfield 229, 3) := by decide +kernel
theorem dX12_lift_46 : decode cX12_lift 46 = .ok (.iastore, 1) := by decide +kernel
theorem dX12_lift_47 : decode cX12_lift 47 = .ok (.iconst 1, 1) := by decide +kernel
theorem dX12_lift_48 : decode cX12_lift 48 = .ok (.ireturn, 1) := by decide +kernel
theorem dX12_status_0 : decode cX12_status 0 = .ok (.aload_n 0, 1) := by decide +kernel
theorem dX12_status_1 : decode cX12_status 1 = .ok (.iconst 0, 1) := by decide +kernel
theorem dX12_status_2 : decode cX12_status 2 = .ok (.putfield 111, 3) := by decide +kernel
theorem dX12_status_5 : decode cX12_status 5 = .ok (.aload_n 0, 1) := by decide +kernel
theorem dX12_status_6 : decode cX12_status 6 = .ok (.iload_n 1, 1) := by decide +kernel
theorem dX12_status_7 : decode cX12_status 7 = .ok (.invokevirtual 223, 3) := by decide +kernel
theorem dX12_status_10 : decode cX12_status 10 = .ok (.ifCond .eq 12, 3) := by decide +kernel
theorem dX12_status_13 : decode cX12_status 13 = .ok (.iload_n 3, 1) := by decide +kernel
theorem dX12_status_14 : decode cX12_status 14 = .ok (.ifCond .lt 8, 3) := by decide +kernel
theorem dX12_status_17 : decode cX12_status 17 = .ok (.iload_n 3, 1) := by decide +kernel
theorem dX12_status_18 : decode cX12_status 18 = .ok (.iconst 1, 1) := by decide +kernel
theorem dX12_status_19 : decode cX12_status 19 = .ok (.if_icmp .le 9, 3) := by decide +kernel
theorem dX12_status_22 : decode cX12_status 22 = .ok (.aload_n 0, 1) := by decide +kernel
theorem dX12_status_23 : decode cX12_status 23 = .ok (.iconst 1, 1) := by decide +kernel
theorem dX12_status_24 : decode cX12_status 24 = .ok (.invokevirtual 213, 3) := by decide +kernel
theorem dX12_status_27 : decode cX12_status 27 = .ok (.ireturn, 1) := by decide +kernel
theorem dX12_status_28 : decode cX12_status 28 = .ok (.iload_n 3, 1) := by decide +kernel
theorem dX12_status_29 : decode cX12_status 29 = .ok (.iconst 1, 1) := by decide +kernel
theorem dX12_status_30 : decode cX12_status 30 = .ok (.if_icmp .ne 12, 3) := by decide +kernel
theorem dX12_status_33 : decode cX12_status 33 = .ok (.aload_n 0, 1) := by decide +kernel
theorem dX12_status_34 : decode cX12_status 34 = .ok (.iload_n 1, 1) := by decide +kernel
theorem dX12_status_35 : decode cX12_status 35 = .ok (.iload_n 2, 1) := by decide +kernel
theorem dX12_status_36 : decode cX12_status 36 = .ok (.invokevirtual 274, 3) := by decide +kernel
theorem dX12_status_39 : decode cX12_status 39 = .ok (.goto 17, 3) := by decide +kernel
theorem dX12_status_42 : decode cX12_status 42 = .ok (.aload_n 0, 1) := by decide +kernel
theorem dX12_status_43 : decode cX12_status 43 = .ok (.iload_n 1, 1) := by decide +kernel
theorem dX12_status_44 : decode cX12_status 44 = .ok (.iload_n 2, 1) := by decide +kernel
theorem dX12_status_45 : decode cX12_status 45 = .ok (.invokevirtual 256, 3) := by decide +kernel
theorem dX12_status_48 : decode cX12_status 48 = .ok (.ifCond .eq 7, 3) := by decide +kernel
theorem dX12_status_51 : decode cX12_status 51 = .ok (.iconst 1, 1) := by decide +kernel
theorem dX12_status_52 : decode cX12_status 52 = .ok (.goto 4, 3) := by decide +kernel
theorem dX12_status_55 : decode cX12_status 55 = .ok (.iconst 0, 1) := by decide +kernel
theorem dX12_status_56 : decode cX12_status 56 = .ok (.ireturn, 1) := by decide +kernel
theorem dX12_sayHidden_0 : decode cX12_sayHidden 0 = .ok (.iload_n 1, 1) := by decide +kernel
theorem dX12_sayHidden_1 : decode cX12_sayHidden 1 = .ok (.ifCond .eq 9, 3) := by decide +kernel
theorem dX12_sayHidden_4 : decode cX12_sayHidden 4 = .ok (.ldc_w 277, 3) := by decide +kernel
theorem dX12_sayHidden_7 : decode cX12_sayHidden 7 = .ok (.goto 6, 3) := by decide +kernel
theorem dX12_sayHidden_10 : decode cX12_sayHidden 10 = .ok (.ldc_w 279, 3) := by decide +kernel
theorem dX12_sayHidden_13 : decode cX12_sayHidden 13 = .ok (.astore_n 2, 1) := by decide +kernel
theorem dX12_sayHidden_14 : decode cX12_sayHidden 14 = .ok (.iconst 0, 1) := by decide +kernel
theorem dX12_sayHidden_15 : decode cX12_sayHidden 15 = .ok (.istore_n 3, 1) := by decide +kernel
theorem dX12_sayHidden_16 : decode cX12_sayHidden 16 = .ok (.iload_n 3, 1) := by decide +kernel
theorem dX12_sayHidden_17 : decode cX12_sayHidden 17 = .ok (.aload_n 2, 1) := by decide +kernel
theorem dX12_sayHidden_18 : decode cX12_sayHidden 18 = .ok (.invokevirtual 281, 3) := by decide +kernel
theorem dX12_sayHidden_21 : decode cX12_sayHidden 21 = .ok (.if_icmp .ge 18, 3) := by decide +kernel
theorem dX12_sayHidden_24 : decode cX12_sayHidden 24 = .ok (.aload_n 0, 1) := by decide +kernel
theorem dX12_sayHidden_25 : decode cX12_sayHidden 25 = .ok (.aload_n 2, 1) := by decide +kernel
theorem dX12_sayHidden_26 : decode cX12_sayHidden 26 = .ok (.iload_n 3, 1) := by decide +kernel
theorem dX12_sayHidden_27 : decode cX12_sayHidden 27 = .ok (.invokevirtual 286, 3) := by decide +kernel
theorem dX12_sayHidden_30 : decode cX12_sayHidden 30 = .ok (.invokevirtual 271, 3) := by decide +kernel
theorem dX12_sayHidden_33 : decode cX12_sayHidden 33 = .ok (.iinc 3 1, 3) := by decide +kernel
theorem dX12_sayHidden_36 : decode cX12_sayHidden 36 = .ok (.goto (-20), 3) := by decide +kernel
theorem dX12_sayHidden_39 : decode cX12_sayHidden 39 = .ok (.return_, 1) := by decide +kernel
theorem dX12_read_0 : decode cX12_read 0 = .ok (.aload_n 0, 1) := by decide +kernel
theorem dX12_read_1 : decode cX12_read 1 = .ok (.iconst 0, 1) := by decide +kernel
theorem dX12_read_2 : decode cX12_read 2 = .ok (.putfield 111, 3) := by decide +kernel
theorem dX12_read_5 : decode cX12_read 5 = .ok (.aload_n 0, 1) := by decide +kernel
theorem dX12_read_6 : decode cX12_read 6 = .ok (.iload_n 1, 1) := by decide +kernel
theorem dX12_read_7 : decode cX12_read 7 = .ok (.invokevirtual 223, 3) := by decide +kernel
theorem dX12_read_10 : decode cX12_read 10 = .ok (.ifCond .eq 16, 3) := by decide +kernel
theorem dX12_read_13 : decode cX12_read 13 = .ok (.aload_n 0, 1) := by decide +kernel
theorem dX12_read_14 : decode cX12_read 14 = .ok (.iload_n 2, 1) := by decide +kernel
theorem dX12_read_15 : decode cX12_read 15 = .ok (.invokevirtual 223, 3) := by decide +kernel
theorem dX12_read_18 : decode cX12_read 18 = .ok (.ifCond .eq 8, 3) := by decide +kernel
theorem dX12_read_21 : decode cX12_read 21 = .ok (.iload_n 1, 1) := by decide +kernel
theorem dX12_read_22 : decode cX12_read 22 = .ok (.iload_n 2, 1) := by decide +kernel
theorem dX12_read_23 : decode cX12_read 23 = .ok (.if_icmp .le 9, 3) := by decide +kernel
theorem dX12_read_26 : decode cX12_read 26 = .ok (.aload_n 0, 1) := by decide +kernel
theorem dX12_read_27 : decode cX12_read 27 = .ok (.iconst 1, 1) := by decide +kernel
theorem dX12_read_28 : decode cX12_read 28 = .ok (.invokevirtual 213, 3) := by decide +kernel
theorem dX12_read_31 : decode cX12_read 31 = .ok (.ireturn, 1) := by decide +kernel
theorem dX12_read_32 : decode cX12_read 32 = .ok (.iload_n 3, 1) := by decide +kernel
theorem dX12_read_33 : decode cX12_read 33 = .ok (.ifCond .lt 8, 3) := by decide +kernel
theorem dX12_read_36 : decode cX12_read 36 = .ok (.iload_n 3, 1) := by decide +kernel
theorem dX12_read_37 : decode cX12_read 37 = .ok (.iconst 3, 1) := by decide +kernel
theorem dX12_read_38 : decode cX12_read 38 = .ok (.if_icmp .le 9, 3) := by decide +kernel
theorem dX12_read_41 : decode cX12_read 41 = .ok (.aload_n 0, 1) := by decide +kernel
theorem dX12_read_42 : decode cX12_read 42 = .ok (.iconst 2, 1) := by decide +kernel
theorem dX12_read_43 : decode cX12_read 43 = .ok (.invokevirtual 213, 3) := by decide +kernel
theorem dX12_read_46 : decode cX12_read 46 = .ok (.ireturn, 1) := by decide +kernel
theorem dX12_read_47 : decode cX12_read 47 = .ok (.aload_n 0, 1) := by decide +kernel
theorem dX12_read_48 : decode cX12_read 48 = .ok (.iconst 0, 1) := by decide +kernel
theorem dX12_read_49 : decode cX12_read 49 = .ok (.putfield 266, 3) := by decide +kernel
theorem dX12_read_52 : decode cX12_read 52 = .ok (.iload_n 1, 1) := by decide +kernel
theorem dX12_read_53 : decode cX12_read 53 = .ok (.istore 5, 2) := by decide +kernel
theorem dX12_read_55 : decode cX12_read 55 = .ok (.iload 5, 2) := by decide +kernel
theorem dX12_read_57 : decode cX12_read 57 = .ok (.iload_n 2, 1) := by decide +kernel
theorem dX12_read_58 : decode cX12_read 58 = .ok (.if_icmp .gt 107, 3) := by decide +kernel
theorem dX12_read_61 : decode cX12_read 61 = .ok (.iload 5, 2) := by decide +kernel
theorem dX12_read_63 : decode cX12_read 63 = .ok (.iload_n 1, 1) := by decide +kernel
theorem dX12_read_64 : decode cX12_read 64 = .ok (.if_icmp .le 9, 3) := by decide +kernel
theorem dX12_read_67 : decode cX12_read 67 = .ok (.aload_n 0, 1) := by decide +kernel
theorem dX12_read_68 : decode cX12_read 68 = .ok (.bipush 10, 2) := by decide +kernel
theorem dX12_read_70 : decode cX12_read 70 = .ok (.invokevirtual 271, 3) := by decide +kernel
theorem dX12_read_73 : decode cX12_read 73 = .ok (.aload_n 0, 1) := by decide +kernel
theorem dX12_read_74 : decode cX12_read 74 = .ok (.iload 5, 2) := by decide +kernel
theorem dX12_read_76 : decode cX12_read 76 = .ok (.iload 4, 2) := by decide +kernel
theorem dX12_read_78 : decode cX12_read 78 = .ok (.invokevirtual 256, 3) := by decide +kernel
theorem dX12_read_81 : decode cX12_read 81 = .ok (.ifCond .ne 15, 3) := by decide +kernel
theorem dX12_read_84 : decode cX12_read 84 = .ok (.aload_n 0, 1) := by decide +kernel
theorem dX12_read_85 : decode cX12_read 85 = .ok (.iload 5, 2) := by decide +kernel
theorem dX12_read_87 : decode cX12_read 87 = .ok (.iload 4, 2) := by decide +kernel
theorem dX12_read_89 : decode cX12_read 89 = .ok (.invokevirtual 274, 3) := by decide +kernel
theorem dX12_read_92 : decode cX12_read 92 = .ok (.iload_n 3, 1) := by decide +kernel
theorem dX12_read_93 : decode cX12_read 93 = .ok (.if_icmp .le 18, 3) := by decide +kernel
theorem dX12_read_96 : decode cX12_read 96 = .ok (.aload_n 0, 1) := by decide +kernel
theorem dX12_read_97 : decode cX12_read 97 = .ok (.aload_n 0, 1) := by decide +kernel
theorem dX12_read_98 : decode cX12_read 98 = .ok (.iload 5, 2) := by decide +kernel
theorem dX12_read_100 : decode cX12_read 100 = .ok (.iload 4, 2) := by decide +kernel
theorem dX12_read_102 : decode cX12_read 102 = .ok (.invokevirtual 256, 3) := by decide +kernel
theorem dX12_read_105 : decode cX12_read 105 = .ok (.invokevirtual 290, 3) := by decide +kernel
theorem dX12_read_108 : decode cX12_read 108 = .ok (.goto 51, 3) := by decide +kernel
theorem dX12_read_111 : decode cX12_read 111 = .ok (.aload_n 0, 1) := by decide +kernel
theorem dX12_read_112 : decode cX12_read 112 = .ok (.iload 5, 2) := by decide +kernel
theorem dX12_read_114 : decode cX12_read 114 = .ok (.iload 4, 2) := by decide +kernel
theorem dX12_read_116 : decode cX12_read 116 = .ok (.invokevirtual 253, 3) := by decide +kernel
theorem dX12_read_119 : decode cX12_read 119 = .ok (.istore 6, 2) := by decide +kernel
theorem dX12_read_121 : decode cX12_read 121 = .ok (.iconst 0, 1) := by decide +kernel
theorem dX12_read_122 : decode cX12_read 122 = .ok (.istore 7, 2) := by decide +kernel
theorem dX12_read_124 : decode cX12_read 124 = .ok (.iload 7, 2) := by decide +kernel
theorem dX12_read_126 : decode cX12_read 126 = .ok (.aload_n 0, 1) := by decide +kernel
theorem dX12_read_127 : decode cX12_read 127 = .ok (.getfield 44, 3) := by decide +kernel
theorem dX12_read_130 : decode cX12_read 130 = .ok (.iload 6, 2) := by decide +kernel
theorem dX12_read_132 : decode cX12_read 132 = .ok (.iaload, 1) := by decide +kernel
theorem dX12_read_133 : decode cX12_read 133 = .ok (.if_icmp .ge 26, 3) := by decide +kernel
theorem dX12_read_136 : decode cX12_read 136 = .ok (.aload_n 0, 1) := by decide +kernel
theorem dX12_read_137 : decode cX12_read 137 = .ok (.aload_n 0, 1) := by decide +kernel
theorem dX12_read_138 : decode cX12_read 138 = .ok (.getfield 47, 3) := by decide +kernel
theorem dX12_read_141 : decode cX12_read 141 = .ok (.bipush 60, 2) := by decide +kernel
theorem dX12_read_143 : decode cX12_read 143 = .ok (.iload 6, 2) := by decide +kernel
theorem dX12_read_145 : decode cX12_read 145 = .ok (.imul, 1) := by decide +kernel
theorem dX12_read_146 : decode cX12_read 146 = .ok (.iload 7, 2) := by decide +kernel
theorem dX12_read_148 : decode cX12_read 148 = .ok (.iadd, 1) := by decide +kernel
theorem dX12_read_149 : decode cX12_read 149 = .ok (.iaload, 1) := by decide +kernel
theorem dX12_read_150 : decode cX12_read 150 = .ok (.invokevirtual 271, 3) := by decide +kernel
theorem dX12_read_153 : decode cX12_read 153 = .ok (.iinc 7 1, 3) := by decide +kernel
theorem dX12_read_156 : decode cX12_read 156 = .ok (.goto (-32), 3) := by decide +kernel
theorem dX12_read_159 : decode cX12_read 159 = .ok (.iinc 5 1, 3) := by decide +kernel
theorem dX12_read_162 : decode cX12_read 162 = .ok (.goto (-107), 3) := by decide +kernel
theorem dX12_read_165 : decode cX12_read 165 = .ok (.aload_n 0, 1) := by decide +kernel
theorem dX12_read_166 : decode cX12_read 166 = .ok (.getfield 266, 3) := by decide +kernel
theorem dX12_read_169 : decode cX12_read 169 = .ok (.ireturn, 1) := by decide +kernel
theorem dX12_bytes_0 : decode cX12_bytes 0 = .ok (.aload_n 0, 1) := by decide +kernel
theorem dX12_bytes_1 : decode cX12_bytes 1 = .ok (.getfield 266, 3) := by decide +kernel
theorem dX12_bytes_4 : decode cX12_bytes 4 = .ok (.sipush 3000, 3) := by decide +kernel
theorem dX12_bytes_7 : decode cX12_bytes 7 = .ok (.invokestatic 294, 3) := by decide +kernel
theorem dX12_bytes_10 : decode cX12_bytes 10 = .ok (.ireturn, 1) := by decide +kernel
theorem dX12_told_0 : decode cX12_told 0 = .ok (.aload_n 0, 1) := by decide +kernel
theorem dX12_told_1 : decode cX12_told 1 = .ok (.iconst 0, 1) := by decide +kernel
theorem dX12_told_2 : decode cX12_told 2 = .ok (.putfield 111, 3) := by decide +kernel
theorem dX12_told_5 : decode cX12_told 5 = .ok (.iload_n 1, 1) := by decide +kernel
theorem dX12_told_6 : decode cX12_told 6 = .ok (.ifCond .lt 11, 3) := by decide +kernel
theorem dX12_told_9 : decode cX12_told 9 = .ok (.iload_n 1, 1) := by decide +kernel
theorem dX12_told_10 : decode cX12_told 10 = .ok (.aload_n 0, 1) := by decide +kernel
theorem dX12_told_11 : decode cX12_told 11 = .ok (.invokevirtual 297, 3) := by decide +kernel
theorem dX12_told_14 : decode cX12_told 14 = .ok (.if_icmp .lt 11, 3) := by decide +kernel
theorem dX12_told_17 : decode cX12_told 17 = .ok (.aload_n 0, 1) := by decide +kernel
theorem dX12_told_18 : decode cX12_told 18 = .ok (.iconst 1, 1) := by decide +kernel
theorem dX12_told_19 : decode cX12_told 19 = .ok (.invokevirtual 213, 3) := by decide +kernel
theorem dX12_told_22 : decode cX12_told 22 = .ok (.goto 9, 3) := by decide +kernel
theorem dX12_told_25 : decode cX12_told 25 = .ok (.aload_n 0, 1) := by decide +kernel
theorem dX12_told_26 : decode cX12_told 26 = .ok (.getfield 13, 3) := by decide +kernel
theorem dX12_told_29 : decode cX12_told 29 = .ok (.iload_n 1, 1) := by decide +kernel
theorem dX12_told_30 : decode cX12_told 30 = .ok (.iaload, 1) := by decide +kernel
theorem dX12_told_31 : decode cX12_told 31 = .ok (.ireturn, 1) := by decide +kernel
theorem dX12_digest_0 : decode cX12_digest 0 = .ok (.aload_n 0, 1) := by decide +kernel
theorem dX12_digest_1 : decode cX12_digest 1 = .ok (.iconst 0, 1) := by decide +kernel
theorem dX12_digest_2 : decode cX12_digest 2 = .ok (.putfield 111, 3) := by decide +kernel
theorem dX12_digest_5 : decode cX12_digest 5 = .ok (.aload_n 0, 1) := by decide +kernel
theorem dX12_digest_6 : decode cX12_digest 6 = .ok (.getfield 300, 3) := by decide +kernel
theorem dX12_digest_9 : decode cX12_digest 9 = .ok (.bipush 40, 2) := by decide +kernel
theorem dX12_digest_11 : decode cX12_digest 11 = .ok (.if_icmp .eq 36, 3) := by decide +kernel
theorem dX12_digest_14 : decode cX12_digest 14 = .ok (.iload_n 1, 1) := by decide +kernel
theorem dX12_digest_15 : decode cX12_digest 15 = .ok (.ifCond .lt 32, 3) := by decide +kernel
theorem dX12_digest_18 : decode cX12_digest 18 = .ok (.iload_n 1, 1) := by decide +kernel
theorem dX12_digest_19 : decode cX12_digest 19 = .ok (.sipush 9999, 3) := by decide +kernel
theorem dX12_digest_22 : decode cX12_digest 22 = .ok (.if_icmp .gt 25, 3) := by decide +kernel
theorem dX12_digest_25 : decode cX12_digest 25 = .ok (.iload_n 2, 1) := by decide +kernel
theorem dX12_digest_26 : decode cX12_digest 26 = .ok (.ifCond .lt 21, 3) := by decide +kernel
theorem dX12_digest_29 : decode cX12_digest 29 = .ok (.iload_n 2, 1) := by decide +kernel
theorem dX12_digest_30 : decode cX12_digest 30 = .ok (.sipush 9999, 3) := by decide +kernel
theorem dX12_digest_33 : decode cX12_digest 33 = .ok (.if_icmp .gt 14, 3) := by decide +kernel
theorem dX12_digest_36 : decode cX12_digest 36 = .ok (.iload_n 3, 1) := by decide +kernel
theorem dX12_digest_37 : decode cX12_digest 37 = .ok (.ifCond .lt 10, 3) := by decide +kernel
theorem dX12_digest_40 : decode cX12_digest 40 = .ok (.iload_n 3, 1) := by decide +kernel
theorem dX12_digest_41 : decode cX12_digest 41 = .ok (.sipush 9999, 3) := by decide +kernel
theorem dX12_digest_44 : decode cX12_digest 44 = .ok (.if_icmp .le 5, 3) := by decide +kernel
theorem dX12_digest_47 : decode cX12_digest 47 = .ok (.iconst (-1), 1) := by decide +kernel
theorem dX12_digest_48 : decode cX12_digest 48 = .ok (.ireturn, 1) := by decide +kernel
theorem dX12_digest_49 : decode cX12_digest 49 = .ok (.aload_n 0, 1) := by decide +kernel
theorem dX12_digest_50 : decode cX12_digest 50 = .ok (.getfield 96, 3) := by decide +kernel
theorem dX12_digest_53 : decode cX12_digest 53 = .ok (.aload_n 0, 1) := by decide +kernel
theorem dX12_digest_54 : decode cX12_digest 54 = .ok (.getfield 300, 3) := by decide +kernel
theorem dX12_digest_57 : decode cX12_digest 57 = .ok (.iload_n 1, 1) := by decide +kernel
theorem dX12_digest_58 : decode cX12_digest 58 = .ok (.iastore, 1) := by decide +kernel
theorem dX12_digest_59 : decode cX12_digest 59 = .ok (.aload_n 0, 1) := by decide +kernel
theorem dX12_digest_60 : decode cX12_digest 60 = .ok (.getfield 99, 3) := by decide +kernel
theorem dX12_digest_63 : decode cX12_digest 63 = .ok (.aload_n 0, 1) := by decide +kernel
theorem dX12_digest_64 : decode cX12_digest 64 = .ok (.getfield 300, 3) := by decide +kernel
theorem dX12_digest_67 : decode cX12_digest 67 = .ok (.iload_n 2, 1) := by decide +kernel
theorem dX12_digest_68 : decode cX12_digest 68 = .ok (.iastore, 1) := by decide +kernel
theorem dX12_digest_69 : decode cX12_digest 69 = .ok (.aload_n 0, 1) := by decide +kernel
theorem dX12_digest_70 : decode cX12_digest 70 = .ok (.getfield 102, 3) := by decide +kernel
theorem dX12_digest_73 : decode cX12_digest 73 = .ok (.aload_n 0, 1) := by decide +kernel
theorem dX12_digest_74 : decode cX12_digest 74 = .ok (.getfield 300, 3) := by decide +kernel
theorem dX12_digest_77 : decode cX12_digest 77 = .ok (.iload_n 3, 1) := by decide +kernel
theorem dX12_digest_78 : decode cX12_digest 78 = .ok (.iastore, 1) := by decide +kernel
theorem dX12_digest_79 : decode cX12_digest 79 = .ok (.aload_n 0, 1) := by decide +kernel
theorem dX12_digest_80 : decode cX12_digest 80 = .ok (.dup, 1) := by decide +kernel
theorem dX12_digest_81 : decode cX12_digest 81 = .ok (.getfield 300, 3) := by decide +kernel
theorem dX12_digest_84 : decode cX12_digest 84 = .ok (.iconst 1, 1) := by decide +kernel
theorem dX12_digest_85 : decode cX12_digest 85 = .ok (.iadd, 1) := by decide +kernel
theorem dX12_digest_86 : decode cX12_digest 86 = .ok (.putfield 300, 3) := by decide +kernel
theorem dX12_digest_89 : decode cX12_digest 89 = .ok (.aload_n 0, 1) := by decide +kernel
theorem dX12_digest_90 : decode cX12_digest 90 = .ok (.getfield 300, 3) := by decide +kernel
theorem dX12_digest_93 : decode cX12_digest 93 = .ok (.iconst 1, 1) := by decide +kernel
theorem dX12_digest_94 : decode cX12_digest 94 = .ok (.isub, 1) := by decide +kernel
theorem dX12_digest_95 : decode cX12_digest 95 = .ok (.ireturn, 1) := by decide +kernel
theorem dX12_cite_0 : decode cX12_cite 0 = .ok (.aload_n 0, 1) := by decide +kernel
theorem dX12_cite_1 : decode cX12_cite 1 = .ok (.iconst 0, 1) := by decide +kernel
theorem dX12_cite_2 : decode cX12_cite 2 = .ok (.putfield 111, 3) := by decide +kernel
theorem dX12_cite_5 : decode cX12_cite 5 = .ok (.iload_n 1, 1) := by decide +kernel
theorem dX12_cite_6 : decode cX12_cite 6 = .ok (.ifCond .lt 19, 3) := by decide +kernel
theorem dX12_cite_9 : decode cX12_cite 9 = .ok (.iload_n 1, 1) := by decide +kernel
theorem dX12_cite_10 : decode cX12_cite 10 = .ok (.aload_n 0, 1) := by decide +kernel
theorem dX12_cite_11 : decode cX12_cite 11 = .ok (.getfield 300, 3) := by decide +kernel
theorem dX12_cite_14 : decode cX12_cite 14 = .ok (.if_icmp .ge 11, 3) := by decide +kernel
theorem dX12_cite_17 : decode cX12_cite 17 = .ok (.aload_n 0, 1) := by decide +kernel
theorem dX12_cite_18 : decode cX12_cite 18 = .ok (.iload_n 2, 1) := by decide +kernel
theorem dX12_cite_19 : decode cX12_cite 19 = .ok (.invokevirtual 237, 3) := by decide +kernel
theorem dX12_cite_22 : decode cX12_cite 22 = .ok (.ifCond .ne 9, 3) := by decide +kernel
theorem dX12_cite_25 : decode cX12_cite 25 = .ok (.aload_n 0, 1) := by decide +kernel
theorem dX12_cite_26 : decode cX12_cite 26 = .ok (.iconst 1, 1) := by decide +kernel
theorem dX12_cite_27 : decode cX12_cite 27 = .ok (.invokevirtual 213, 3) := by decide +kernel
theorem dX12_cite_30 : decode cX12_cite 30 = .ok (.ireturn, 1) := by decide +kernel
theorem dX12_cite_31 : decode cX12_cite 31 = .ok (.aload_n 0, 1) := by decide +kernel
theorem dX12_cite_32 : decode cX12_cite 32 = .ok (.getfield 105, 3) := by decide +kernel
theorem dX12_cite_35 : decode cX12_cite 35 = .ok (.iload_n 1, 1) := by decide +kernel
theorem dX12_cite_36 : decode cX12_cite 36 = .ok (.iaload, 1) := by decide +kernel
theorem dX12_cite_37 : decode cX12_cite 37 = .ok (.bipush 8, 2) := by decide +kernel
theorem dX12_cite_39 : decode cX12_cite 39 = .ok (.if_icmp .ne 7, 3) := by decide +kernel
theorem dX12_cite_42 : decode cX12_cite 42 = .ok (.iconst 1, 1) := by decide +kernel
theorem dX12_cite_43 : decode cX12_cite 43 = .ok (.goto 4, 3) := by decide +kernel
theorem dX12_cite_46 : decode cX12_cite 46 = .ok (.iconst 0, 1) := by decide +kernel
theorem dX12_cite_47 : decode cX12_cite 47 = .ok (.istore_n 3, 1) := by decide +kernel
theorem dX12_cite_48 : decode cX12_cite 48 = .ok (.iconst 0, 1) := by decide +kernel
theorem dX12_cite_49 : decode cX12_cite 49 = .ok (.istore 4, 2) := by decide +kernel
theorem dX12_cite_51 : decode cX12_cite 51 = .ok (.iload 4, 2) := by decide +kernel
theorem dX12_cite_53 : decode cX12_cite 53 = .ok (.aload_n 0, 1) := by decide +kernel
theorem dX12_cite_54 : decode cX12_cite 54 = .ok (.getfield 105, 3) := by decide +kernel
theorem dX12_cite_57 : decode cX12_cite 57 = .ok (.iload_n 1, 1) := by decide +kernel
theorem dX12_cite_58 : decode cX12_cite 58 = .ok (.iaload, 1) := by decide +kernel
theorem dX12_cite_59 : decode cX12_cite 59 = .ok (.if_icmp .ge 27, 3) := by decide +kernel
theorem dX12_cite_62 : decode cX12_cite 62 = .ok (.aload_n 0, 1) := by decide +kernel
theorem dX12_cite_63 : decode cX12_cite 63 = .ok (.getfield 108, 3) := by decide +kernel
theorem dX12_cite_66 : decode cX12_cite 66 = .ok (.bipush 8, 2) := by decide +kernel
theorem dX12_cite_68 : decode cX12_cite 68 = .ok (.iload_n 1, 1) := by decide +kernel
theorem dX12_cite_69 : decode cX12_cite 69 = .ok (.imul, 1) := by decide +kernel
theorem dX12_cite_70 : decode cX12_cite 70 = .ok (.iload 4, 2) := by decide +kernel
theorem dX12_cite_72 : decode cX12_cite 72 = .ok (.iadd, 1) := by decide +kernel
theorem dX12_cite_73 : decode cX12_cite 73 = .ok (.iaload, 1) := by decide +kernel
theorem dX12_cite_74 : decode cX12_cite 74 = .ok (.iload_n 2, 1) := by decide +kernel
theorem dX12_cite_75 : decode cX12_cite 75 = .ok (.if_icmp .ne 5, 3) := by decide +kernel
theorem dX12_cite_78 : decode cX12_cite 78 = .ok (.iconst 1, 1) := by decide +kernel
theorem dX12_cite_79 : decode cX12_cite 79 = .ok (.istore_n 3, 1) := by decide +kernel
theorem dX12_cite_80 : decode cX12_cite 80 = .ok (.iinc 4 1, 3) := by decide +kernel
theorem dX12_cite_83 : decode cX12_cite 83 = .ok (.goto (-32), 3) := by decide +kernel
theorem dX12_cite_86 : decode cX12_cite 86 = .ok (.iload_n 3, 1) := by decide +kernel
theorem dX12_cite_87 : decode cX12_cite 87 = .ok (.ifCond .eq 5, 3) := by decide +kernel
theorem dX12_cite_90 : decode cX12_cite 90 = .ok (.iconst (-1), 1) := by decide +kernel
theorem dX12_cite_91 : decode cX12_cite 91 = .ok (.ireturn, 1) := by decide +kernel
theorem dX12_cite_92 : decode cX12_cite 92 = .ok (.aload_n 0, 1) := by decide +kernel
theorem dX12_cite_93 : decode cX12_cite 93 = .ok (.getfield 108, 3) := by decide +kernel
theorem dX12_cite_96 : decode cX12_cite 96 = .ok (.bipush 8, 2) := by decide +kernel
theorem dX12_cite_98 : decode cX12_cite 98 = .ok (.iload_n 1, 1) := by decide +kernel
theorem dX12_cite_99 : decode cX12_cite 99 = .ok (.imul, 1) := by decide +kernel
theorem dX12_cite_100 : decode cX12_cite 100 = .ok (.aload_n 0, 1) := by decide +kernel
theorem dX12_cite_101 : decode cX12_cite 101 = .ok (.getfield 105, 3) := by decide +kernel
theorem dX12_cite_104 : decode cX12_cite 104 = .ok (.iload_n 1, 1) := by decide +kernel
theorem dX12_cite_105 : decode cX12_cite 105 = .ok (.iaload, 1) := by decide +kernel
theorem dX12_cite_106 : decode cX12_cite 106 = .ok (.iadd, 1) := by decide +kernel
theorem dX12_cite_107 : decode cX12_cite 107 = .ok (.iload_n 2, 1) := by decide +kernel
theorem dX12_cite_108 : decode cX12_cite 108 = .ok (.iastore, 1) := by decide +kernel
theorem dX12_cite_109 : decode cX12_cite 109 = .ok (.aload_n 0, 1) := by decide +kernel
theorem dX12_cite_110 : decode cX12_cite 110 = .ok (.getfield 105, 3) := by decide +kernel
theorem dX12_cite_113 : decode cX12_cite 113 = .ok (.iload_n 1, 1) := by decide +kernel
theorem dX12_cite_114 : decode cX12_cite 114 = .ok (.dup2, 1) := by decide +kernel
theorem dX12_cite_115 : decode cX12_cite 115 = .ok (.iaload, 1) := by decide +kernel
theorem dX12_cite_116 : decode cX12_cite 116 = .ok (.iconst 1, 1) := by decide +kernel
theorem dX12_cite_117 : decode cX12_cite 117 = .ok (.iadd, 1) := by decide +kernel
theorem dX12_cite_118 : decode cX12_cite 118 = .ok (.iastore, 1) := by decide +kernel
theorem dX12_cite_119 : decode cX12_cite 119 = .ok (.aload_n 0, 1) := by decide +kernel
theorem dX12_cite_120 : decode cX12_cite 120 = .ok (.getfield 105, 3) := by decide +kernel
theorem dX12_cite_123 : decode cX12_cite 123 = .ok (.iload_n 1, 1) := by decide +kernel
theorem dX12_cite_124 : decode cX12_cite 124 = .ok (.iaload, 1) := by decide +kernel
theorem dX12_cite_125 : decode cX12_cite 125 = .ok (.ireturn, 1) := by decide +kernel
theorem dX12_shown_0 : decode cX12_shown 0 = .ok (.aload_n 0, 1) := by decide +kernel
theorem dX12_shown_1 : decode cX12_shown 1 = .ok (.iconst 0, 1) := by decide +kernel
theorem dX12_shown_2 : decode cX12_shown 2 = .ok (.putfield 111, 3) := by decide +kernel
theorem dX12_shown_5 : decode cX12_shown 5 = .ok (.iload_n 1, 1) := by decide +kernel
theorem dX12_shown_6 : decode cX12_shown 6 = .ok (.ifCond .lt 11, 3) := by decide +kernel
theorem dX12_shown_9 : decode cX12_shown 9 = .ok (.iload_n 1, 1) := by decide +kernel
theorem dX12_shown_10 : decode cX12_shown 10 = .ok (.aload_n 0, 1) := by decide +kernel
theorem dX12_shown_11 : decode cX12_shown 11 = .ok (.getfield 300, 3) := by decide +kernel
theorem dX12_shown_14 : decode cX12_shown 14 = .ok (.if_icmp .lt 9, 3) := by decide +kernel
theorem dX12_shown_17 : decode cX12_shown 17 = .ok (.aload_n 0, 1) := by decide +kernel
theorem dX12_shown_18 : decode cX12_shown 18 = .ok (.iconst 1, 1) := by decide +kernel
theorem dX12_shown_19 : decode cX12_shown 19 = .ok (.invokevirtual 213, 3) := by decide +kernel
theorem dX12_shown_22 : decode cX12_shown 22 = .ok (.ireturn, 1) := by decide +kernel
theorem dX12_shown_23 : decode cX12_shown 23 = .ok (.iconst 0, 1) := by decide +kernel
theorem dX12_shown_24 : decode cX12_shown 24 = .ok (.istore_n 3, 1) := by decide +kernel
theorem dX12_shown_25 : decode cX12_shown 25 = .ok (.iconst 0, 1) := by decide +kernel
theorem dX12_shown_26 : decode cX12_shown 26 = .ok (.istore 4, 2) := by decide +kernel
theorem dX12_shown_28 : decode cX12_shown 28 = .ok (.iload 4, 2) := by decide +kernel
theorem dX12_shown_30 : decode cX12_shown 30 = .ok (.aload_n 0, 1) := by decide +kernel
theorem dX12_shown_31 : decode cX12_shown 31 = .ok (.getfield 105, 3) := by decide +kernel
theorem dX12_shown_34 : decode cX12_shown 34 = .ok (.iload_n 1, 1) := by decide +kernel
theorem dX12_shown_35 : decode cX12_shown 35 = .ok (.iaload, 1) := by decide +kernel
theorem dX12_shown_36 : decode cX12_shown 36 = .ok (.if_icmp .ge 142, 3) := by decide +kernel
theorem dX12_shown_39 : decode cX12_shown 39 = .ok (.aload_n 0, 1) := by decide +kernel
theorem dX12_shown_40 : decode cX12_shown 40 = .ok (.getfield 108, 3) := by decide +kernel
theorem dX12_shown_43 : decode cX12_shown 43 = .ok (.bipush 8, 2) := by decide +kernel
theorem dX12_shown_45 : decode cX12_shown 45 = .ok (.iload_n 1, 1) := by decide +kernel
theorem dX12_shown_46 : decode cX12_shown 46 = .ok (.imul, 1) := by decide +kernel
theorem dX12_shown_47 : decode cX12_shown 47 = .ok (.iload 4, 2) := by decide +kernel
theorem dX12_shown_49 : decode cX12_shown 49 = .ok (.iadd, 1) := by decide +kernel
theorem dX12_shown_50 : decode cX12_shown 50 = .ok (.iaload, 1) := by decide +kernel
theorem dX12_shown_51 : decode cX12_shown 51 = .ok (.istore 5, 2) := by decide +kernel
theorem dX12_shown_53 : decode cX12_shown 53 = .ok (.aload_n 0, 1) := by decide +kernel
theorem dX12_shown_54 : decode cX12_shown 54 = .ok (.getfield 53, 3) := by decide +kernel
theorem dX12_shown_57 : decode cX12_shown 57 = .ok (.iload 5, 2) := by decide +kernel
theorem dX12_shown_59 : decode cX12_shown 59 = .ok (.iaload, 1) := by decide +kernel
theorem dX12_shown_60 : decode cX12_shown 60 = .ok (.aload_n 0, 1) := by decide +kernel
theorem dX12_shown_61 : decode cX12_shown 61 = .ok (.getfield 96, 3) := by decide +kernel
theorem dX12_shown_64 : decode cX12_shown 64 = .ok (.iload_n 1, 1) := by decide +kernel
theorem dX12_shown_65 : decode cX12_shown 65 = .ok (.iaload, 1) := by decide +kernel
theorem dX12_shown_66 : decode cX12_shown 66 = .ok (.if_icmp .ne 50, 3) := by decide +kernel
theorem dX12_shown_69 : decode cX12_shown 69 = .ok (.aload_n 0, 1) := by decide +kernel
theorem dX12_shown_70 : decode cX12_shown 70 = .ok (.getfield 56, 3) := by decide +kernel
theorem dX12_shown_73 : decode cX12_shown 73 = .ok (.iload 5, 2) := by decide +kernel
theorem dX12_shown_75 : decode cX12_shown 75 = .ok (.iaload, 1) := by decide +kernel
theorem dX12_shown_76 : decode cX12_shown 76 = .ok (.aload_n 0, 1) := by decide +kernel
theorem dX12_shown_77 : decode cX12_shown 77 = .ok (.getfield 99, 3) := by decide +kernel
theorem dX12_shown_80 : decode cX12_shown 80 = .ok (.iload_n 1, 1) := by decide +kernel
theorem dX12_shown_81 : decode cX12_shown 81 = .ok (.iaload, 1) := by decide +kernel
theorem dX12_shown_82 : decode cX12_shown 82 = .ok (.if_icmp .ne 34, 3) := by decide +kernel
theorem dX12_shown_85 : decode cX12_shown 85 = .ok (.aload_n 0, 1) := by decide +kernel
theorem dX12_shown_86 : decode cX12_shown 86 = .ok (.getfield 59, 3) := by decide +kernel
theorem dX12_shown_89 : decode cX12_shown 89 = .ok (.iload 5, 2) := by decide +kernel
theorem dX12_shown_91 : decode cX12_shown 91 = .ok (.iaload, 1) := by decide +kernel
theorem dX12_shown_92 : decode cX12_shown 92 = .ok (.aload_n 0, 1) := by decide +kernel
theorem dX12_shown_93 : decode cX12_shown 93 = .ok (.getfield 102, 3) := by decide +kernel
theorem dX12_shown_96 : decode cX12_shown 96 = .ok (.iload_n 1, 1) := by decide +kernel
theorem dX12_shown_97 : decode cX12_shown 97 = .ok (.iaload, 1) := by decide +kernel
theorem dX12_shown_98 : decode cX12_shown 98 = .ok (.if_icmp .ne 18, 3) := by decide +kernel
theorem dX12_shown_101 : decode cX12_shown 101 = .ok (.aload_n 0, 1) := by decide +kernel
theorem dX12_shown_102 : decode cX12_shown 102 = .ok (.iload 5, 2) := by decide +kernel
theorem dX12_shown_104 : decode cX12_shown 104 = .ok (.iload_n 2, 1) := by decide +kernel
theorem dX12_shown_105 : decode cX12_shown 105 = .ok (.invokevirtual 260, 3) := by decide +kernel
theorem dX12_shown_108 : decode cX12_shown 108 = .ok (.iconst 1, 1) := by decide +kernel
theorem dX12_shown_109 : decode cX12_shown 109 = .ok (.if_icmp .ne 7, 3) := by decide +kernel
theorem dX12_shown_112 : decode cX12_shown 112 = .ok (.iconst 1, 1) := by decide +kernel
theorem dX12_shown_113 : decode cX12_shown 113 = .ok (.goto 4, 3) := by decide +kernel
theorem dX12_shown_116 : decode cX12_shown 116 = .ok (.iconst 0, 1) := by decide +kernel
theorem dX12_shown_117 : decode cX12_shown 117 = .ok (.istore 6, 2) := by decide +kernel
theorem dX12_shown_119 : decode cX12_shown 119 = .ok (.iload 6, 2) := by decide +kernel
theorem dX12_shown_121 : decode cX12_shown 121 = .ok (.ifCond .ne 6, 3) := by decide +kernel
theorem dX12_shown_124 : decode cX12_shown 124 = .ok (.goto 48, 3) := by decide +kernel
theorem dX12_shown_127 : decode cX12_shown 127 = .ok (.iload_n 3, 1) := by decide +kernel
theorem dX12_shown_128 : decode cX12_shown 128 = .ok (.iconst 1, 1) := by decide +kernel
theorem dX12_shown_129 : decode cX12_shown 129 = .ok (.invokestatic 247, 3) := by decide +kernel
theorem dX12_shown_132 : decode cX12_shown 132 = .ok (.istore_n 3, 1) := by decide +kernel
theorem dX12_shown_133 : decode cX12_shown 133 = .ok (.iconst 0, 1) := by decide +kernel
theorem dX12_shown_134 : decode cX12_shown 134 = .ok (.istore 7, 2) := by decide +kernel
theorem dX12_shown_136 : decode cX12_shown 136 = .ok (.iload 7, 2) := by decide +kernel
theorem dX12_shown_138 : decode cX12_shown 138 = .ok (.aload_n 0, 1) := by decide +kernel
theorem dX12_shown_139 : decode cX12_shown 139 = .ok (.getfield 188, 3) := by decide +kernel
theorem dX12_shown_142 : decode cX12_shown 142 = .ok (.if_icmp .ge 30, 3) := by decide +kernel
theorem dX12_shown_145 : decode cX12_shown 145 = .ok (.iload 7, 2) := by decide +kernel
theorem dX12_shown_147 : decode cX12_shown 147 = .ok (.iload 5, 2) := by decide +kernel
theorem dX12_shown_149 : decode cX12_shown 149 = .ok (.if_icmp .eq 17, 3) := by decide +kernel
theorem dX12_shown_152 : decode cX12_shown 152 = .ok (.aload_n 0, 1) := by decide +kernel
theorem dX12_shown_153 : decode cX12_shown 153 = .ok (.iload 5, 2) := by decide +kernel
theorem dX12_shown_155 : decode cX12_shown 155 = .ok (.iload 7, 2) := by decide +kernel
theorem dX12_shown_157 : decode cX12_shown 157 = .ok (.iload_n 2, 1) := by decide +kernel
theorem dX12_shown_158 : decode cX12_shown 158 = .ok (.invokevirtual 263, 3) := by decide +kernel
theorem dX12_shown_161 : decode cX12_shown 161 = .ok (.ifCond .eq 5, 3) := by decide +kernel
theorem dX12_shown_164 : decode cX12_shown 164 = .ok (.iconst 2, 1) := by decide +kernel
theorem dX12_shown_165 : decode cX12_shown 165 = .ok (.istore_n 3, 1) := by decide +kernel
theorem dX12_shown_166 : decode cX12_shown 166 = .ok (.iinc 7 1, 3) := by decide +kernel
theorem dX12_shown_169 : decode cX12_shown 169 = .ok (.goto (-33), 3) := by decide +kernel
theorem dX12_shown_172 : decode cX12_shown 172 = .ok (.iinc 4 1, 3) := by decide +kernel
theorem dX12_shown_175 : decode cX12_shown 175 = .ok (.goto (-147), 3) := by decide +kernel
theorem dX12_shown_178 : decode cX12_shown 178 = .ok (.iload_n 3, 1) := by decide +kernel
theorem dX12_shown_179 : decode cX12_shown 179 = .ok (.ireturn, 1) := by decide +kernel
theorem dX12_count_0 : decode cX12_count 0 = .ok (.aload_n 0, 1) := by decide +kernel
theorem dX12_count_1 : decode cX12_count 1 = .ok (.iconst 0, 1) := by decide +kernel
theorem dX12_count_2 : decode cX12_count 2 = .ok (.putfield 111, 3) := by decide +kernel
theorem dX12_count_5 : decode cX12_count 5 = .ok (.iload_n 1, 1) := by decide +kernel
theorem dX12_count_6 : decode cX12_count 6 = .ok (.tableswitch 104 0 9 #[54, 59, 64, 69, 74, 79, 84, 89, 94, 99], 54) := by decide +kernel
theorem dX12_count_60 : decode cX12_count 60 = .ok (.aload_n 0, 1) := by decide +kernel
theorem dX12_count_61 : decode cX12_count 61 = .ok (.getfield 114, 3) := by decide +kernel
theorem dX12_count_64 : decode cX12_count 64 = .ok (.ireturn, 1) := by decide +kernel
theorem dX12_count_65 : decode cX12_count 65 = .ok (.aload_n 0, 1) := by decide +kernel
theorem dX12_count_66 : decode cX12_count 66 = .ok (.getfield 210, 3) := by decide +kernel
theorem dX12_count_69 : decode cX12_count 69 = .ok (.ireturn, 1) := by decide +kernel
theorem dX12_count_70 : decode cX12_count 70 = .ok (.aload_n 0, 1) := by decide +kernel
theorem dX12_count_71 : decode cX12_count 71 = .ok (.getfield 188, 3) := by decide +kernel
theorem dX12_count_74 : decode cX12_count 74 = .ok (.ireturn, 1) := by decide +kernel
theorem dX12_count_75 : decode cX12_count 75 = .ok (.aload_n 0, 1) := by decide +kernel
theorem dX12_count_76 : decode cX12_count 76 = .ok (.getfield 174, 3) := by decide +kernel
theorem dX12_count_79 : decode cX12_count 79 = .ok (.ireturn, 1) := by decide +kernel
theorem dX12_count_80 : decode cX12_count 80 = .ok (.aload_n 0, 1) := by decide +kernel
theorem dX12_count_81 : decode cX12_count 81 = .ok (.getfield 120, 3) := by decide +kernel
theorem dX12_count_84 : decode cX12_count 84 = .ok (.ireturn, 1) := by decide +kernel
theorem dX12_count_85 : decode cX12_count 85 = .ok (.aload_n 0, 1) := by decide +kernel
theorem dX12_count_86 : decode cX12_count 86 = .ok (.getfield 229, 3) := by decide +kernel
theorem dX12_count_89 : decode cX12_count 89 = .ok (.ireturn, 1) := by decide +kernel
theorem dX12_count_90 : decode cX12_count 90 = .ok (.aload_n 0, 1) := by decide +kernel
theorem dX12_count_91 : decode cX12_count 91 = .ok (.getfield 240, 3) := by decide +kernel
theorem dX12_count_94 : decode cX12_count 94 = .ok (.ireturn, 1) := by decide +kernel
theorem dX12_count_95 : decode cX12_count 95 = .ok (.aload_n 0, 1) := by decide +kernel
theorem dX12_count_96 : decode cX12_count 96 = .ok (.getfield 300, 3) := by decide +kernel
theorem dX12_count_99 : decode cX12_count 99 = .ok (.ireturn, 1) := by decide +kernel
theorem dX12_count_100 : decode cX12_count 100 = .ok (.aload_n 0, 1) := by decide +kernel
theorem dX12_count_101 : decode cX12_count 101 = .ok (.getfield 117, 3) := by decide +kernel
theorem dX12_count_104 : decode cX12_count 104 = .ok (.ireturn, 1) := by decide +kernel
theorem dX12_count_105 : decode cX12_count 105 = .ok (.aload_n 0, 1) := by decide +kernel
theorem dX12_count_106 : decode cX12_count 106 = .ok (.invokevirtual 297, 3) := by decide +kernel
theorem dX12_count_109 : decode cX12_count 109 = .ok (.ireturn, 1) := by decide +kernel
theorem dX12_count_110 : decode cX12_count 110 = .ok (.aload_n 0, 1) := by decide +kernel
theorem dX12_count_111 : decode cX12_count 111 = .ok (.iconst 1, 1) := by decide +kernel
theorem dX12_count_112 : decode cX12_count 112 = .ok (.invokevirtual 213, 3) := by decide +kernel
theorem dX12_count_115 : decode cX12_count 115 = .ok (.ireturn, 1) := by decide +kernel
theorem dJ9_max_7cf53_0 : decode cJ9_max_7cf53 0 = .ok (.iload_n 0, 1) := by decide +kernel
theorem dJ9_max_7cf53_1 : decode cJ9_max_7cf53 1 = .ok (.iload_n 1, 1) := by decide +kernel
theorem dJ9_max_7cf53_2 : decode cJ9_max_7cf53 2 = .ok (.if_icmp .lt 7, 3) := by decide +kernel
theorem dJ9_max_7cf53_5 : decode cJ9_max_7cf53 5 = .ok (.iload_n 0, 1) := by decide +kernel
theorem dJ9_max_7cf53_6 : decode cJ9_max_7cf53 6 = .ok (.goto 4, 3) := by decide +kernel
theorem dJ9_max_7cf53_9 : decode cJ9_max_7cf53 9 = .ok (.iload_n 1, 1) := by decide +kernel
theorem dJ9_max_7cf53_10 : decode cJ9_max_7cf53 10 = .ok (.ireturn, 1) := by decide +kernel
theorem dJ9_min_7cf53_0 : decode cJ9_min_7cf53 0 = .ok (.iload_n 0, 1) := by decide +kernel
theorem dJ9_min_7cf53_1 : decode cJ9_min_7cf53 1 = .ok (.iload_n 1, 1) := by decide +kernel
theorem dJ9_min_7cf53_2 : decode cJ9_min_7cf53 2 = .ok (.if_icmp .gt 7, 3) := by decide +kernel
theorem dJ9_min_7cf53_5 : decode cJ9_min_7cf53 5 = .ok (.iload_n 0, 1) := by decide +kernel
theorem dJ9_min_7cf53_6 : decode cJ9_min_7cf53 6 = .ok (.goto 4, 3) := by decide +kernel
theorem dJ9_min_7cf53_9 : decode cJ9_min_7cf53 9 = .ok (.iload_n 1, 1) := by decide +kernel
theorem dJ9_min_7cf53_10 : decode cJ9_min_7cf53 10 = .ok (.ireturn, 1) := by decide +kernel
theorem dJ0_length_8abf5_0 : decode cJ0_length_8abf5 0 = .ok (.aload_n 0, 1) := by decide +kernel
theorem dJ0_length_8abf5_1 : decode cJ0_length_8abf5 1 = .ok (.getfield 9, 3) := by decide +kernel
theorem dJ0_length_8abf5_4 : decode cJ0_length_8abf5 4 = .ok (.arraylength, 1) := by decide +kernel
theorem dJ0_length_8abf5_5 : decode cJ0_length_8abf5 5 = .ok (.aload_n 0, 1) := by decide +kernel
theorem dJ0_length_8abf5_6 : decode cJ0_length_8abf5 6 = .ok (.invokevirtual 335, 3) := by decide +kernel
theorem dJ0_length_8abf5_9 : decode cJ0_length_8abf5 9 = .ok (.ishr, 1) := by decide +kernel
theorem dJ0_length_8abf5_10 : decode cJ0_length_8abf5 10 = .ok (.ireturn, 1) := by decide +kernel
theorem dJ0_charAt_5068e_0 : decode cJ0_charAt_5068e 0 = .ok (.aload_n 0, 1) := by decide +kernel
theorem dJ0_charAt_5068e_1 : decode cJ0_charAt_5068e 1 = .ok (.invokevirtual 492, 3) := by decide +kernel
theorem dJ0_charAt_5068e_4 : decode cJ0_charAt_5068e 4 = .ok (.ifCond .eq 12, 3) := by decide +kernel
theorem dJ0_charAt_5068e_7 : decode cJ0_charAt_5068e 7 = .ok (.aload_n 0, 1) := by decide +kernel
theorem dJ0_charAt_5068e_8 : decode cJ0_charAt_5068e 8 = .ok (.getfield 9, 3) := by decide +kernel
theorem dJ0_charAt_5068e_11 : decode cJ0_charAt_5068e 11 = .ok (.iload_n 1, 1) := by decide +kernel
theorem dJ0_charAt_5068e_12 : decode cJ0_charAt_5068e 12 = .ok (.invokestatic 495, 3) := by decide +kernel
theorem dJ0_charAt_5068e_15 : decode cJ0_charAt_5068e 15 = .ok (.ireturn, 1) := by decide +kernel
theorem dJ0_charAt_5068e_16 : decode cJ0_charAt_5068e 16 = .ok (.aload_n 0, 1) := by decide +kernel
theorem dJ0_charAt_5068e_17 : decode cJ0_charAt_5068e 17 = .ok (.getfield 9, 3) := by decide +kernel
theorem dJ0_charAt_5068e_20 : decode cJ0_charAt_5068e 20 = .ok (.iload_n 1, 1) := by decide +kernel
theorem dJ0_charAt_5068e_21 : decode cJ0_charAt_5068e 21 = .ok (.invokestatic 498, 3) := by decide +kernel
theorem dJ0_charAt_5068e_24 : decode cJ0_charAt_5068e 24 = .ok (.ireturn, 1) := by decide +kernel
theorem dJ0_indexOf_0f7a4_0 : decode cJ0_indexOf_0f7a4 0 = .ok (.aload_n 0, 1) := by decide +kernel
theorem dJ0_indexOf_0f7a4_1 : decode cJ0_indexOf_0f7a4 1 = .ok (.iload_n 1, 1) := by decide +kernel
theorem dJ0_indexOf_0f7a4_2 : decode cJ0_indexOf_0f7a4 2 = .ok (.iconst 0, 1) := by decide +kernel
theorem dJ0_indexOf_0f7a4_3 : decode cJ0_indexOf_0f7a4 3 = .ok (.invokevirtual 633, 3) := by decide +kernel
theorem dJ0_indexOf_0f7a4_6 : decode cJ0_indexOf_0f7a4 6 = .ok (.ireturn, 1) := by decide +kernel
theorem dJ0_indexOf_7cf53_0 : decode cJ0_indexOf_7cf53 0 = .ok (.aload_n 0, 1) := by decide +kernel
theorem dJ0_indexOf_7cf53_1 : decode cJ0_indexOf_7cf53 1 = .ok (.invokevirtual 492, 3) := by decide +kernel
theorem dJ0_indexOf_7cf53_4 : decode cJ0_indexOf_7cf53 4 = .ok (.ifCond .eq 19, 3) := by decide +kernel
theorem dJ0_indexOf_7cf53_7 : decode cJ0_indexOf_7cf53 7 = .ok (.aload_n 0, 1) := by decide +kernel
theorem dJ0_indexOf_7cf53_8 : decode cJ0_indexOf_7cf53 8 = .ok (.getfield 9, 3) := by decide +kernel
theorem dJ0_indexOf_7cf53_11 : decode cJ0_indexOf_7cf53 11 = .ok (.iload_n 1, 1) := by decide +kernel
theorem dJ0_indexOf_7cf53_12 : decode cJ0_indexOf_7cf53 12 = .ok (.iload_n 2, 1) := by decide +kernel
theorem dJ0_indexOf_7cf53_13 : decode cJ0_indexOf_7cf53 13 = .ok (.aload_n 0, 1) := by decide +kernel
theorem dJ0_indexOf_7cf53_14 : decode cJ0_indexOf_7cf53 14 = .ok (.invokevirtual 505, 3) := by decide +kernel
theorem dJ0_indexOf_7cf53_17 : decode cJ0_indexOf_7cf53 17 = .ok (.invokestatic 637, 3) := by decide +kernel
theorem dJ0_indexOf_7cf53_20 : decode cJ0_indexOf_7cf53 20 = .ok (.goto 16, 3) := by decide +kernel
theorem dJ0_indexOf_7cf53_23 : decode cJ0_indexOf_7cf53 23 = .ok (.aload_n 0, 1) := by decide +kernel
theorem dJ0_indexOf_7cf53_24 : decode cJ0_indexOf_7cf53 24 = .ok (.getfield 9, 3) := by decide +kernel
theorem dJ0_indexOf_7cf53_27 : decode cJ0_indexOf_7cf53 27 = .ok (.iload_n 1, 1) := by decide +kernel
theorem dJ0_indexOf_7cf53_28 : decode cJ0_indexOf_7cf53 28 = .ok (.iload_n 2, 1) := by decide +kernel
theorem dJ0_indexOf_7cf53_29 : decode cJ0_indexOf_7cf53 29 = .ok (.aload_n 0, 1) := by decide +kernel
theorem dJ0_indexOf_7cf53_30 : decode cJ0_indexOf_7cf53 30 = .ok (.invokevirtual 505, 3) := by decide +kernel
theorem dJ0_indexOf_7cf53_33 : decode cJ0_indexOf_7cf53 33 = .ok (.invokestatic 640, 3) := by decide +kernel
theorem dJ0_indexOf_7cf53_36 : decode cJ0_indexOf_7cf53 36 = .ok (.ireturn, 1) := by decide +kernel
theorem dJ0_coder_7d493_0 : decode cJ0_coder_7d493 0 = .ok (.getstatic 38, 3) := by decide +kernel
theorem dJ0_coder_7d493_3 : decode cJ0_coder_7d493 3 = .ok (.ifCond .eq 10, 3) := by decide +kernel
theorem dJ0_coder_7d493_6 : decode cJ0_coder_7d493 6 = .ok (.aload_n 0, 1) := by decide +kernel
theorem dJ0_coder_7d493_7 : decode cJ0_coder_7d493 7 = .ok (.getfield 15, 3) := by decide +kernel
theorem dJ0_coder_7d493_10 : decode cJ0_coder_7d493 10 = .ok (.goto 4, 3) := by decide +kernel
theorem dJ0_coder_7d493_13 : decode cJ0_coder_7d493 13 = .ok (.iconst 1, 1) := by decide +kernel
theorem dJ0_coder_7d493_14 : decode cJ0_coder_7d493 14 = .ok (.ireturn, 1) := by decide +kernel
theorem dJ0_isLatin1_aae02_0 : decode cJ0_isLatin1_aae02 0 = .ok (.getstatic 38, 3) := by decide +kernel
theorem dJ0_isLatin1_aae02_3 : decode cJ0_isLatin1_aae02 3 = .ok (.ifCond .eq 14, 3) := by decide +kernel
theorem dJ0_isLatin1_aae02_6 : decode cJ0_isLatin1_aae02 6 = .ok (.aload_n 0, 1) := by decide +kernel
theorem dJ0_isLatin1_aae02_7 : decode cJ0_isLatin1_aae02 7 = .ok (.getfield 15, 3) := by decide +kernel
theorem dJ0_isLatin1_aae02_10 : decode cJ0_isLatin1_aae02 10 = .ok (.ifCond .ne 7, 3) := by decide +kernel
theorem dJ0_isLatin1_aae02_13 : decode cJ0_isLatin1_aae02 13 = .ok (.iconst 1, 1) := by decide +kernel
theorem dJ0_isLatin1_aae02_14 : decode cJ0_isLatin1_aae02 14 = .ok (.goto 4, 3) := by decide +kernel
theorem dJ0_isLatin1_aae02_17 : decode cJ0_isLatin1_aae02 17 = .ok (.iconst 0, 1) := by decide +kernel
theorem dJ0_isLatin1_aae02_18 : decode cJ0_isLatin1_aae02 18 = .ok (.ireturn, 1) := by decide +kernel
theorem dJ0_checkIndex_df160_0 : decode cJ0_checkIndex_df160 0 = .ok (.iload_n 0, 1) := by decide +kernel
theorem dJ0_checkIndex_df160_1 : decode cJ0_checkIndex_df160 1 = .ok (.iload_n 1, 1) := by decide +kernel
theorem dJ0_checkIndex_df160_2 : decode cJ0_checkIndex_df160 2 = .ok (.getstatic 1053, 3) := by decide +kernel
theorem dJ0_checkIndex_df160_5 : decode cJ0_checkIndex_df160 5 = .ok (.invokestatic 1059, 3) := by decide +kernel
theorem dJ0_checkIndex_df160_8 : decode cJ0_checkIndex_df160 8 = .ok (.pop, 1) := by decide +kernel
theorem dJ0_checkIndex_df160_9 : decode cJ0_checkIndex_df160 9 = .ok (.return_, 1) := by decide +kernel
theorem dJ0_checkBoundsBeginEnd_23922_0 : decode cJ0_checkBoundsBeginEnd_23922 0 = .ok (.iload_n 0, 1) := by decide +kernel
theorem dJ0_checkBoundsBeginEnd_23922_1 : decode cJ0_checkBoundsBeginEnd_23922 1 = .ok (.iload_n 1, 1) := by decide +kernel
theorem dJ0_checkBoundsBeginEnd_23922_2 : decode cJ0_checkBoundsBeginEnd_23922 2 = .ok (.iload_n 2, 1) := by decide +kernel
theorem dJ0_checkBoundsBeginEnd_23922_3 : decode cJ0_checkBoundsBeginEnd_23922 3 = .ok (.getstatic 1053, 3) := by decide +kernel
theorem dJ0_checkBoundsBeginEnd_23922_6 : decode cJ0_checkBoundsBeginEnd_23922 6 = .ok (.invokestatic 1062, 3) := by decide +kernel
theorem dJ0_checkBoundsBeginEnd_23922_9 : decode cJ0_checkBoundsBeginEnd_23922 9 = .ok (.pop, 1) := by decide +kernel
theorem dJ0_checkBoundsBeginEnd_23922_10 : decode cJ0_checkBoundsBeginEnd_23922 10 = .ok (.return_, 1) := by decide +kernel
theorem dJ1_charAt_3b067_0 : decode cJ1_charAt_3b067 0 = .ok (.iload_n 1, 1) := by decide +kernel
theorem dJ1_charAt_3b067_1 : decode cJ1_charAt_3b067 1 = .ok (.aload_n 0, 1) := by decide +kernel
theorem dJ1_charAt_3b067_2 : decode cJ1_charAt_3b067 2 = .ok (.arraylength, 1) := by decide +kernel
theorem dJ1_charAt_3b067_3 : decode cJ1_charAt_3b067 3 = .ok (.invokestatic 9, 3) := by decide +kernel
theorem dJ1_charAt_3b067_6 : decode cJ1_charAt_3b067 6 = .ok (.aload_n 0, 1) := by decide +kernel
theorem dJ1_charAt_3b067_7 : decode cJ1_charAt_3b067 7 = .ok (.iload_n 1, 1) := by decide +kernel
theorem dJ1_charAt_3b067_8 : decode cJ1_charAt_3b067 8 = .ok (.baload, 1) := by decide +kernel
theorem dJ1_charAt_3b067_9 : decode cJ1_charAt_3b067 9 = .ok (.sipush 255, 3) := by decide +kernel
theorem dJ1_charAt_3b067_12 : decode cJ1_charAt_3b067 12 = .ok (.iand, 1) := by decide +kernel
theorem dJ1_charAt_3b067_13 : decode cJ1_charAt_3b067 13 = .ok (.i2c, 1) := by decide +kernel
theorem dJ1_charAt_3b067_14 : decode cJ1_charAt_3b067 14 = .ok (.ireturn, 1) := by decide +kernel
theorem dJ1_canEncode_9a6ad_0 : decode cJ1_canEncode_9a6ad 0 = .ok (.iload_n 0, 1) := by decide +kernel
theorem dJ1_canEncode_9a6ad_1 : decode cJ1_canEncode_9a6ad 1 = .ok (.ifCond .lt 14, 3) := by decide +kernel
theorem dJ1_canEncode_9a6ad_4 : decode cJ1_canEncode_9a6ad 4 = .ok (.iload_n 0, 1) := by decide +kernel
theorem dJ1_canEncode_9a6ad_5 : decode cJ1_canEncode_9a6ad 5 = .ok (.sipush 255, 3) := by decide +kernel
theorem dJ1_canEncode_9a6ad_8 : decode cJ1_canEncode_9a6ad 8 = .ok (.if_icmp .gt 7, 3) := by decide +kernel
theorem dJ1_canEncode_9a6ad_11 : decode cJ1_canEncode_9a6ad 11 = .ok (.iconst 1, 1) := by decide +kernel
theorem dJ1_canEncode_9a6ad_12 : decode cJ1_canEncode_9a6ad 12 = .ok (.goto 4, 3) := by decide +kernel
theorem dJ1_canEncode_9a6ad_15 : decode cJ1_canEncode_9a6ad 15 = .ok (.iconst 0, 1) := by decide +kernel
theorem dJ1_canEncode_9a6ad_16 : decode cJ1_canEncode_9a6ad 16 = .ok (.ireturn, 1) := by decide +kernel
theorem dJ1_indexOf_4cfef_0 : decode cJ1_indexOf_4cfef 0 = .ok (.iload_n 1, 1) := by decide +kernel
theorem dJ1_indexOf_4cfef_1 : decode cJ1_indexOf_4cfef 1 = .ok (.invokestatic 88, 3) := by decide +kernel
theorem dJ1_indexOf_4cfef_4 : decode cJ1_indexOf_4cfef 4 = .ok (.ifCond .ne 5, 3) := by decide +kernel
theorem dJ1_indexOf_4cfef_7 : decode cJ1_indexOf_4cfef 7 = .ok (.iconst (-1), 1) := by decide +kernel
theorem dJ1_indexOf_4cfef_8 : decode cJ1_indexOf_4cfef 8 = .ok (.ireturn, 1) := by decide +kernel
theorem dJ1_indexOf_4cfef_9 : decode cJ1_indexOf_4cfef 9 = .ok (.iload_n 2, 1) := by decide +kernel
theorem dJ1_indexOf_4cfef_10 : decode cJ1_indexOf_4cfef 10 = .ok (.iconst 0, 1) := by decide +kernel
theorem dJ1_indexOf_4cfef_11 : decode cJ1_indexOf_4cfef 11 = .ok (.invokestatic 92, 3) := by decide +kernel
theorem dJ1_indexOf_4cfef_14 : decode cJ1_indexOf_4cfef 14 = .ok (.istore_n 2, 1) := by decide +kernel
theorem dJ1_indexOf_4cfef_15 : decode cJ1_indexOf_4cfef 15 = .ok (.iload_n 3, 1) := by decide +kernel
theorem dJ1_indexOf_4cfef_16 : decode cJ1_indexOf_4cfef 16 = .ok (.aload_n 0, 1) := by decide +kernel
theorem dJ1_indexOf_4cfef_17 : decode cJ1_indexOf_4cfef 17 = .ok (.arraylength, 1) := by decide +kernel
theorem dJ1_indexOf_4cfef_18 : decode cJ1_indexOf_4cfef 18 = .ok (.invokestatic 38, 3) := by decide +kernel
theorem dJ1_indexOf_4cfef_21 : decode cJ1_indexOf_4cfef 21 = .ok (.istore_n 3, 1) := by decide +kernel
theorem dJ1_indexOf_4cfef_22 : decode cJ1_indexOf_4cfef 22 = .ok (.iload_n 2, 1) := by decide +kernel
theorem dJ1_indexOf_4cfef_23 : decode cJ1_indexOf_4cfef 23 = .ok (.iload_n 3, 1) := by decide +kernel
theorem dJ1_indexOf_4cfef_24 : decode cJ1_indexOf_4cfef 24 = .ok (.if_icmp .lt 5, 3) := by decide +kernel
theorem dJ1_indexOf_4cfef_27 : decode cJ1_indexOf_4cfef 27 = .ok (.iconst (-1), 1) := by decide +kernel
theorem dJ1_indexOf_4cfef_28 : decode cJ1_indexOf_4cfef 28 = .ok (.ireturn, 1) := by decide +kernel
theorem dJ1_indexOf_4cfef_29 : decode cJ1_indexOf_4cfef 29 = .ok (.aload_n 0, 1) := by decide +kernel
theorem dJ1_indexOf_4cfef_30 : decode cJ1_indexOf_4cfef 30 = .ok (.iload_n 1, 1) := by decide +kernel
theorem dJ1_indexOf_4cfef_31 : decode cJ1_indexOf_4cfef 31 = .ok (.iload_n 2, 1) := by decide +kernel
theorem dJ1_indexOf_4cfef_32 : decode cJ1_indexOf_4cfef 32 = .ok (.iload_n 3, 1) := by decide +kernel
theorem dJ1_indexOf_4cfef_33 : decode cJ1_indexOf_4cfef 33 = .ok (.invokestatic 95, 3) := by decide +kernel
theorem dJ1_indexOf_4cfef_36 : decode cJ1_indexOf_4cfef 36 = .ok (.ireturn, 1) := by decide +kernel
theorem dJ1_indexOfChar_4cfef_0 : decode cJ1_indexOfChar_4cfef 0 = .ok (.iload_n 1, 1) := by decide +kernel
theorem dJ1_indexOfChar_4cfef_1 : decode cJ1_indexOfChar_4cfef 1 = .ok (.i2b, 1) := by decide +kernel
theorem dJ1_indexOfChar_4cfef_2 : decode cJ1_indexOfChar_4cfef 2 = .ok (.istore 4, 2) := by decide +kernel
theorem dJ1_indexOfChar_4cfef_4 : decode cJ1_indexOfChar_4cfef 4 = .ok (.iload_n 2, 1) := by decide +kernel
theorem dJ1_indexOfChar_4cfef_5 : decode cJ1_indexOfChar_4cfef 5 = .ok (.istore 5, 2) := by decide +kernel
theorem dJ1_indexOfChar_4cfef_7 : decode cJ1_indexOfChar_4cfef 7 = .ok (.iload 5, 2) := by decide +kernel
theorem dJ1_indexOfChar_4cfef_9 : decode cJ1_indexOfChar_4cfef 9 = .ok (.iload_n 3, 1) := by decide +kernel
theorem dJ1_indexOfChar_4cfef_10 : decode cJ1_indexOfChar_4cfef 10 = .ok (.if_icmp .ge 21, 3) := by decide +kernel
theorem dJ1_indexOfChar_4cfef_13 : decode cJ1_indexOfChar_4cfef 13 = .ok (.aload_n 0, 1) := by decide +kernel
theorem dJ1_indexOfChar_4cfef_14 : decode cJ1_indexOfChar_4cfef 14 = .ok (.iload 5, 2) := by decide +kernel
theorem dJ1_indexOfChar_4cfef_16 : decode cJ1_indexOfChar_4cfef 16 = .ok (.baload, 1) := by decide +kernel
theorem dJ1_indexOfChar_4cfef_17 : decode cJ1_indexOfChar_4cfef 17 = .ok (.iload 4, 2) := by decide +kernel
theorem dJ1_indexOfChar_4cfef_19 : decode cJ1_indexOfChar_4cfef 19 = .ok (.if_icmp .ne 6, 3) := by decide +kernel
theorem dJ1_indexOfChar_4cfef_22 : decode cJ1_indexOfChar_4cfef 22 = .ok (.iload 5, 2) := by decide +kernel
theorem dJ1_indexOfChar_4cfef_24 : decode cJ1_indexOfChar_4cfef 24 = .ok (.ireturn, 1) := by decide +kernel
theorem dJ1_indexOfChar_4cfef_25 : decode cJ1_indexOfChar_4cfef 25 = .ok (.iinc 5 1, 3) := by decide +kernel
theorem dJ1_indexOfChar_4cfef_28 : decode cJ1_indexOfChar_4cfef 28 = .ok (.goto (-21), 3) := by decide +kernel
theorem dJ1_indexOfChar_4cfef_31 : decode cJ1_indexOfChar_4cfef 31 = .ok (.iconst (-1), 1) := by decide +kernel
theorem dJ1_indexOfChar_4cfef_32 : decode cJ1_indexOfChar_4cfef 32 = .ok (.ireturn, 1) := by decide +kernel
theorem dJ7_copyOf_9075b_0 : decode cJ7_copyOf_9075b 0 = .ok (.iload_n 1, 1) := by decide +kernel
theorem dJ7_copyOf_9075b_1 : decode cJ7_copyOf_9075b 1 = .ok (.aload_n 0, 1) := by decide +kernel
theorem dJ7_copyOf_9075b_2 : decode cJ7_copyOf_9075b 2 = .ok (.arraylength, 1) := by decide +kernel
theorem dJ7_copyOf_9075b_3 : decode cJ7_copyOf_9075b 3 = .ok (.if_icmp .ne 11, 3) := by decide +kernel
theorem dJ7_copyOf_9075b_6 : decode cJ7_copyOf_9075b 6 = .ok (.aload_n 0, 1) := by decide +kernel
theorem dJ7_copyOf_9075b_7 : decode cJ7_copyOf_9075b 7 = .ok (.invokevirtual 310, 3) := by decide +kernel
theorem dJ7_copyOf_9075b_10 : decode cJ7_copyOf_9075b 10 = .ok (.checkcast 311, 3) := by decide +kernel
theorem dJ7_copyOf_9075b_13 : decode cJ7_copyOf_9075b 13 = .ok (.areturn, 1) := by decide +kernel
theorem dJ7_copyOf_9075b_14 : decode cJ7_copyOf_9075b 14 = .ok (.iload_n 1, 1) := by decide +kernel
theorem dJ7_copyOf_9075b_15 : decode cJ7_copyOf_9075b 15 = .ok (.newarray .byte, 2) := by decide +kernel
theorem dJ7_copyOf_9075b_17 : decode cJ7_copyOf_9075b 17 = .ok (.astore_n 2, 1) := by decide +kernel
theorem dJ7_copyOf_9075b_18 : decode cJ7_copyOf_9075b 18 = .ok (.aload_n 0, 1) := by decide +kernel
theorem dJ7_copyOf_9075b_19 : decode cJ7_copyOf_9075b 19 = .ok (.iconst 0, 1) := by decide +kernel
theorem dJ7_copyOf_9075b_20 : decode cJ7_copyOf_9075b 20 = .ok (.aload_n 2, 1) := by decide +kernel
theorem dJ7_copyOf_9075b_21 : decode cJ7_copyOf_9075b 21 = .ok (.iconst 0, 1) := by decide +kernel
theorem dJ7_copyOf_9075b_22 : decode cJ7_copyOf_9075b 22 = .ok (.aload_n 0, 1) := by decide +kernel
theorem dJ7_copyOf_9075b_23 : decode cJ7_copyOf_9075b 23 = .ok (.arraylength, 1) := by decide +kernel
theorem dJ7_copyOf_9075b_24 : decode cJ7_copyOf_9075b 24 = .ok (.iload_n 1, 1) := by decide +kernel
theorem dJ7_copyOf_9075b_25 : decode cJ7_copyOf_9075b 25 = .ok (.invokestatic 304, 3) := by decide +kernel
theorem dJ7_copyOf_9075b_28 : decode cJ7_copyOf_9075b 28 = .ok (.invokestatic 150, 3) := by decide +kernel
theorem dJ7_copyOf_9075b_31 : decode cJ7_copyOf_9075b 31 = .ok (.aload_n 2, 1) := by decide +kernel
theorem dJ7_copyOf_9075b_32 : decode cJ7_copyOf_9075b 32 = .ok (.areturn, 1) := by decide +kernel
theorem dJ3_checkIndex_8e157_0 : decode cJ3_checkIndex_8e157 0 = .ok (.iload_n 0, 1) := by decide +kernel
