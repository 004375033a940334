theorem dX12_need_12 : decode cX12_need 12 = .ok (.if_icmp .eq 12, 3) := by decide +kernel
theorem dX12_need_15 : decode cX12_need 15 = .ok (.aload_n 0, 1) := by decide +kernel
theorem dX12_need_16 : decode cX12_need 16 = .ok (.iconst 1, 1) := by decide +kernel
theorem dX12_need_17 : decode cX12_need 17 = .ok (.aload_n 0, 1) := by decide +kernel
theorem dX12_need_18 : decode cX12_need 18 = .ok (.getfield 133, 3) := by decide +kernel
theorem dX12_need_21 : decode cX12_need 21 = .ok (.invokevirtual 148, 3) := by decide +kernel
theorem dX12_need_24 : decode cX12_need 24 = .ok (.aload_n 0, 1) := by decide +kernel
theorem dX12_need_25 : decode cX12_need 25 = .ok (.getfield 139, 3) := by decide +kernel
theorem dX12_need_28 : decode cX12_need 28 = .ok (.ifCond .ne 8, 3) := by decide +kernel
theorem dX12_need_31 : decode cX12_need 31 = .ok (.aload_n 0, 1) := by decide +kernel
theorem dX12_need_32 : decode cX12_need 32 = .ok (.iload_n 2, 1) := by decide +kernel
theorem dX12_need_33 : decode cX12_need 33 = .ok (.invokevirtual 164, 3) := by decide +kernel
theorem dX12_need_36 : decode cX12_need 36 = .ok (.return_, 1) := by decide +kernel
theorem dX12_readRest_0 : decode cX12_readRest 0 = .ok (.aload_n 0, 1) := by decide +kernel
theorem dX12_readRest_1 : decode cX12_readRest 1 = .ok (.invokevirtual 156, 3) := by decide +kernel
theorem dX12_readRest_4 : decode cX12_readRest 4 = .ok (.iconst (-1), 1) := by decide +kernel
theorem dX12_readRest_5 : decode cX12_readRest 5 = .ok (.if_icmp .eq 12, 3) := by decide +kernel
theorem dX12_readRest_8 : decode cX12_readRest 8 = .ok (.aload_n 0, 1) := by decide +kernel
theorem dX12_readRest_9 : decode cX12_readRest 9 = .ok (.invokevirtual 156, 3) := by decide +kernel
theorem dX12_readRest_12 : decode cX12_readRest 12 = .ok (.bipush 10, 2) := by decide +kernel
theorem dX12_readRest_14 : decode cX12_readRest 14 = .ok (.if_icmp .ne 12, 3) := by decide +kernel
theorem dX12_readRest_17 : decode cX12_readRest 17 = .ok (.aload_n 0, 1) := by decide +kernel
theorem dX12_readRest_18 : decode cX12_readRest 18 = .ok (.iconst 1, 1) := by decide +kernel
theorem dX12_readRest_19 : decode cX12_readRest 19 = .ok (.aload_n 0, 1) := by decide +kernel
theorem dX12_readRest_20 : decode cX12_readRest 20 = .ok (.getfield 133, 3) := by decide +kernel
theorem dX12_readRest_23 : decode cX12_readRest 23 = .ok (.invokevirtual 148, 3) := by decide +kernel
theorem dX12_readRest_26 : decode cX12_readRest 26 = .ok (.aload_n 0, 1) := by decide +kernel
theorem dX12_readRest_27 : decode cX12_readRest 27 = .ok (.getfield 139, 3) := by decide +kernel
theorem dX12_readRest_30 : decode cX12_readRest 30 = .ok (.ifCond .ne 98, 3) := by decide +kernel
theorem dX12_readRest_33 : decode cX12_readRest 33 = .ok (.aload_n 0, 1) := by decide +kernel
theorem dX12_readRest_34 : decode cX12_readRest 34 = .ok (.invokevirtual 156, 3) := by decide +kernel
theorem dX12_readRest_37 : decode cX12_readRest 37 = .ok (.iconst (-1), 1) := by decide +kernel
theorem dX12_readRest_38 : decode cX12_readRest 38 = .ok (.if_icmp .eq 90, 3) := by decide +kernel
theorem dX12_readRest_41 : decode cX12_readRest 41 = .ok (.aload_n 0, 1) := by decide +kernel
theorem dX12_readRest_42 : decode cX12_readRest 42 = .ok (.invokevirtual 156, 3) := by decide +kernel
theorem dX12_readRest_45 : decode cX12_readRest 45 = .ok (.bipush 10, 2) := by decide +kernel
theorem dX12_readRest_47 : decode cX12_readRest 47 = .ok (.if_icmp .eq 81, 3) := by decide +kernel
theorem dX12_readRest_50 : decode cX12_readRest 50 = .ok (.aload_n 0, 1) := by decide +kernel
theorem dX12_readRest_51 : decode cX12_readRest 51 = .ok (.invokevirtual 156, 3) := by decide +kernel
theorem dX12_readRest_54 : decode cX12_readRest 54 = .ok (.istore_n 3, 1) := by decide +kernel
theorem dX12_readRest_55 : decode cX12_readRest 55 = .ok (.iload_n 3, 1) := by decide +kernel
theorem dX12_readRest_56 : decode cX12_readRest 56 = .ok (.bipush 32, 2) := by decide +kernel
theorem dX12_readRest_58 : decode cX12_readRest 58 = .ok (.if_icmp .lt 21, 3) := by decide +kernel
theorem dX12_readRest_61 : decode cX12_readRest 61 = .ok (.iload_n 3, 1) := by decide +kernel
theorem dX12_readRest_62 : decode cX12_readRest 62 = .ok (.bipush 126, 2) := by decide +kernel
theorem dX12_readRest_64 : decode cX12_readRest 64 = .ok (.if_icmp .gt 15, 3) := by decide +kernel
theorem dX12_readRest_67 : decode cX12_readRest 67 = .ok (.iload_n 3, 1) := by decide +kernel
theorem dX12_readRest_68 : decode cX12_readRest 68 = .ok (.bipush 62, 2) := by decide +kernel
theorem dX12_readRest_70 : decode cX12_readRest 70 = .ok (.if_icmp .eq 9, 3) := by decide +kernel
theorem dX12_readRest_73 : decode cX12_readRest 73 = .ok (.iload_n 3, 1) := by decide +kernel
theorem dX12_readRest_74 : decode cX12_readRest 74 = .ok (.bipush 125, 2) := by decide +kernel
theorem dX12_readRest_76 : decode cX12_readRest 76 = .ok (.if_icmp .ne 15, 3) := by decide +kernel
theorem dX12_readRest_79 : decode cX12_readRest 79 = .ok (.aload_n 0, 1) := by decide +kernel
theorem dX12_readRest_80 : decode cX12_readRest 80 = .ok (.iconst 1, 1) := by decide +kernel
theorem dX12_readRest_81 : decode cX12_readRest 81 = .ok (.aload_n 0, 1) := by decide +kernel
theorem dX12_readRest_82 : decode cX12_readRest 82 = .ok (.getfield 133, 3) := by decide +kernel
theorem dX12_readRest_85 : decode cX12_readRest 85 = .ok (.invokevirtual 148, 3) := by decide +kernel
theorem dX12_readRest_88 : decode cX12_readRest 88 = .ok (.goto 37, 3) := by decide +kernel
theorem dX12_readRest_91 : decode cX12_readRest 91 = .ok (.iload_n 3, 1) := by decide +kernel
theorem dX12_readRest_92 : decode cX12_readRest 92 = .ok (.bipush 60, 2) := by decide +kernel
theorem dX12_readRest_94 : decode cX12_readRest 94 = .ok (.if_icmp .ne 11, 3) := by decide +kernel
theorem dX12_readRest_97 : decode cX12_readRest 97 = .ok (.aload_n 0, 1) := by decide +kernel
theorem dX12_readRest_98 : decode cX12_readRest 98 = .ok (.iload_n 1, 1) := by decide +kernel
theorem dX12_readRest_99 : decode cX12_readRest 99 = .ok (.invokevirtual 168, 3) := by decide +kernel
theorem dX12_readRest_102 : decode cX12_readRest 102 = .ok (.goto 23, 3) := by decide +kernel
theorem dX12_readRest_105 : decode cX12_readRest 105 = .ok (.iload_n 3, 1) := by decide +kernel
theorem dX12_readRest_106 : decode cX12_readRest 106 = .ok (.bipush 123, 2) := by decide +kernel
theorem dX12_readRest_108 : decode cX12_readRest 108 = .ok (.if_icmp .ne 12, 3) := by decide +kernel
theorem dX12_readRest_111 : decode cX12_readRest 111 = .ok (.aload_n 0, 1) := by decide +kernel
theorem dX12_readRest_112 : decode cX12_readRest 112 = .ok (.iload_n 1, 1) := by decide +kernel
theorem dX12_readRest_113 : decode cX12_readRest 113 = .ok (.iload_n 2, 1) := by decide +kernel
theorem dX12_readRest_114 : decode cX12_readRest 114 = .ok (.invokevirtual 171, 3) := by decide +kernel
theorem dX12_readRest_117 : decode cX12_readRest 117 = .ok (.goto 8, 3) := by decide +kernel
theorem dX12_readRest_120 : decode cX12_readRest 120 = .ok (.aload_n 0, 1) := by decide +kernel
theorem dX12_readRest_121 : decode cX12_readRest 121 = .ok (.iload_n 1, 1) := by decide +kernel
theorem dX12_readRest_122 : decode cX12_readRest 122 = .ok (.invokevirtual 164, 3) := by decide +kernel
theorem dX12_readRest_125 : decode cX12_readRest 125 = .ok (.goto (-99), 3) := by decide +kernel
theorem dX12_readRest_128 : decode cX12_readRest 128 = .ok (.return_, 1) := by decide +kernel
theorem dX12_readMention_0 : decode cX12_readMention 0 = .ok (.aload_n 0, 1) := by decide +kernel
theorem dX12_readMention_1 : decode cX12_readMention 1 = .ok (.getfield 133, 3) := by decide +kernel
theorem dX12_readMention_4 : decode cX12_readMention 4 = .ok (.aload_n 0, 1) := by decide +kernel
theorem dX12_readMention_5 : decode cX12_readMention 5 = .ok (.getfield 145, 3) := by decide +kernel
theorem dX12_readMention_8 : decode cX12_readMention 8 = .ok (.isub, 1) := by decide +kernel
theorem dX12_readMention_9 : decode cX12_readMention 9 = .ok (.iload_n 1, 1) := by decide +kernel
theorem dX12_readMention_10 : decode cX12_readMention 10 = .ok (.if_icmp .lt 15, 3) := by decide +kernel
theorem dX12_readMention_13 : decode cX12_readMention 13 = .ok (.aload_n 0, 1) := by decide +kernel
theorem dX12_readMention_14 : decode cX12_readMention 14 = .ok (.iconst 2, 1) := by decide +kernel
theorem dX12_readMention_15 : decode cX12_readMention 15 = .ok (.aload_n 0, 1) := by decide +kernel
theorem dX12_readMention_16 : decode cX12_readMention 16 = .ok (.getfield 133, 3) := by decide +kernel
theorem dX12_readMention_19 : decode cX12_readMention 19 = .ok (.invokevirtual 148, 3) := by decide +kernel
theorem dX12_readMention_22 : decode cX12_readMention 22 = .ok (.goto 21, 3) := by decide +kernel
theorem dX12_readMention_25 : decode cX12_readMention 25 = .ok (.aload_n 0, 1) := by decide +kernel
theorem dX12_readMention_26 : decode cX12_readMention 26 = .ok (.getfield 174, 3) := by decide +kernel
theorem dX12_readMention_29 : decode cX12_readMention 29 = .ok (.bipush 100, 2) := by decide +kernel
theorem dX12_readMention_31 : decode cX12_readMention 31 = .ok (.if_icmp .ne 12, 3) := by decide +kernel
theorem dX12_readMention_34 : decode cX12_readMention 34 = .ok (.aload_n 0, 1) := by decide +kernel
theorem dX12_readMention_35 : decode cX12_readMention 35 = .ok (.iconst 5, 1) := by decide +kernel
theorem dX12_readMention_36 : decode cX12_readMention 36 = .ok (.aload_n 0, 1) := by decide +kernel
theorem dX12_readMention_37 : decode cX12_readMention 37 = .ok (.getfield 133, 3) := by decide +kernel
theorem dX12_readMention_40 : decode cX12_readMention 40 = .ok (.invokevirtual 148, 3) := by decide +kernel
theorem dX12_readMention_43 : decode cX12_readMention 43 = .ok (.aload_n 0, 1) := by decide +kernel
theorem dX12_readMention_44 : decode cX12_readMention 44 = .ok (.getfield 139, 3) := by decide +kernel
theorem dX12_readMention_47 : decode cX12_readMention 47 = .ok (.ifCond .ne 13, 3) := by decide +kernel
theorem dX12_readMention_50 : decode cX12_readMention 50 = .ok (.aload_n 0, 1) := by decide +kernel
theorem dX12_readMention_51 : decode cX12_readMention 51 = .ok (.dup, 1) := by decide +kernel
theorem dX12_readMention_52 : decode cX12_readMention 52 = .ok (.getfield 133, 3) := by decide +kernel
theorem dX12_readMention_55 : decode cX12_readMention 55 = .ok (.iconst 1, 1) := by decide +kernel
theorem dX12_readMention_56 : decode cX12_readMention 56 = .ok (.iadd, 1) := by decide +kernel
theorem dX12_readMention_57 : decode cX12_readMention 57 = .ok (.putfield 133, 3) := by decide +kernel
theorem dX12_readMention_60 : decode cX12_readMention 60 = .ok (.aload_n 0, 1) := by decide +kernel
theorem dX12_readMention_61 : decode cX12_readMention 61 = .ok (.getfield 139, 3) := by decide +kernel
theorem dX12_readMention_64 : decode cX12_readMention 64 = .ok (.ifCond .eq 4, 3) := by decide +kernel
theorem dX12_readMention_67 : decode cX12_readMention 67 = .ok (.return_, 1) := by decide +kernel
theorem dX12_readMention_68 : decode cX12_readMention 68 = .ok (.aload_n 0, 1) := by decide +kernel
theorem dX12_readMention_69 : decode cX12_readMention 69 = .ok (.iload_n 1, 1) := by decide +kernel
theorem dX12_readMention_70 : decode cX12_readMention 70 = .ok (.invokevirtual 177, 3) := by decide +kernel
theorem dX12_readMention_73 : decode cX12_readMention 73 = .ok (.istore_n 2, 1) := by decide +kernel
theorem dX12_readMention_74 : decode cX12_readMention 74 = .ok (.aload_n 0, 1) := by decide +kernel
theorem dX12_readMention_75 : decode cX12_readMention 75 = .ok (.getfield 139, 3) := by decide +kernel
theorem dX12_readMention_78 : decode cX12_readMention 78 = .ok (.ifCond .eq 4, 3) := by decide +kernel
theorem dX12_readMention_81 : decode cX12_readMention 81 = .ok (.return_, 1) := by decide +kernel
theorem dX12_readMention_82 : decode cX12_readMention 82 = .ok (.aload_n 0, 1) := by decide +kernel
theorem dX12_readMention_83 : decode cX12_readMention 83 = .ok (.aload_n 0, 1) := by decide +kernel
theorem dX12_readMention_84 : decode cX12_readMention 84 = .ok (.getfield 152, 3) := by decide +kernel
theorem dX12_readMention_87 : decode cX12_readMention 87 = .ok (.aload_n 0, 1) := by decide +kernel
theorem dX12_readMention_88 : decode cX12_readMention 88 = .ok (.getfield 130, 3) := by decide +kernel
theorem dX12_readMention_91 : decode cX12_readMention 91 = .ok (.invokevirtual 181, 3) := by decide +kernel
theorem dX12_readMention_94 : decode cX12_readMention 94 = .ok (.istore_n 3, 1) := by decide +kernel
theorem dX12_readMention_95 : decode cX12_readMention 95 = .ok (.iload_n 3, 1) := by decide +kernel
theorem dX12_readMention_96 : decode cX12_readMention 96 = .ok (.iconst (-1), 1) := by decide +kernel
theorem dX12_readMention_97 : decode cX12_readMention 97 = .ok (.if_icmp .ne 9, 3) := by decide +kernel
theorem dX12_readMention_100 : decode cX12_readMention 100 = .ok (.aload_n 0, 1) := by decide +kernel
theorem dX12_readMention_101 : decode cX12_readMention 101 = .ok (.iconst 4, 1) := by decide +kernel
theorem dX12_readMention_102 : decode cX12_readMention 102 = .ok (.iload_n 2, 1) := by decide +kernel
theorem dX12_readMention_103 : decode cX12_readMention 103 = .ok (.invokevirtual 148, 3) := by decide +kernel
theorem dX12_readMention_106 : decode cX12_readMention 106 = .ok (.aload_n 0, 1) := by decide +kernel
theorem dX12_readMention_107 : decode cX12_readMention 107 = .ok (.bipush 62, 2) := by decide +kernel
theorem dX12_readMention_109 : decode cX12_readMention 109 = .ok (.iload_n 1, 1) := by decide +kernel
theorem dX12_readMention_110 : decode cX12_readMention 110 = .ok (.invokevirtual 185, 3) := by decide +kernel
theorem dX12_readMention_113 : decode cX12_readMention 113 = .ok (.aload_n 0, 1) := by decide +kernel
theorem dX12_readMention_114 : decode cX12_readMention 114 = .ok (.getfield 139, 3) := by decide +kernel
theorem dX12_readMention_117 : decode cX12_readMention 117 = .ok (.ifCond .eq 4, 3) := by decide +kernel
theorem dX12_readMention_120 : decode cX12_readMention 120 = .ok (.return_, 1) := by decide +kernel
theorem dX12_readMention_121 : decode cX12_readMention 121 = .ok (.aload_n 0, 1) := by decide +kernel
theorem dX12_readMention_122 : decode cX12_readMention 122 = .ok (.getfield 65, 3) := by decide +kernel
theorem dX12_readMention_125 : decode cX12_readMention 125 = .ok (.aload_n 0, 1) := by decide +kernel
theorem dX12_readMention_126 : decode cX12_readMention 126 = .ok (.getfield 174, 3) := by decide +kernel
theorem dX12_readMention_129 : decode cX12_readMention 129 = .ok (.aload_n 0, 1) := by decide +kernel
theorem dX12_readMention_130 : decode cX12_readMention 130 = .ok (.getfield 130, 3) := by decide +kernel
theorem dX12_readMention_133 : decode cX12_readMention 133 = .ok (.iastore, 1) := by decide +kernel
theorem dX12_readMention_134 : decode cX12_readMention 134 = .ok (.aload_n 0, 1) := by decide +kernel
theorem dX12_readMention_135 : decode cX12_readMention 135 = .ok (.getfield 68, 3) := by decide +kernel
theorem dX12_readMention_138 : decode cX12_readMention 138 = .ok (.aload_n 0, 1) := by decide +kernel
theorem dX12_readMention_139 : decode cX12_readMention 139 = .ok (.getfield 174, 3) := by decide +kernel
theorem dX12_readMention_142 : decode cX12_readMention 142 = .ok (.iload_n 3, 1) := by decide +kernel
theorem dX12_readMention_143 : decode cX12_readMention 143 = .ok (.iastore, 1) := by decide +kernel
theorem dX12_readMention_144 : decode cX12_readMention 144 = .ok (.aload_n 0, 1) := by decide +kernel
theorem dX12_readMention_145 : decode cX12_readMention 145 = .ok (.dup, 1) := by decide +kernel
theorem dX12_readMention_146 : decode cX12_readMention 146 = .ok (.getfield 174, 3) := by decide +kernel
theorem dX12_readMention_149 : decode cX12_readMention 149 = .ok (.iconst 1, 1) := by decide +kernel
theorem dX12_readMention_150 : decode cX12_readMention 150 = .ok (.iadd, 1) := by decide +kernel
theorem dX12_readMention_151 : decode cX12_readMention 151 = .ok (.putfield 174, 3) := by decide +kernel
theorem dX12_readMention_154 : decode cX12_readMention 154 = .ok (.return_, 1) := by decide +kernel
theorem dX12_readFact_0 : decode cX12_readFact 0 = .ok (.aload_n 0, 1) := by decide +kernel
theorem dX12_readFact_1 : decode cX12_readFact 1 = .ok (.getfield 133, 3) := by decide +kernel
theorem dX12_readFact_4 : decode cX12_readFact 4 = .ok (.istore_n 3, 1) := by decide +kernel
theorem dX12_readFact_5 : decode cX12_readFact 5 = .ok (.aload_n 0, 1) := by decide +kernel
theorem dX12_readFact_6 : decode cX12_readFact 6 = .ok (.getfield 133, 3) := by decide +kernel
theorem dX12_readFact_9 : decode cX12_readFact 9 = .ok (.aload_n 0, 1) := by decide +kernel
theorem dX12_readFact_10 : decode cX12_readFact 10 = .ok (.getfield 145, 3) := by decide +kernel
theorem dX12_readFact_13 : decode cX12_readFact 13 = .ok (.isub, 1) := by decide +kernel
theorem dX12_readFact_14 : decode cX12_readFact 14 = .ok (.iload_n 1, 1) := by decide +kernel
theorem dX12_readFact_15 : decode cX12_readFact 15 = .ok (.if_icmp .lt 15, 3) := by decide +kernel
theorem dX12_readFact_18 : decode cX12_readFact 18 = .ok (.aload_n 0, 1) := by decide +kernel
theorem dX12_readFact_19 : decode cX12_readFact 19 = .ok (.iconst 2, 1) := by decide +kernel
theorem dX12_readFact_20 : decode cX12_readFact 20 = .ok (.aload_n 0, 1) := by decide +kernel
theorem dX12_readFact_21 : decode cX12_readFact 21 = .ok (.getfield 133, 3) := by decide +kernel
theorem dX12_readFact_24 : decode cX12_readFact 24 = .ok (.invokevirtual 148, 3) := by decide +kernel
theorem dX12_readFact_27 : decode cX12_readFact 27 = .ok (.goto 22, 3) := by decide +kernel
theorem dX12_readFact_30 : decode cX12_readFact 30 = .ok (.aload_n 0, 1) := by decide +kernel
theorem dX12_readFact_31 : decode cX12_readFact 31 = .ok (.getfield 188, 3) := by decide +kernel
theorem dX12_readFact_34 : decode cX12_readFact 34 = .ok (.sipush 150, 3) := by decide +kernel
theorem dX12_readFact_37 : decode cX12_readFact 37 = .ok (.if_icmp .ne 12, 3) := by decide +kernel
theorem dX12_readFact_40 : decode cX12_readFact 40 = .ok (.aload_n 0, 1) := by decide +kernel
theorem dX12_readFact_41 : decode cX12_readFact 41 = .ok (.iconst 5, 1) := by decide +kernel
theorem dX12_readFact_42 : decode cX12_readFact 42 = .ok (.aload_n 0, 1) := by decide +kernel
theorem dX12_readFact_43 : decode cX12_readFact 43 = .ok (.getfield 133, 3) := by decide +kernel
theorem dX12_readFact_46 : decode cX12_readFact 46 = .ok (.invokevirtual 148, 3) := by decide +kernel
theorem dX12_readFact_49 : decode cX12_readFact 49 = .ok (.aload_n 0, 1) := by decide +kernel
theorem dX12_readFact_50 : decode cX12_readFact 50 = .ok (.getfield 139, 3) := by decide +kernel
theorem dX12_readFact_53 : decode cX12_readFact 53 = .ok (.ifCond .ne 13, 3) := by decide +kernel
theorem dX12_readFact_56 : decode cX12_readFact 56 = .ok (.aload_n 0, 1) := by decide +kernel
theorem dX12_readFact_57 : decode cX12_readFact 57 = .ok (.dup, 1) := by decide +kernel
theorem dX12_readFact_58 : decode cX12_readFact 58 = .ok (.getfield 133, 3) := by decide +kernel
theorem dX12_readFact_61 : decode cX12_readFact 61 = .ok (.iconst 1, 1) := by decide +kernel
theorem dX12_readFact_62 : decode cX12_readFact 62 = .ok (.iadd, 1) := by decide +kernel
theorem dX12_readFact_63 : decode cX12_readFact 63 = .ok (.putfield 133, 3) := by decide +kernel
theorem dX12_readFact_66 : decode cX12_readFact 66 = .ok (.aload_n 0, 1) := by decide +kernel
theorem dX12_readFact_67 : decode cX12_readFact 67 = .ok (.getfield 139, 3) := by decide +kernel
theorem dX12_readFact_70 : decode cX12_readFact 70 = .ok (.ifCond .eq 4, 3) := by decide +kernel
theorem dX12_readFact_73 : decode cX12_readFact 73 = .ok (.return_, 1) := by decide +kernel
theorem dX12_readFact_74 : decode cX12_readFact 74 = .ok (.aload_n 0, 1) := by decide +kernel
theorem dX12_readFact_75 : decode cX12_readFact 75 = .ok (.iload_n 1, 1) := by decide +kernel
theorem dX12_readFact_76 : decode cX12_readFact 76 = .ok (.invokevirtual 191, 3) := by decide +kernel
theorem dX12_readFact_79 : decode cX12_readFact 79 = .ok (.istore 4, 2) := by decide +kernel
theorem dX12_readFact_81 : decode cX12_readFact 81 = .ok (.aload_n 0, 1) := by decide +kernel
theorem dX12_readFact_82 : decode cX12_readFact 82 = .ok (.bipush 64, 2) := by decide +kernel
theorem dX12_readFact_84 : decode cX12_readFact 84 = .ok (.iload_n 1, 1) := by decide +kernel
theorem dX12_readFact_85 : decode cX12_readFact 85 = .ok (.invokevirtual 185, 3) := by decide +kernel
theorem dX12_readFact_88 : decode cX12_readFact 88 = .ok (.aload_n 0, 1) := by decide +kernel
theorem dX12_readFact_89 : decode cX12_readFact 89 = .ok (.getfield 139, 3) := by decide +kernel
theorem dX12_readFact_92 : decode cX12_readFact 92 = .ok (.ifCond .ne 11, 3) := by decide +kernel
theorem dX12_readFact_95 : decode cX12_readFact 95 = .ok (.aload_n 0, 1) := by decide +kernel
theorem dX12_readFact_96 : decode cX12_readFact 96 = .ok (.iload_n 1, 1) := by decide +kernel
theorem dX12_readFact_97 : decode cX12_readFact 97 = .ok (.invokevirtual 191, 3) := by decide +kernel
theorem dX12_readFact_100 : decode cX12_readFact 100 = .ok (.goto 4, 3) := by decide +kernel
theorem dX12_readFact_103 : decode cX12_readFact 103 = .ok (.iconst 0, 1) := by decide +kernel
theorem dX12_readFact_104 : decode cX12_readFact 104 = .ok (.istore 5, 2) := by decide +kernel
theorem dX12_readFact_106 : decode cX12_readFact 106 = .ok (.aload_n 0, 1) := by decide +kernel
theorem dX12_readFact_107 : decode cX12_readFact 107 = .ok (.bipush 61, 2) := by decide +kernel
theorem dX12_readFact_109 : decode cX12_readFact 109 = .ok (.iload_n 1, 1) := by decide +kernel
theorem dX12_readFact_110 : decode cX12_readFact 110 = .ok (.invokevirtual 185, 3) := by decide +kernel
theorem dX12_readFact_113 : decode cX12_readFact 113 = .ok (.aload_n 0, 1) := by decide +kernel
theorem dX12_readFact_114 : decode cX12_readFact 114 = .ok (.getfield 139, 3) := by decide +kernel
theorem dX12_readFact_117 : decode cX12_readFact 117 = .ok (.ifCond .ne 11, 3) := by decide +kernel
theorem dX12_readFact_120 : decode cX12_readFact 120 = .ok (.aload_n 0, 1) := by decide +kernel
theorem dX12_readFact_121 : decode cX12_readFact 121 = .ok (.iload_n 1, 1) := by decide +kernel
theorem dX12_readFact_122 : decode cX12_readFact 122 = .ok (.invokevirtual 191, 3) := by decide +kernel
theorem dX12_readFact_125 : decode cX12_readFact 125 = .ok (.goto 4, 3) := by decide +kernel
theorem dX12_readFact_128 : decode cX12_readFact 128 = .ok (.iconst 0, 1) := by decide +kernel
theorem dX12_readFact_129 : decode cX12_readFact 129 = .ok (.istore 6, 2) := by decide +kernel
theorem dX12_readFact_131 : decode cX12_readFact 131 = .ok (.aload_n 0, 1) := by decide +kernel
theorem dX12_readFact_132 : decode cX12_readFact 132 = .ok (.bipush 125, 2) := by decide +kernel
theorem dX12_readFact_134 : decode cX12_readFact 134 = .ok (.iload_n 1, 1) := by decide +kernel
theorem dX12_readFact_135 : decode cX12_readFact 135 = .ok (.invokevirtual 185, 3) := by decide +kernel
theorem dX12_readFact_138 : decode cX12_readFact 138 = .ok (.aload_n 0, 1) := by decide +kernel
theorem dX12_readFact_139 : decode cX12_readFact 139 = .ok (.getfield 139, 3) := by decide +kernel
theorem dX12_readFact_142 : decode cX12_readFact 142 = .ok (.ifCond .eq 4, 3) := by decide +kernel
theorem dX12_readFact_145 : decode cX12_readFact 145 = .ok (.return_, 1) := by decide +kernel
theorem dX12_readFact_146 : decode cX12_readFact 146 = .ok (.aload_n 0, 1) := by decide +kernel
theorem dX12_readFact_147 : decode cX12_readFact 147 = .ok (.getfield 50, 3) := by decide +kernel
theorem dX12_readFact_150 : decode cX12_readFact 150 = .ok (.aload_n 0, 1) := by decide +kernel
theorem dX12_readFact_151 : decode cX12_readFact 151 = .ok (.getfield 188, 3) := by decide +kernel
theorem dX12_readFact_154 : decode cX12_readFact 154 = .ok (.aload_n 0, 1) := by decide +kernel
theorem dX12_readFact_155 : decode cX12_readFact 155 = .ok (.getfield 194, 3) := by decide +kernel
theorem dX12_readFact_158 : decode cX12_readFact 158 = .ok (.iastore, 1) := by decide +kernel
theorem dX12_readFact_159 : decode cX12_readFact 159 = .ok (.aload_n 0, 1) := by decide +kernel
theorem dX12_readFact_160 : decode cX12_readFact 160 = .ok (.getfield 53, 3) := by decide +kernel
theorem dX12_readFact_163 : decode cX12_readFact 163 = .ok (.aload_n 0, 1) := by decide +kernel
theorem dX12_readFact_164 : decode cX12_readFact 164 = .ok (.getfield 188, 3) := by decide +kernel
theorem dX12_readFact_167 : decode cX12_readFact 167 = .ok (.iload 4, 2) := by decide +kernel
theorem dX12_readFact_169 : decode cX12_readFact 169 = .ok (.iastore, 1) := by decide +kernel
theorem dX12_readFact_170 : decode cX12_readFact 170 = .ok (.aload_n 0, 1) := by decide +kernel
theorem dX12_readFact_171 : decode cX12_readFact 171 = .ok (.getfield 56, 3) := by decide +kernel
theorem dX12_readFact_174 : decode cX12_readFact 174 = .ok (.aload_n 0, 1) := by decide +kernel
theorem dX12_readFact_175 : decode cX12_readFact 175 = .ok (.getfield 188, 3) := by decide +kernel
theorem dX12_readFact_178 : decode cX12_readFact 178 = .ok (.iload 5, 2) := by decide +kernel
theorem dX12_readFact_180 : decode cX12_readFact 180 = .ok (.iastore, 1) := by decide +kernel
theorem dX12_readFact_181 : decode cX12_readFact 181 = .ok (.aload_n 0, 1) := by decide +kernel
theorem dX12_readFact_182 : decode cX12_readFact 182 = .ok (.getfield 59, 3) := by decide +kernel
theorem dX12_readFact_185 : decode cX12_readFact 185 = .ok (.aload_n 0, 1) := by decide +kernel
theorem dX12_readFact_186 : decode cX12_readFact 186 = .ok (.getfield 188, 3) := by decide +kernel
theorem dX12_readFact_189 : decode cX12_readFact 189 = .ok (.iload 6, 2) := by decide +kernel
theorem dX12_readFact_191 : decode cX12_readFact 191 = .ok (.iastore, 1) := by decide +kernel
theorem dX12_readFact_192 : decode cX12_readFact 192 = .ok (.aload_n 0, 1) := by decide +kernel
theorem dX12_readFact_193 : decode cX12_readFact 193 = .ok (.getfield 62, 3) := by decide +kernel
theorem dX12_readFact_196 : decode cX12_readFact 196 = .ok (.aload_n 0, 1) := by decide +kernel
theorem dX12_readFact_197 : decode cX12_readFact 197 = .ok (.getfield 188, 3) := by decide +kernel
theorem dX12_readFact_200 : decode cX12_readFact 200 = .ok (.iload_n 3, 1) := by decide +kernel
theorem dX12_readFact_201 : decode cX12_readFact 201 = .ok (.iload_n 2, 1) := by decide +kernel
theorem dX12_readFact_202 : decode cX12_readFact 202 = .ok (.isub, 1) := by decide +kernel
theorem dX12_readFact_203 : decode cX12_readFact 203 = .ok (.iastore, 1) := by decide +kernel
theorem dX12_readFact_204 : decode cX12_readFact 204 = .ok (.aload_n 0, 1) := by decide +kernel
theorem dX12_readFact_205 : decode cX12_readFact 205 = .ok (.dup, 1) := by decide +kernel
theorem dX12_readFact_206 : decode cX12_readFact 206 = .ok (.getfield 188, 3) := by decide +kernel
theorem dX12_readFact_209 : decode cX12_readFact 209 = .ok (.iconst 1, 1) := by decide +kernel
theorem dX12_readFact_210 : decode cX12_readFact 210 = .ok (.iadd, 1) := by decide +kernel
theorem dX12_readFact_211 : decode cX12_readFact 211 = .ok (.putfield 188, 3) := by decide +kernel
theorem dX12_readFact_214 : decode cX12_readFact 214 = .ok (.return_, 1) := by decide +kernel
theorem dX12_readExhibit_0 : decode cX12_readExhibit 0 = .ok (.aload_n 0, 1) := by decide +kernel
theorem dX12_readExhibit_1 : decode cX12_readExhibit 1 = .ok (.bipush 60, 2) := by decide +kernel
theorem dX12_readExhibit_3 : decode cX12_readExhibit 3 = .ok (.invokevirtual 177, 3) := by decide +kernel
theorem dX12_readExhibit_6 : decode cX12_readExhibit 6 = .ok (.istore_n 1, 1) := by decide +kernel
theorem dX12_readExhibit_7 : decode cX12_readExhibit 7 = .ok (.aload_n 0, 1) := by decide +kernel
theorem dX12_readExhibit_8 : decode cX12_readExhibit 8 = .ok (.getfield 139, 3) := by decide +kernel
theorem dX12_readExhibit_11 : decode cX12_readExhibit 11 = .ok (.ifCond .eq 4, 3) := by decide +kernel
theorem dX12_readExhibit_14 : decode cX12_readExhibit 14 = .ok (.return_, 1) := by decide +kernel
theorem dX12_readExhibit_15 : decode cX12_readExhibit 15 = .ok (.aload_n 0, 1) := by decide +kernel
theorem dX12_readExhibit_16 : decode cX12_readExhibit 16 = .ok (.getfield 152, 3) := by decide +kernel
theorem dX12_readExhibit_19 : decode cX12_readExhibit 19 = .ok (.lstore_n 2, 1) := by decide +kernel
theorem dX12_readExhibit_20 : decode cX12_readExhibit 20 = .ok (.aload_n 0, 1) := by decide +kernel
theorem dX12_readExhibit_21 : decode cX12_readExhibit 21 = .ok (.lload_n 2, 1) := by decide +kernel
theorem dX12_readExhibit_22 : decode cX12_readExhibit 22 = .ok (.aload_n 0, 1) := by decide +kernel
theorem dX12_readExhibit_23 : decode cX12_readExhibit 23 = .ok (.getfield 130, 3) := by decide +kernel
theorem dX12_readExhibit_26 : decode cX12_readExhibit 26 = .ok (.invokevirtual 181, 3) := by decide +kernel
theorem dX12_readExhibit_29 : decode cX12_readExhibit 29 = .ok (.istore 4, 2) := by decide +kernel
theorem dX12_readExhibit_31 : decode cX12_readExhibit 31 = .ok (.aload_n 0, 1) := by decide +kernel
theorem dX12_readExhibit_32 : decode cX12_readExhibit 32 = .ok (.invokevirtual 156, 3) := by decide +kernel
theorem dX12_readExhibit_35 : decode cX12_readExhibit 35 = .ok (.bipush 32, 2) := by decide +kernel
theorem dX12_readExhibit_37 : decode cX12_readExhibit 37 = .ok (.if_icmp .eq 96, 3) := by decide +kernel
theorem dX12_readExhibit_40 : decode cX12_readExhibit 40 = .ok (.iload 4, 2) := by decide +kernel
theorem dX12_readExhibit_42 : decode cX12_readExhibit 42 = .ok (.iconst (-1), 1) := by decide +kernel
theorem dX12_readExhibit_43 : decode cX12_readExhibit 43 = .ok (.if_icmp .eq 12, 3) := by decide +kernel
theorem dX12_readExhibit_46 : decode cX12_readExhibit 46 = .ok (.aload_n 0, 1) := by decide +kernel
theorem dX12_readExhibit_47 : decode cX12_readExhibit 47 = .ok (.iconst 4, 1) := by decide +kernel
theorem dX12_readExhibit_48 : decode cX12_readExhibit 48 = .ok (.iload_n 1, 1) := by decide +kernel
theorem dX12_readExhibit_49 : decode cX12_readExhibit 49 = .ok (.invokevirtual 148, 3) := by decide +kernel
theorem dX12_readExhibit_52 : decode cX12_readExhibit 52 = .ok (.goto 18, 3) := by decide +kernel
theorem dX12_readExhibit_55 : decode cX12_readExhibit 55 = .ok (.aload_n 0, 1) := by decide +kernel
theorem dX12_readExhibit_56 : decode cX12_readExhibit 56 = .ok (.getfield 120, 3) := by decide +kernel
theorem dX12_readExhibit_59 : decode cX12_readExhibit 59 = .ok (.bipush 20, 2) := by decide +kernel
theorem dX12_readExhibit_61 : decode cX12_readExhibit 61 = .ok (.if_icmp .ne 9, 3) := by decide +kernel
theorem dX12_readExhibit_64 : decode cX12_readExhibit 64 = .ok (.aload_n 0, 1) := by decide +kernel
theorem dX12_readExhibit_65 : decode cX12_readExhibit 65 = .ok (.iconst 5, 1) := by decide +kernel
theorem dX12_readExhibit_66 : decode cX12_readExhibit 66 = .ok (.iload_n 1, 1) := by decide +kernel
theorem dX12_readExhibit_67 : decode cX12_readExhibit 67 = .ok (.invokevirtual 148, 3) := by decide +kernel
theorem dX12_readExhibit_70 : decode cX12_readExhibit 70 = .ok (.aload_n 0, 1) := by decide +kernel
theorem dX12_readExhibit_71 : decode cX12_readExhibit 71 = .ok (.getfield 139, 3) := by decide +kernel
theorem dX12_readExhibit_74 : decode cX12_readExhibit 74 = .ok (.ifCond .ne 29, 3) := by decide +kernel
theorem dX12_readExhibit_77 : decode cX12_readExhibit 77 = .ok (.aload_n 0, 1) := by decide +kernel
theorem dX12_readExhibit_78 : decode cX12_readExhibit 78 = .ok (.invokevirtual 156, 3) := by decide +kernel
theorem dX12_readExhibit_81 : decode cX12_readExhibit 81 = .ok (.iconst (-1), 1) := by decide +kernel
theorem dX12_readExhibit_82 : decode cX12_readExhibit 82 = .ok (.if_icmp .eq 21, 3) := by decide +kernel
theorem dX12_readExhibit_85 : decode cX12_readExhibit 85 = .ok (.aload_n 0, 1) := by decide +kernel
theorem dX12_readExhibit_86 : decode cX12_readExhibit 86 = .ok (.invokevirtual 156, 3) := by decide +kernel
theorem dX12_readExhibit_89 : decode cX12_readExhibit 89 = .ok (.bipush 10, 2) := by decide +kernel
theorem dX12_readExhibit_91 : decode cX12_readExhibit 91 = .ok (.if_icmp .eq 12, 3) := by decide +kernel
theorem dX12_readExhibit_94 : decode cX12_readExhibit 94 = .ok (.aload_n 0, 1) := by decide +kernel
theorem dX12_readExhibit_95 : decode cX12_readExhibit 95 = .ok (.iconst 1, 1) := by decide +kernel
theorem dX12_readExhibit_96 : decode cX12_readExhibit 96 = .ok (.aload_n 0, 1) := by decide +kernel
theorem dX12_readExhibit_97 : decode cX12_readExhibit 97 = .ok (.getfield 133, 3) := by decide +kernel
theorem dX12_readExhibit_100 : decode cX12_readExhibit 100 = .ok (.invokevirtual 148, 3) := by decide +kernel
theorem dX12_readExhibit_103 : decode cX12_readExhibit 103 = .ok (.aload_n 0, 1) := by decide +kernel
theorem dX12_readExhibit_104 : decode cX12_readExhibit 104 = .ok (.getfield 139, 3) := by decide +kernel
theorem dX12_readExhibit_107 : decode cX12_readExhibit 107 = .ok (.ifCond .eq 4, 3) := by decide +kernel
theorem dX12_readExhibit_110 : decode cX12_readExhibit 110 = .ok (.return_, 1) := by decide +kernel
theorem dX12_readExhibit_111 : decode cX12_readExhibit 111 = .ok (.aload_n 0, 1) := by decide +kernel
theorem dX12_readExhibit_112 : decode cX12_readExhibit 112 = .ok (.dup, 1) := by decide +kernel
theorem dX12_readExhibit_113 : decode cX12_readExhibit 113 = .ok (.getfield 120, 3) := by decide +kernel
theorem dX12_readExhibit_116 : decode cX12_readExhibit 116 = .ok (.iconst 1, 1) := by decide +kernel
theorem dX12_readExhibit_117 : decode cX12_readExhibit 117 = .ok (.iadd, 1) := by decide +kernel
theorem dX12_readExhibit_118 : decode cX12_readExhibit 118 = .ok (.putfield 120, 3) := by decide +kernel
theorem dX12_readExhibit_121 : decode cX12_readExhibit 121 = .ok (.aload_n 0, 1) := by decide +kernel
theorem dX12_readExhibit_122 : decode cX12_readExhibit 122 = .ok (.aload_n 0, 1) := by decide +kernel
theorem dX12_readExhibit_123 : decode cX12_readExhibit 123 = .ok (.getfield 120, 3) := by decide +kernel
theorem dX12_readExhibit_126 : decode cX12_readExhibit 126 = .ok (.iconst 1, 1) := by decide +kernel
theorem dX12_readExhibit_127 : decode cX12_readExhibit 127 = .ok (.isub, 1) := by decide +kernel
theorem dX12_readExhibit_128 : decode cX12_readExhibit 128 = .ok (.lload_n 2, 1) := by decide +kernel
theorem dX12_readExhibit_129 : decode cX12_readExhibit 129 = .ok (.invokevirtual 197, 3) := by decide +kernel
theorem dX12_readExhibit_132 : decode cX12_readExhibit 132 = .ok (.return_, 1) := by decide +kernel
theorem dX12_readExhibit_133 : decode cX12_readExhibit 133 = .ok (.iload 4, 2) := by decide +kernel
theorem dX12_readExhibit_135 : decode cX12_readExhibit 135 = .ok (.iconst (-1), 1) := by decide +kernel
theorem dX12_readExhibit_136 : decode cX12_readExhibit 136 = .ok (.if_icmp .ne 9, 3) := by decide +kernel
theorem dX12_readExhibit_139 : decode cX12_readExhibit 139 = .ok (.aload_n 0, 1) := by decide +kernel
theorem dX12_readExhibit_140 : decode cX12_readExhibit 140 = .ok (.iconst 4, 1) := by decide +kernel
theorem dX12_readExhibit_141 : decode cX12_readExhibit 141 = .ok (.iload_n 1, 1) := by decide +kernel
theorem dX12_readExhibit_142 : decode cX12_readExhibit 142 = .ok (.invokevirtual 148, 3) := by decide +kernel
theorem dX12_readExhibit_145 : decode cX12_readExhibit 145 = .ok (.aload_n 0, 1) := by decide +kernel
theorem dX12_readExhibit_146 : decode cX12_readExhibit 146 = .ok (.getfield 139, 3) := by decide +kernel
theorem dX12_readExhibit_149 : decode cX12_readExhibit 149 = .ok (.ifCond .ne 9, 3) := by decide +kernel
theorem dX12_readExhibit_152 : decode cX12_readExhibit 152 = .ok (.aload_n 0, 1) := by decide +kernel
theorem dX12_readExhibit_153 : decode cX12_readExhibit 153 = .ok (.bipush 60, 2) := by decide +kernel
theorem dX12_readExhibit_155 : decode cX12_readExhibit 155 = .ok (.invokevirtual 164, 3) := by decide +kernel
theorem dX12_readExhibit_158 : decode cX12_readExhibit 158 = .ok (.aload_n 0, 1) := by decide +kernel
theorem dX12_readExhibit_159 : decode cX12_readExhibit 159 = .ok (.getfield 139, 3) := by decide +kernel
theorem dX12_readExhibit_162 : decode cX12_readExhibit 162 = .ok (.ifCond .eq 4, 3) := by decide +kernel
theorem dX12_readExhibit_165 : decode cX12_readExhibit 165 = .ok (.return_, 1) := by decide +kernel
theorem dX12_readExhibit_166 : decode cX12_readExhibit 166 = .ok (.aload_n 0, 1) := by decide +kernel
theorem dX12_readExhibit_167 : decode cX12_readExhibit 167 = .ok (.bipush 60, 2) := by decide +kernel
theorem dX12_readExhibit_169 : decode cX12_readExhibit 169 = .ok (.invokevirtual 177, 3) := by decide +kernel
theorem dX12_readExhibit_172 : decode cX12_readExhibit 172 = .ok (.istore 5, 2) := by decide +kernel
theorem dX12_readExhibit_174 : decode cX12_readExhibit 174 = .ok (.aload_n 0, 1) := by decide +kernel
theorem dX12_readExhibit_175 : decode cX12_readExhibit 175 = .ok (.getfield 139, 3) := by decide +kernel
theorem dX12_readExhibit_178 : decode cX12_readExhibit 178 = .ok (.ifCond .eq 4, 3) := by decide +kernel
theorem dX12_readExhibit_181 : decode cX12_readExhibit 181 = .ok (.return_, 1) := by decide +kernel
theorem dX12_readExhibit_182 : decode cX12_readExhibit 182 = .ok (.aload_n 0, 1) := by decide +kernel
theorem dX12_readExhibit_183 : decode cX12_readExhibit 183 = .ok (.aload_n 0, 1) := by decide +kernel
theorem dX12_readExhibit_184 : decode cX12_readExhibit 184 = .ok (.getfield 152, 3) := by decide +kernel
theorem dX12_readExhibit_187 : decode cX12_readExhibit 187 = .ok (.aload_n 0, 1) := by decide +kernel
theorem dX12_readExhibit_188 : decode cX12_readExhibit 188 = .ok (.getfield 130, 3) := by decide +kernel
theorem dX12_readExhibit_191 : decode cX12_readExhibit 191 = .ok (.invokevirtual 181, 3) := by decide +kernel
theorem dX12_readExhibit_194 : decode cX12_readExhibit 194 = .ok (.iconst (-1), 1) := by decide +kernel
theorem dX12_readExhibit_195 : decode cX12_readExhibit 195 = .ok (.if_icmp .eq 10, 3) := by decide +kernel
theorem dX12_readExhibit_198 : decode cX12_readExhibit 198 = .ok (.aload_n 0, 1) := by decide +kernel
theorem dX12_readExhibit_199 : decode cX12_readExhibit 199 = .ok (.iconst 4, 1) := by decide +kernel
theorem dX12_readExhibit_200 : decode cX12_readExhibit 200 = .ok (.iload 5, 2) := by decide +kernel
theorem dX12_readExhibit_202 : decode cX12_readExhibit 202 = .ok (.invokevirtual 148, 3) := by decide +kernel
theorem dX12_readExhibit_205 : decode cX12_readExhibit 205 = .ok (.aload_n 0, 1) := by decide +kernel
theorem dX12_readExhibit_206 : decode cX12_readExhibit 206 = .ok (.getfield 139, 3) := by decide +kernel
theorem dX12_readExhibit_209 : decode cX12_readExhibit 209 = .ok (.ifCond .ne 29, 3) := by decide +kernel
theorem dX12_readExhibit_212 : decode cX12_readExhibit 212 = .ok (.aload_n 0, 1) := by decide +kernel
theorem dX12_readExhibit_213 : decode cX12_readExhibit 213 = .ok (.invokevirtual 156, 3) := by decide +kernel
theorem dX12_readExhibit_216 : decode cX12_readExhibit 216 = .ok (.iconst (-1), 1) := by decide +kernel
theorem dX12_readExhibit_217 : decode cX12_readExhibit 217 = .ok (.if_icmp .eq 21, 3) := by decide +kernel
theorem dX12_readExhibit_220 : decode cX12_readExhibit 220 = .ok (.aload_n 0, 1) := by decide +kernel
theorem dX12_readExhibit_221 : decode cX12_readExhibit 221 = .ok (.invokevirtual 156, 3) := by decide +kernel
theorem dX12_readExhibit_224 : decode cX12_readExhibit 224 = .ok (.bipush 10, 2) := by decide +kernel
theorem dX12_readExhibit_226 : decode cX12_readExhibit 226 = .ok (.if_icmp .eq 12, 3) := by decide +kernel
theorem dX12_readExhibit_229 : decode cX12_readExhibit 229 = .ok (.aload_n 0, 1) := by decide +kernel
theorem dX12_readExhibit_230 : decode cX12_readExhibit 230 = .ok (.iconst 1, 1) := by decide +kernel
theorem dX12_readExhibit_231 : decode cX12_readExhibit 231 = .ok (.aload_n 0, 1) := by decide +kernel
theorem dX12_readExhibit_232 : decode cX12_readExhibit 232 = .ok (.getfield 133, 3) := by decide +kernel
theorem dX12_readExhibit_235 : decode cX12_readExhibit 235 = .ok (.invokevirtual 148, 3) := by decide +kernel
theorem dX12_readExhibit_238 : decode cX12_readExhibit 238 = .ok (.aload_n 0, 1) := by decide +kernel
theorem dX12_readExhibit_239 : decode cX12_readExhibit 239 = .ok (.getfield 139, 3) := by decide +kernel
theorem dX12_readExhibit_242 : decode cX12_readExhibit 242 = .ok (.ifCond .ne 13, 3) := by decide +kernel
theorem dX12_readExhibit_245 : decode cX12_readExhibit 245 = .ok (.aload_n 0, 1) := by decide +kernel
theorem dX12_readExhibit_246 : decode cX12_readExhibit 246 = .ok (.iload 4, 2) := by decide +kernel
theorem dX12_readExhibit_248 : decode cX12_readExhibit 248 = .ok (.aload_n 0, 1) := by decide +kernel
theorem dX12_readExhibit_249 : decode cX12_readExhibit 249 = .ok (.getfield 152, 3) := by decide +kernel
theorem dX12_readExhibit_252 : decode cX12_readExhibit 252 = .ok (.invokevirtual 197, 3) := by decide +kernel
theorem dX12_readExhibit_255 : decode cX12_readExhibit 255 = .ok (.return_, 1) := by decide +kernel
theorem dX12_kindOf_0 : decode cX12_kindOf 0 = .ok (.iload_n 0, 1) := by decide +kernel
theorem dX12_kindOf_1 : decode cX12_kindOf 1 = .ok (.bipush 81, 2) := by decide +kernel
theorem dX12_kindOf_3 : decode cX12_kindOf 3 = .ok (.if_icmp .ne 7, 3) := by decide +kernel
theorem dX12_kindOf_6 : decode cX12_kindOf 6 = .ok (.iconst 0, 1) := by decide +kernel
theorem dX12_kindOf_7 : decode cX12_kindOf 7 = .ok (.goto 54, 3) := by decide +kernel
theorem dX12_kindOf_10 : decode cX12_kindOf 10 = .ok (.iload_n 0, 1) := by decide +kernel
theorem dX12_kindOf_11 : decode cX12_kindOf 11 = .ok (.bipush 65, 2) := by decide +kernel
theorem dX12_kindOf_13 : decode cX12_kindOf 13 = .ok (.if_icmp .ne 7, 3) := by decide +kernel
theorem dX12_kindOf_16 : decode cX12_kindOf 16 = .ok (.iconst 1, 1) := by decide +kernel
theorem dX12_kindOf_17 : decode cX12_kindOf 17 = .ok (.goto 44, 3) := by decide +kernel
theorem dX12_kindOf_20 : decode cX12_kindOf 20 = .ok (.iload_n 0, 1) := by decide +kernel
theorem dX12_kindOf_21 : decode cX12_kindOf 21 = .ok (.bipush 89, 2) := by decide +kernel
theorem dX12_kindOf_23 : decode cX12_kindOf 23 = .ok (.if_icmp .ne 7, 3) := by decide +kernel
theorem dX12_kindOf_26 : decode cX12_kindOf 26 = .ok (.iconst 2, 1) := by decide +kernel
theorem dX12_kindOf_27 : decode cX12_kindOf 27 = .ok (.goto 34, 3) := by decide +kernel
theorem dX12_kindOf_30 : decode cX12_kindOf 30 = .ok (.iload_n 0, 1) := by decide +kernel
theorem dX12_kindOf_31 : decode cX12_kindOf 31 = .ok (.bipush 78, 2) := by decide +kernel
theorem dX12_kindOf_33 : decode cX12_kindOf 33 = .ok (.if_icmp .ne 7, 3) := by decide +kernel
theorem dX12_kindOf_36 : decode cX12_kindOf 36 = .ok (.iconst 3, 1) := by decide +kernel
theorem dX12_kindOf_37 : decode cX12_kindOf 37 = .ok (.goto 24, 3) := by decide +kernel
theorem dX12_kindOf_40 : decode cX12_kindOf 40 = .ok (.iload_n 0, 1) := by decide +kernel
theorem dX12_kindOf_41 : decode cX12_kindOf 41 = .ok (.bipush 32, 2) := by decide +kernel
theorem dX12_kindOf_43 : decode cX12_kindOf 43 = .ok (.if_icmp .ne 7, 3) := by decide +kernel
theorem dX12_kindOf_46 : decode cX12_kindOf 46 = .ok (.iconst 4, 1) := by decide +kernel
theorem dX12_kindOf_47 : decode cX12_kindOf 47 = .ok (.goto 14, 3) := by decide +kernel
theorem dX12_kindOf_50 : decode cX12_kindOf 50 = .ok (.iload_n 0, 1) := by decide +kernel
theorem dX12_kindOf_51 : decode cX12_kindOf 51 = .ok (.bipush 33, 2) := by decide +kernel
theorem dX12_kindOf_53 : decode cX12_kindOf 53 = .ok (.if_icmp .ne 7, 3) := by decide +kernel
theorem dX12_kindOf_56 : decode cX12_kindOf 56 = .ok (.iconst 5, 1) := by decide +kernel
theorem dX12_kindOf_57 : decode cX12_kindOf 57 = .ok (.goto 4, 3) := by decide +kernel
theorem dX12_kindOf_60 : decode cX12_kindOf 60 = .ok (.iconst (-1), 1) := by decide +kernel
theorem dX12_kindOf_61 : decode cX12_kindOf 61 = .ok (.ireturn, 1) := by decide +kernel
theorem dX12_readLine_0 : decode cX12_readLine 0 = .ok (.aload_n 0, 1) := by decide +kernel
theorem dX12_readLine_1 : decode cX12_readLine 1 = .ok (.aload_n 0, 1) := by decide +kernel
theorem dX12_readLine_2 : decode cX12_readLine 2 = .ok (.getfield 133, 3) := by decide +kernel
theorem dX12_readLine_5 : decode cX12_readLine 5 = .ok (.putfield 145, 3) := by decide +kernel
theorem dX12_readLine_8 : decode cX12_readLine 8 = .ok (.aload_n 0, 1) := by decide +kernel
theorem dX12_readLine_9 : decode cX12_readLine 9 = .ok (.aload_n 0, 1) := by decide +kernel
theorem dX12_readLine_10 : decode cX12_readLine 10 = .ok (.getfield 114, 3) := by decide +kernel
theorem dX12_readLine_13 : decode cX12_readLine 13 = .ok (.putfield 130, 3) := by decide +kernel
theorem dX12_readLine_16 : decode cX12_readLine 16 = .ok (.aload_n 0, 1) := by decide +kernel
theorem dX12_readLine_17 : decode cX12_readLine 17 = .ok (.invokevirtual 156, 3) := by decide +kernel
theorem dX12_readLine_20 : decode cX12_readLine 20 = .ok (.invokestatic 201, 3) := by decide +kernel
theorem dX12_readLine_23 : decode cX12_readLine 23 = .ok (.istore_n 2, 1) := by decide +kernel
theorem dX12_readLine_24 : decode cX12_readLine 24 = .ok (.iload_n 2, 1) := by decide +kernel
theorem dX12_readLine_25 : decode cX12_readLine 25 = .ok (.iconst 4, 1) := by decide +kernel
theorem dX12_readLine_26 : decode cX12_readLine 26 = .ok (.if_icmp .ne 36, 3) := by decide +kernel
theorem dX12_readLine_29 : decode cX12_readLine 29 = .ok (.aload_n 0, 1) := by decide +kernel
theorem dX12_readLine_30 : decode cX12_readLine 30 = .ok (.getfield 133, 3) := by decide +kernel
theorem dX12_readLine_33 : decode cX12_readLine 33 = .ok (.iconst 1, 1) := by decide +kernel
theorem dX12_readLine_34 : decode cX12_readLine 34 = .ok (.iadd, 1) := by decide +kernel
theorem dX12_readLine_35 : decode cX12_readLine 35 = .ok (.aload_n 0, 1) := by decide +kernel
theorem dX12_readLine_36 : decode cX12_readLine 36 = .ok (.getfield 136, 3) := by decide +kernel
theorem dX12_readLine_39 : decode cX12_readLine 39 = .ok (.if_icmp .ge 23, 3) := by decide +kernel
theorem dX12_readLine_42 : decode cX12_readLine 42 = .ok (.aload_n 0, 1) := by decide +kernel
theorem dX12_readLine_43 : decode cX12_readLine 43 = .ok (.getfield 9, 3) := by decide +kernel
theorem dX12_readLine_46 : decode cX12_readLine 46 = .ok (.aload_n 0, 1) := by decide +kernel
theorem dX12_readLine_47 : decode cX12_readLine 47 = .ok (.getfield 133, 3) := by decide +kernel
theorem dX12_readLine_50 : decode cX12_readLine 50 = .ok (.iconst 1, 1) := by decide +kernel
theorem dX12_readLine_51 : decode cX12_readLine 51 = .ok (.iadd, 1) := by decide +kernel
theorem dX12_readLine_52 : decode cX12_readLine 52 = .ok (.iaload, 1) := by decide +kernel
theorem dX12_readLine_53 : decode cX12_readLine 53 = .ok (.bipush 32, 2) := by decide +kernel
theorem dX12_readLine_55 : decode cX12_readLine 55 = .ok (.if_icmp .ne 7, 3) := by decide +kernel
theorem dX12_readLine_58 : decode cX12_readLine 58 = .ok (.iconst 1, 1) := by decide +kernel
theorem dX12_readLine_59 : decode cX12_readLine 59 = .ok (.goto 4, 3) := by decide +kernel
theorem dX12_readLine_62 : decode cX12_readLine 62 = .ok (.iconst 0, 1) := by decide +kernel
theorem dX12_readLine_63 : decode cX12_readLine 63 = .ok (.istore_n 3, 1) := by decide +kernel
theorem dX12_readLine_64 : decode cX12_readLine 64 = .ok (.iload_n 2, 1) := by decide +kernel
theorem dX12_readLine_65 : decode cX12_readLine 65 = .ok (.iconst (-1), 1) := by decide +kernel
theorem dX12_readLine_66 : decode cX12_readLine 66 = .ok (.if_icmp .ne 15, 3) := by decide +kernel
theorem dX12_readLine_69 : decode cX12_readLine 69 = .ok (.aload_n 0, 1) := by decide +kernel
theorem dX12_readLine_70 : decode cX12_readLine 70 = .ok (.iconst 1, 1) := by decide +kernel
theorem dX12_readLine_71 : decode cX12_readLine 71 = .ok (.aload_n 0, 1) := by decide +kernel
theorem dX12_readLine_72 : decode cX12_readLine 72 = .ok (.getfield 133, 3) := by decide +kernel
theorem dX12_readLine_75 : decode cX12_readLine 75 = .ok (.invokevirtual 148, 3) := by decide +kernel
theorem dX12_readLine_78 : decode cX12_readLine 78 = .ok (.goto 61, 3) := by decide +kernel
theorem dX12_readLine_81 : decode cX12_readLine 81 = .ok (.iload_n 3, 1) := by decide +kernel
theorem dX12_readLine_82 : decode cX12_readLine 82 = .ok (.ifCond .eq 38, 3) := by decide +kernel
theorem dX12_readLine_85 : decode cX12_readLine 85 = .ok (.aload_n 0, 1) := by decide +kernel
theorem dX12_readLine_86 : decode cX12_readLine 86 = .ok (.getfield 114, 3) := by decide +kernel
theorem dX12_readLine_89 : decode cX12_readLine 89 = .ok (.iload_n 1, 1) := by decide +kernel
theorem dX12_readLine_90 : decode cX12_readLine 90 = .ok (.if_icmp .eq 18, 3) := by decide +kernel
theorem dX12_readLine_93 : decode cX12_readLine 93 = .ok (.aload_n 0, 1) := by decide +kernel
theorem dX12_readLine_94 : decode cX12_readLine 94 = .ok (.getfield 20, 3) := by decide +kernel
theorem dX12_readLine_97 : decode cX12_readLine 97 = .ok (.aload_n 0, 1) := by decide +kernel
theorem dX12_readLine_98 : decode cX12_readLine 98 = .ok (.getfield 114, 3) := by decide +kernel
theorem dX12_readLine_101 : decode cX12_readLine 101 = .ok (.iconst 1, 1) := by decide +kernel
theorem dX12_readLine_102 : decode cX12_readLine 102 = .ok (.isub, 1) := by decide +kernel
theorem dX12_readLine_103 : decode cX12_readLine 103 = .ok (.iaload, 1) := by decide +kernel
theorem dX12_readLine_104 : decode cX12_readLine 104 = .ok (.iconst 5, 1) := by decide +kernel
theorem dX12_readLine_105 : decode cX12_readLine 105 = .ok (.if_icmp .ne 15, 3) := by decide +kernel
theorem dX12_readLine_108 : decode cX12_readLine 108 = .ok (.aload_n 0, 1) := by decide +kernel
theorem dX12_readLine_109 : decode cX12_readLine 109 = .ok (.iconst 3, 1) := by decide +kernel
theorem dX12_readLine_110 : decode cX12_readLine 110 = .ok (.aload_n 0, 1) := by decide +kernel
theorem dX12_readLine_111 : decode cX12_readLine 111 = .ok (.getfield 133, 3) := by decide +kernel
theorem dX12_readLine_114 : decode cX12_readLine 114 = .ok (.invokevirtual 148, 3) := by decide +kernel
theorem dX12_readLine_117 : decode cX12_readLine 117 = .ok (.goto 22, 3) := by decide +kernel
theorem dX12_readLine_120 : decode cX12_readLine 120 = .ok (.aload_n 0, 1) := by decide +kernel
theorem dX12_readLine_121 : decode cX12_readLine 121 = .ok (.getfield 114, 3) := by decide +kernel
theorem dX12_readLine_124 : decode cX12_readLine 124 = .ok (.sipush 200, 3) := by decide +kernel
theorem dX12_readLine_127 : decode cX12_readLine 127 = .ok (.if_icmp .ne 12, 3) := by decide +kernel
theorem dX12_readLine_130 : decode cX12_readLine 130 = .ok (.aload_n 0, 1) := by decide +kernel
theorem dX12_readLine_131 : decode cX12_readLine 131 = .ok (.iconst 5, 1) := by decide +kernel
theorem dX12_readLine_132 : decode cX12_readLine 132 = .ok (.aload_n 0, 1) := by decide +kernel
theorem dX12_readLine_133 : decode cX12_readLine 133 = .ok (.getfield 133, 3) := by decide +kernel
theorem dX12_readLine_136 : decode cX12_readLine 136 = .ok (.invokevirtual 148, 3) := by decide +kernel
theorem dX12_readLine_139 : decode cX12_readLine 139 = .ok (.aload_n 0, 1) := by decide +kernel
theorem dX12_readLine_140 : decode cX12_readLine 140 = .ok (.getfield 139, 3) := by decide +kernel
theorem dX12_readLine_143 : decode cX12_readLine 143 = .ok (.ifCond .eq 4, 3) := by decide +kernel
theorem dX12_readLine_146 : decode cX12_readLine 146 = .ok (.return_, 1) := by decide +kernel
theorem dX12_readLine_147 : decode cX12_readLine 147 = .ok (.aload_n 0, 1) := by decide +kernel
theorem dX12_readLine_148 : decode cX12_readLine 148 = .ok (.dup, 1) := by decide +kernel
theorem dX12_readLine_149 : decode cX12_readLine 149 = .ok (.getfield 133, 3) := by decide +kernel
theorem dX12_readLine_152 : decode cX12_readLine 152 = .ok (.iconst 1, 1) := by decide +kernel
theorem dX12_readLine_153 : decode cX12_readLine 153 = .ok (.iadd, 1) := by decide +kernel
theorem dX12_readLine_154 : decode cX12_readLine 154 = .ok (.putfield 133, 3) := by decide +kernel
theorem dX12_readLine_157 : decode cX12_readLine 157 = .ok (.aload_n 0, 1) := by decide +kernel
theorem dX12_readLine_158 : decode cX12_readLine 158 = .ok (.invokevirtual 156, 3) := by decide +kernel
theorem dX12_readLine_161 : decode cX12_readLine 161 = .ok (.bipush 32, 2) := by decide +kernel
theorem dX12_readLine_163 : decode cX12_readLine 163 = .ok (.if_icmp .eq 12, 3) := by decide +kernel
theorem dX12_readLine_166 : decode cX12_readLine 166 = .ok (.aload_n 0, 1) := by decide +kernel
theorem dX12_readLine_167 : decode cX12_readLine 167 = .ok (.iconst 1, 1) := by decide +kernel
theorem dX12_readLine_168 : decode cX12_readLine 168 = .ok (.aload_n 0, 1) := by decide +kernel
theorem dX12_readLine_169 : decode cX12_readLine 169 = .ok (.getfield 133, 3) := by decide +kernel
theorem dX12_readLine_172 : decode cX12_readLine 172 = .ok (.invokevirtual 148, 3) := by decide +kernel
theorem dX12_readLine_175 : decode cX12_readLine 175 = .ok (.aload_n 0, 1) := by decide +kernel
theorem dX12_readLine_176 : decode cX12_readLine 176 = .ok (.getfield 139, 3) := by decide +kernel
theorem dX12_readLine_179 : decode cX12_readLine 179 = .ok (.ifCond .eq 4, 3) := by decide +kernel
theorem dX12_readLine_182 : decode cX12_readLine 182 = .ok (.return_, 1) := by decide +kernel
theorem dX12_readLine_183 : decode cX12_readLine 183 = .ok (.aload_n 0, 1) := by decide +kernel
theorem dX12_readLine_184 : decode cX12_readLine 184 = .ok (.dup, 1) := by decide +kernel
theorem dX12_readLine_185 : decode cX12_readLine 185 = .ok (.getfield 133, 3) := by decide +kernel
theorem dX12_readLine_188 : decode cX12_readLine 188 = .ok (.iconst 1, 1) := by decide +kernel
theorem dX12_readLine_189 : decode cX12_readLine 189 = .ok (.iadd, 1) := by decide +kernel
theorem dX12_readLine_190 : decode cX12_readLine 190 = .ok (.putfield 133, 3) := by decide +kernel
theorem dX12_readLine_193 : decode cX12_readLine 193 = .ok (.aload_n 0, 1) := by decide +kernel
theorem dX12_readLine_194 : decode cX12_readLine 194 = .ok (.aload_n 0, 1) := by decide +kernel
theorem dX12_readLine_195 : decode cX12_readLine 195 = .ok (.getfield 114, 3) := by decide +kernel
theorem dX12_readLine_198 : decode cX12_readLine 198 = .ok (.putfield 194, 3) := by decide +kernel
theorem dX12_readLine_201 : decode cX12_readLine 201 = .ok (.iload_n 2, 1) := by decide +kernel
theorem dX12_readLine_202 : decode cX12_readLine 202 = .ok (.iconst 5, 1) := by decide +kernel
theorem dX12_readLine_203 : decode cX12_readLine 203 = .ok (.if_icmp .ne 10, 3) := by decide +kernel
theorem dX12_readLine_206 : decode cX12_readLine 206 = .ok (.aload_n 0, 1) := by decide +kernel
theorem dX12_readLine_207 : decode cX12_readLine 207 = .ok (.invokevirtual 204, 3) := by decide +kernel
theorem dX12_readLine_210 : decode cX12_readLine 210 = .ok (.goto 13, 3) := by decide +kernel
theorem dX12_readLine_213 : decode cX12_readLine 213 = .ok (.aload_n 0, 1) := by decide +kernel
theorem dX12_readLine_214 : decode cX12_readLine 214 = .ok (.bipush 60, 2) := by decide +kernel
theorem dX12_readLine_216 : decode cX12_readLine 216 = .ok (.aload_n 0, 1) := by decide +kernel
theorem dX12_readLine_217 : decode cX12_readLine 217 = .ok (.getfield 145, 3) := by decide +kernel
theorem dX12_readLine_220 : decode cX12_readLine 220 = .ok (.invokevirtual 207, 3) := by decide +kernel
theorem dX12_readLine_223 : decode cX12_readLine 223 = .ok (.aload_n 0, 1) := by decide +kernel
theorem dX12_readLine_224 : decode cX12_readLine 224 = .ok (.getfield 139, 3) := by decide +kernel
theorem dX12_readLine_227 : decode cX12_readLine 227 = .ok (.ifCond .eq 4, 3) := by decide +kernel
theorem dX12_readLine_230 : decode cX12_readLine 230 = .ok (.return_, 1) := by decide +kernel
theorem dX12_readLine_231 : decode cX12_readLine 231 = .ok (.aload_n 0, 1) := by decide +kernel
theorem dX12_readLine_232 : decode cX12_readLine 232 = .ok (.getfield 20, 3) := by decide +kernel
theorem dX12_readLine_235 : decode cX12_readLine 235 = .ok (.aload_n 0, 1) := by decide +kernel
theorem dX12_readLine_236 : decode cX12_readLine 236 = .ok (.getfield 114, 3) := by decide +kernel
theorem dX12_readLine_239 : decode cX12_readLine 239 = .ok (.iload_n 2, 1) := by decide +kernel
theorem dX12_readLine_240 : decode cX12_readLine 240 = .ok (.iastore, 1) := by decide +kernel
theorem dX12_readLine_241 : decode cX12_readLine 241 = .ok (.aload_n 0, 1) := by decide +kernel
theorem dX12_readLine_242 : decode cX12_readLine 242 = .ok (.getfield 23, 3) := by decide +kernel
theorem dX12_readLine_245 : decode cX12_readLine 245 = .ok (.aload_n 0, 1) := by decide +kernel
theorem dX12_readLine_246 : decode cX12_readLine 246 = .ok (.getfield 114, 3) := by decide +kernel
theorem dX12_readLine_249 : decode cX12_readLine 249 = .ok (.aload_n 0, 1) := by decide +kernel
theorem dX12_readLine_250 : decode cX12_readLine 250 = .ok (.getfield 210, 3) := by decide +kernel
theorem dX12_readLine_253 : decode cX12_readLine 253 = .ok (.iastore, 1) := by decide +kernel
theorem dX12_readLine_254 : decode cX12_readLine 254 = .ok (.aload_n 0, 1) := by decide +kernel
theorem dX12_readLine_255 : decode cX12_readLine 255 = .ok (.getfield 26, 3) := by decide +kernel
theorem dX12_readLine_258 : decode cX12_readLine 258 = .ok (.aload_n 0, 1) := by decide +kernel
theorem dX12_readLine_259 : decode cX12_readLine 259 = .ok (.getfield 114, 3) := by decide +kernel
theorem dX12_readLine_262 : decode cX12_readLine 262 = .ok (.iload_n 2, 1) := by decide +kernel
theorem dX12_readLine_263 : decode cX12_readLine 263 = .ok (.iconst 5, 1) := by decide +kernel
theorem dX12_readLine_264 : decode cX12_readLine 264 = .ok (.if_icmp .ne 7, 3) := by decide +kernel
theorem dX12_readLine_267 : decode cX12_readLine 267 = .ok (.iconst (-1), 1) := by decide +kernel
theorem dX12_readLine_268 : decode cX12_readLine 268 = .ok (.goto 26, 3) := by decide +kernel
theorem dX12_readLine_271 : decode cX12_readLine 271 = .ok (.iload_n 2, 1) := by decide +kernel
theorem dX12_readLine_272 : decode cX12_readLine 272 = .ok (.iconst 4, 1) := by decide +kernel
theorem dX12_readLine_273 : decode cX12_readLine 273 = .ok (.if_icmp .ne 17, 3) := by decide +kernel
theorem dX12_readLine_276 : decode cX12_readLine 276 = .ok (.aload_n 0, 1) := by decide +kernel
theorem dX12_readLine_277 : decode cX12_readLine 277 = .ok (.getfield 26, 3) := by decide +kernel
theorem dX12_readLine_280 : decode cX12_readLine 280 = .ok (.aload_n 0, 1) := by decide +kernel
theorem dX12_readLine_281 : decode cX12_readLine 281 = .ok (.getfield 114, 3) := by decide +kernel
theorem dX12_readLine_284 : decode cX12_readLine 284 = .ok (.iconst 1, 1) := by decide +kernel
theorem dX12_readLine_285 : decode cX12_readLine 285 = .ok (.isub, 1) := by decide +kernel
theorem dX12_readLine_286 : decode cX12_readLine 286 = .ok (.iaload, 1) := by decide +kernel
theorem dX12_readLine_287 : decode cX12_readLine 287 = .ok (.goto 7, 3) := by decide +kernel
theorem dX12_readLine_290 : decode cX12_readLine 290 = .ok (.aload_n 0, 1) := by decide +kernel
theorem dX12_readLine_291 : decode cX12_readLine 291 = .ok (.getfield 114, 3) := by decide +kernel
theorem dX12_readLine_294 : decode cX12_readLine 294 = .ok (.iastore, 1) := by decide +kernel
theorem dX12_readLine_295 : decode cX12_readLine 295 = .ok (.aload_n 0, 1) := by decide +kernel
theorem dX12_readLine_296 : decode cX12_readLine 296 = .ok (.getfield 35, 3) := by decide +kernel
theorem dX12_readLine_299 : decode cX12_readLine 299 = .ok (.aload_n 0, 1) := by decide +kernel
theorem dX12_readLine_300 : decode cX12_readLine 300 = .ok (.getfield 114, 3) := by decide +kernel
theorem dX12_readLine_303 : decode cX12_readLine 303 = .ok (.iconst 0, 1) := by decide +kernel
theorem dX12_readLine_304 : decode cX12_readLine 304 = .ok (.iastore, 1) := by decide +kernel
theorem dX12_readLine_305 : decode cX12_readLine 305 = .ok (.aload_n 0, 1) := by decide +kernel
theorem dX12_readLine_306 : decode cX12_readLine 306 = .ok (.dup, 1) := by decide +kernel
theorem dX12_readLine_307 : decode cX12_readLine 307 = .ok (.getfield 114, 3) := by decide +kernel
theorem dX12_readLine_310 : decode cX12_readLine 310 = .ok (.iconst 1, 1) := by decide +kernel
theorem dX12_readLine_311 : decode cX12_readLine 311 = .ok (.iadd, 1) := by decide +kernel
theorem dX12_readLine_312 : decode cX12_readLine 312 = .ok (.putfield 114, 3) := by decide +kernel
theorem dX12_readLine_315 : decode cX12_readLine 315 = .ok (.aload_n 0, 1) := by decide +kernel
theorem dX12_readLine_316 : decode cX12_readLine 316 = .ok (.invokevirtual 156, 3) := by decide +kernel
theorem dX12_readLine_319 : decode cX12_readLine 319 = .ok (.bipush 10, 2) := by decide +kernel
theorem dX12_readLine_321 : decode cX12_readLine 321 = .ok (.if_icmp .ne 13, 3) := by decide +kernel
theorem dX12_readLine_324 : decode cX12_readLine 324 = .ok (.aload_n 0, 1) := by decide +kernel
theorem dX12_readLine_325 : decode cX12_readLine 325 = .ok (.dup, 1) := by decide +kernel
theorem dX12_readLine_326 : decode cX12_readLine 326 = .ok (.getfield 133, 3) := by decide +kernel
theorem dX12_readLine_329 : decode cX12_readLine 329 = .ok (.iconst 1, 1) := by decide +kernel
theorem dX12_readLine_330 : decode cX12_readLine 330 = .ok (.iadd, 1) := by decide +kernel
theorem dX12_readLine_331 : decode cX12_readLine 331 = .ok (.putfield 133, 3) := by decide +kernel
theorem dX12_readLine_334 : decode cX12_readLine 334 = .ok (.return_, 1) := by decide +kernel
theorem dX12_sitting_0 : decode cX12_sitting 0 = .ok (.aload_n 0, 1) := by decide +kernel
theorem dX12_sitting_1 : decode cX12_sitting 1 = .ok (.iconst 0, 1) := by decide +kernel
theorem dX12_sitting_2 : decode cX12_sitting 2 = .ok (.putfield 111, 3) := by decide +kernel
theorem dX12_sitting_5 : decode cX12_sitting 5 = .ok (.iload_n 1, 1) := by decide +kernel
theorem dX12_sitting_6 : decode cX12_sitting 6 = .ok (.iconst 1, 1) := by decide +kernel
theorem dX12_sitting_7 : decode cX12_sitting 7 = .ok (.if_icmp .lt 11, 3) := by decide +kernel
theorem dX12_sitting_10 : decode cX12_sitting 10 = .ok (.iload_n 1, 1) := by decide +kernel
theorem dX12_sitting_11 : decode cX12_sitting 11 = .ok (.aload_n 0, 1) := by decide +kernel
theorem dX12_sitting_12 : decode cX12_sitting 12 = .ok (.getfield 117, 3) := by decide +kernel
theorem dX12_sitting_15 : decode cX12_sitting 15 = .ok (.if_icmp .le 9, 3) := by decide +kernel
theorem dX12_sitting_18 : decode cX12_sitting 18 = .ok (.aload_n 0, 1) := by decide +kernel
theorem dX12_sitting_19 : decode cX12_sitting 19 = .ok (.iconst 1, 1) := by decide +kernel
theorem dX12_sitting_20 : decode cX12_sitting 20 = .ok (.invokevirtual 213, 3) := by decide +kernel
theorem dX12_sitting_23 : decode cX12_sitting 23 = .ok (.ireturn, 1) := by decide +kernel
theorem dX12_sitting_24 : decode cX12_sitting 24 = .ok (.aload_n 0, 1) := by decide +kernel
theorem dX12_sitting_25 : decode cX12_sitting 25 = .ok (.iconst 0, 1) := by decide +kernel
theorem dX12_sitting_26 : decode cX12_sitting 26 = .ok (.putfield 117, 3) := by decide +kernel
theorem dX12_sitting_29 : decode cX12_sitting 29 = .ok (.aload_n 0, 1) := by decide +kernel
theorem dX12_sitting_30 : decode cX12_sitting 30 = .ok (.iconst (-1), 1) := by decide +kernel
theorem dX12_sitting_31 : decode cX12_sitting 31 = .ok (.putfield 16, 3) := by decide +kernel
theorem dX12_sitting_34 : decode cX12_sitting 34 = .ok (.aload_n 0, 1) := by decide +kernel
theorem dX12_sitting_35 : decode cX12_sitting 35 = .ok (.getfield 210, 3) := by decide +kernel
theorem dX12_sitting_38 : decode cX12_sitting 38 = .ok (.bipush 8, 2) := by decide +kernel
theorem dX12_sitting_40 : decode cX12_sitting 40 = .ok (.if_icmp .ne 6, 3) := by decide +kernel
theorem dX12_sitting_43 : decode cX12_sitting 43 = .ok (.bipush (-9), 2) := by decide +kernel
theorem dX12_sitting_45 : decode cX12_sitting 45 = .ok (.ireturn, 1) := by decide +kernel
theorem dX12_sitting_46 : decode cX12_sitting 46 = .ok (.aload_n 0, 1) := by decide +kernel
theorem dX12_sitting_47 : decode cX12_sitting 47 = .ok (.iload_n 1, 1) := by decide +kernel
theorem dX12_sitting_48 : decode cX12_sitting 48 = .ok (.putfield 136, 3) := by decide +kernel
theorem dX12_sitting_51 : decode cX12_sitting 51 = .ok (.aload_n 0, 1) := by decide +kernel
theorem dX12_sitting_52 : decode cX12_sitting 52 = .ok (.iconst 0, 1) := by decide +kernel
theorem dX12_sitting_53 : decode cX12_sitting 53 = .ok (.putfield 133, 3) := by decide +kernel
theorem dX12_sitting_56 : decode cX12_sitting 56 = .ok (.aload_n 0, 1) := by decide +kernel
theorem dX12_sitting_57 : decode cX12_sitting 57 = .ok (.iconst 0, 1) := by decide +kernel
theorem dX12_sitting_58 : decode cX12_sitting 58 = .ok (.putfield 139, 3) := by decide +kernel
theorem dX12_sitting_61 : decode cX12_sitting 61 = .ok (.aload_n 0, 1) := by decide +kernel
theorem dX12_sitting_62 : decode cX12_sitting 62 = .ok (.getfield 114, 3) := by decide +kernel
theorem dX12_sitting_65 : decode cX12_sitting 65 = .ok (.istore_n 2, 1) := by decide +kernel
theorem dX12_sitting_66 : decode cX12_sitting 66 = .ok (.aload_n 0, 1) := by decide +kernel
theorem dX12_sitting_67 : decode cX12_sitting 67 = .ok (.getfield 188, 3) := by decide +kernel
theorem dX12_sitting_70 : decode cX12_sitting 70 = .ok (.istore_n 3, 1) := by decide +kernel
theorem dX12_sitting_71 : decode cX12_sitting 71 = .ok (.aload_n 0, 1) := by decide +kernel
theorem dX12_sitting_72 : decode cX12_sitting 72 = .ok (.getfield 174, 3) := by decide +kernel
theorem dX12_sitting_75 : decode cX12_sitting 75 = .ok (.istore 4, 2) := by decide +kernel
theorem dX12_sitting_77 : decode cX12_sitting 77 = .ok (.aload_n 0, 1) := by decide +kernel
theorem dX12_sitting_78 : decode cX12_sitting 78 = .ok (.getfield 120, 3) := by decide +kernel
theorem dX12_sitting_81 : decode cX12_sitting 81 = .ok (.istore 5, 2) := by decide +kernel
theorem dX12_sitting_83 : decode cX12_sitting 83 = .ok (.aload_n 0, 1) := by decide +kernel
theorem dX12_sitting_84 : decode cX12_sitting 84 = .ok (.getfield 127, 3) := by decide +kernel
theorem dX12_sitting_87 : decode cX12_sitting 87 = .ok (.istore 6, 2) := by decide +kernel
theorem dX12_sitting_89 : decode cX12_sitting 89 = .ok (.aload_n 0, 1) := by decide +kernel
theorem dX12_sitting_90 : decode cX12_sitting 90 = .ok (.getfield 139, 3) := by decide +kernel
theorem dX12_sitting_93 : decode cX12_sitting 93 = .ok (.ifCond .ne 41, 3) := by decide +kernel
theorem dX12_sitting_96 : decode cX12_sitting 96 = .ok (.aload_n 0, 1) := by decide +kernel
theorem dX12_sitting_97 : decode cX12_sitting 97 = .ok (.getfield 133, 3) := by decide +kernel
theorem dX12_sitting_100 : decode cX12_sitting 100 = .ok (.aload_n 0, 1) := by decide +kernel
theorem dX12_sitting_101 : decode cX12_sitting 101 = .ok (.getfield 136, 3) := by decide +kernel
theorem dX12_sitting_104 : decode cX12_sitting 104 = .ok (.if_icmp .ge 30, 3) := by decide +kernel
theorem dX12_sitting_107 : decode cX12_sitting 107 = .ok (.aload_n 0, 1) := by decide +kernel
theorem dX12_sitting_108 : decode cX12_sitting 108 = .ok (.getfield 133, 3) := by decide +kernel
theorem dX12_sitting_111 : decode cX12_sitting 111 = .ok (.istore 7, 2) := by decide +kernel
theorem dX12_sitting_113 : decode cX12_sitting 113 = .ok (.aload_n 0, 1) := by decide +kernel
theorem dX12_sitting_114 : decode cX12_sitting 114 = .ok (.iload_n 2, 1) := by decide +kernel
theorem dX12_sitting_115 : decode cX12_sitting 115 = .ok (.invokevirtual 216, 3) := by decide +kernel
theorem dX12_sitting_118 : decode cX12_sitting 118 = .ok (.aload_n 0, 1) := by decide +kernel
theorem dX12_sitting_119 : decode cX12_sitting 119 = .ok (.getfield 139, 3) := by decide +kernel
theorem dX12_sitting_122 : decode cX12_sitting 122 = .ok (.ifCond .ne 9, 3) := by decide +kernel
theorem dX12_sitting_125 : decode cX12_sitting 125 = .ok (.aload_n 0, 1) := by decide +kernel
theorem dX12_sitting_126 : decode cX12_sitting 126 = .ok (.iload 7, 2) := by decide +kernel
theorem dX12_sitting_128 : decode cX12_sitting 128 = .ok (.invokevirtual 219, 3) := by decide +kernel
theorem dX12_sitting_131 : decode cX12_sitting 131 = .ok (.goto (-42), 3) := by decide +kernel
theorem dX12_sitting_134 : decode cX12_sitting 134 = .ok (.aload_n 0, 1) := by decide +kernel
theorem dX12_sitting_135 : decode cX12_sitting 135 = .ok (.getfield 139, 3) := by decide +kernel
theorem dX12_sitting_138 : decode cX12_sitting 138 = .ok (.ifCond .eq 46, 3) := by decide +kernel
theorem dX12_sitting_141 : decode cX12_sitting 141 = .ok (.aload_n 0, 1) := by decide +kernel
theorem dX12_sitting_142 : decode cX12_sitting 142 = .ok (.iload_n 2, 1) := by decide +kernel
theorem dX12_sitting_143 : decode cX12_sitting 143 = .ok (.putfield 114, 3) := by decide +kernel
theorem dX12_sitting_146 : decode cX12_sitting 146 = .ok (.aload_n 0, 1) := by decide +kernel
theorem dX12_sitting_147 : decode cX12_sitting 147 = .ok (.iload_n 3, 1) := by decide +kernel
theorem dX12_sitting_148 : decode cX12_sitting 148 = .ok (.putfield 188, 3) := by decide +kernel
theorem dX12_sitting_151 : decode cX12_sitting 151 = .ok (.aload_n 0, 1) := by decide +kernel
theorem dX12_sitting_152 : decode cX12_sitting 152 = .ok (.iload 4, 2) := by decide +kernel
theorem dX12_sitting_154 : decode cX12_sitting 154 = .ok (.putfield 174, 3) := by decide +kernel
theorem dX12_sitting_157 : decode cX12_sitting 157 = .ok (.aload_n 0, 1) := by decide +kernel
theorem dX12_sitting_158 : decode cX12_sitting 158 = .ok (.iload 5, 2) := by decide +kernel
theorem dX12_sitting_160 : decode cX12_sitting 160 = .ok (.putfield 120, 3) := by decide +kernel
theorem dX12_sitting_163 : decode cX12_sitting 163 = .ok (.aload_n 0, 1) := by decide +kernel
theorem dX12_sitting_164 : decode cX12_sitting 164 = .ok (.iload 6, 2) := by decide +kernel
theorem dX12_sitting_166 : decode cX12_sitting 166 = .ok (.putfield 127, 3) := by decide +kernel
theorem dX12_sitting_169 : decode cX12_sitting 169 = .ok (.aload_n 0, 1) := by decide +kernel
theorem dX12_sitting_170 : decode cX12_sitting 170 = .ok (.aload_n 0, 1) := by decide +kernel
theorem dX12_sitting_171 : decode cX12_sitting 171 = .ok (.getfield 142, 3) := by decide +kernel
theorem dX12_sitting_174 : decode cX12_sitting 174 = .ok (.putfield 16, 3) := by decide +kernel
theorem dX12_sitting_177 : decode cX12_sitting 177 = .ok (.iconst (-1), 1) := by decide +kernel
theorem dX12_sitting_178 : decode cX12_sitting 178 = .ok (.aload_n 0, 1) := by decide +kernel
theorem dX12_sitting_179 : decode cX12_sitting 179 = .ok (.getfield 139, 3) := by decide +kernel
theorem dX12_sitting_182 : decode cX12_sitting 182 = .ok (.isub, 1) := by decide +kernel
theorem dX12_sitting_183 : decode cX12_sitting 183 = .ok (.ireturn, 1) := by decide +kernel
theorem dX12_sitting_184 : decode cX12_sitting 184 = .ok (.iload_n 2, 1) := by decide +kernel
theorem dX12_sitting_185 : decode cX12_sitting 185 = .ok (.ifCond .ne 7, 3) := by decide +kernel
theorem dX12_sitting_188 : decode cX12_sitting 188 = .ok (.iconst 1, 1) := by decide +kernel
theorem dX12_sitting_189 : decode cX12_sitting 189 = .ok (.goto 13, 3) := by decide +kernel
theorem dX12_sitting_192 : decode cX12_sitting 192 = .ok (.aload_n 0, 1) := by decide +kernel
theorem dX12_sitting_193 : decode cX12_sitting 193 = .ok (.getfield 29, 3) := by decide +kernel
theorem dX12_sitting_196 : decode cX12_sitting 196 = .ok (.iload_n 2, 1) := by decide +kernel
theorem dX12_sitting_197 : decode cX12_sitting 197 = .ok (.iconst 1, 1) := by decide +kernel
theorem dX12_sitting_198 : decode cX12_sitting 198 = .ok (.isub, 1) := by decide +kernel
theorem dX12_sitting_199 : decode cX12_sitting 199 = .ok (.iaload, 1) := by decide +kernel
theorem dX12_sitting_200 : decode cX12_sitting 200 = .ok (.iconst 1, 1) := by decide +kernel
theorem dX12_sitting_201 : decode cX12_sitting 201 = .ok (.iadd, 1) := by decide +kernel
theorem dX12_sitting_202 : decode cX12_sitting 202 = .ok (.istore 7, 2) := by decide +kernel
theorem dX12_sitting_204 : decode cX12_sitting 204 = .ok (.iload_n 2, 1) := by decide +kernel
theorem dX12_sitting_205 : decode cX12_sitting 205 = .ok (.istore 8, 2) := by decide +kernel
theorem dX12_sitting_207 : decode cX12_sitting 207 = .ok (.iload 8, 2) := by decide +kernel
theorem dX12_sitting_209 : decode cX12_sitting 209 = .ok (.aload_n 0, 1) := by decide +kernel
theorem dX12_sitting_210 : decode cX12_sitting 210 = .ok (.getfield 114, 3) := by decide +kernel
theorem dX12_sitting_213 : decode cX12_sitting 213 = .ok (.if_icmp .ge 42, 3) := by decide +kernel
theorem dX12_sitting_216 : decode cX12_sitting 216 = .ok (.aload_n 0, 1) := by decide +kernel
theorem dX12_sitting_217 : decode cX12_sitting 217 = .ok (.getfield 29, 3) := by decide +kernel
theorem dX12_sitting_220 : decode cX12_sitting 220 = .ok (.iload 8, 2) := by decide +kernel
theorem dX12_sitting_222 : decode cX12_sitting 222 = .ok (.iload 7, 2) := by decide +kernel
theorem dX12_sitting_224 : decode cX12_sitting 224 = .ok (.iload 8, 2) := by decide +kernel
theorem dX12_sitting_226 : decode cX12_sitting 226 = .ok (.iload_n 2, 1) := by decide +kernel
theorem dX12_sitting_227 : decode cX12_sitting 227 = .ok (.isub, 1) := by decide +kernel
theorem dX12_sitting_228 : decode cX12_sitting 228 = .ok (.bipush 10, 2) := by decide +kernel
theorem dX12_sitting_230 : decode cX12_sitting 230 = .ok (.idiv, 1) := by decide +kernel
theorem dX12_sitting_231 : decode cX12_sitting 231 = .ok (.iadd, 1) := by decide +kernel
theorem dX12_sitting_232 : decode cX12_sitting 232 = .ok (.iastore, 1) := by decide +kernel
theorem dX12_sitting_233 : decode cX12_sitting 233 = .ok (.aload_n 0, 1) := by decide +kernel
theorem dX12_sitting_234 : decode cX12_sitting 234 = .ok (.getfield 32, 3) := by decide +kernel
theorem dX12_sitting_237 : decode cX12_sitting 237 = .ok (.iload 8, 2) := by decide +kernel
theorem dX12_sitting_239 : decode cX12_sitting 239 = .ok (.iconst 1, 1) := by decide +kernel
theorem dX12_sitting_240 : decode cX12_sitting 240 = .ok (.iload 8, 2) := by decide +kernel
theorem dX12_sitting_242 : decode cX12_sitting 242 = .ok (.iload_n 2, 1) := by decide +kernel
theorem dX12_sitting_243 : decode cX12_sitting 243 = .ok (.isub, 1) := by decide +kernel
theorem dX12_sitting_244 : decode cX12_sitting 244 = .ok (.bipush 10, 2) := by decide +kernel
theorem dX12_sitting_246 : decode cX12_sitting 246 = .ok (.irem, 1) := by decide +kernel
theorem dX12_sitting_247 : decode cX12_sitting 247 = .ok (.iadd, 1) := by decide +kernel
theorem dX12_sitting_248 : decode cX12_sitting 248 = .ok (.iastore, 1) := by decide +kernel
theorem dX12_sitting_249 : decode cX12_sitting 249 = .ok (.iinc 8 1, 3) := by decide +kernel
theorem dX12_sitting_252 : decode cX12_sitting 252 = .ok (.goto (-45), 3) := by decide +kernel
theorem dX12_sitting_255 : decode cX12_sitting 255 = .ok (.aload_n 0, 1) := by decide +kernel
theorem dX12_sitting_256 : decode cX12_sitting 256 = .ok (.dup, 1) := by decide +kernel
theorem dX12_sitting_257 : decode cX12_sitting 257 = .ok (.getfield 210, 3) := by decide +kernel
theorem dX12_sitting_260 : decode cX12_sitting 260 = .ok (.iconst 1, 1) := by decide +kernel
theorem dX12_sitting_261 : decode cX12_sitting 261 = .ok (.iadd, 1) := by decide +kernel
theorem dX12_sitting_262 : decode cX12_sitting 262 = .ok (.putfield 210, 3) := by decide +kernel
theorem dX12_sitting_265 : decode cX12_sitting 265 = .ok (.aload_n 0, 1) := by decide +kernel
theorem dX12_sitting_266 : decode cX12_sitting 266 = .ok (.getfield 114, 3) := by decide +kernel
theorem dX12_sitting_269 : decode cX12_sitting 269 = .ok (.iload_n 2, 1) := by decide +kernel
theorem dX12_sitting_270 : decode cX12_sitting 270 = .ok (.isub, 1) := by decide +kernel
theorem dX12_sitting_271 : decode cX12_sitting 271 = .ok (.ireturn, 1) := by decide +kernel
theorem dX12_keepLine_0 : decode cX12_keepLine 0 = .ok (.aload_n 0, 1) := by decide +kernel
theorem dX12_keepLine_1 : decode cX12_keepLine 1 = .ok (.getfield 114, 3) := by decide +kernel
theorem dX12_keepLine_4 : decode cX12_keepLine 4 = .ok (.iconst 1, 1) := by decide +kernel
theorem dX12_keepLine_5 : decode cX12_keepLine 5 = .ok (.isub, 1) := by decide +kernel
theorem dX12_keepLine_6 : decode cX12_keepLine 6 = .ok (.istore_n 2, 1) := by decide +kernel
theorem dX12_keepLine_7 : decode cX12_keepLine 7 = .ok (.iconst 0, 1) := by decide +kernel
theorem dX12_keepLine_8 : decode cX12_keepLine 8 = .ok (.istore_n 3, 1) := by decide +kernel
theorem dX12_keepLine_9 : decode cX12_keepLine 9 = .ok (.iload_n 1, 1) := by decide +kernel
theorem dX12_keepLine_10 : decode cX12_keepLine 10 = .ok (.istore 4, 2) := by decide +kernel
theorem dX12_keepLine_12 : decode cX12_keepLine 12 = .ok (.iload 4, 2) := by decide +kernel
theorem dX12_keepLine_14 : decode cX12_keepLine 14 = .ok (.aload_n 0, 1) := by decide +kernel
theorem dX12_keepLine_15 : decode cX12_keepLine 15 = .ok (.getfield 133, 3) := by decide +kernel
theorem dX12_keepLine_18 : decode cX12_keepLine 18 = .ok (.if_icmp .ge 42, 3) := by decide +kernel
theorem dX12_keepLine_21 : decode cX12_keepLine 21 = .ok (.aload_n 0, 1) := by decide +kernel
theorem dX12_keepLine_22 : decode cX12_keepLine 22 = .ok (.getfield 9, 3) := by decide +kernel
theorem dX12_keepLine_25 : decode cX12_keepLine 25 = .ok (.iload 4, 2) := by decide +kernel
theorem dX12_keepLine_27 : decode cX12_keepLine 27 = .ok (.iaload, 1) := by decide +kernel
theorem dX12_keepLine_28 : decode cX12_keepLine 28 = .ok (.bipush 10, 2) := by decide +kernel
theorem dX12_keepLine_30 : decode cX12_keepLine 30 = .ok (.if_icmp .eq 30, 3) := by decide +kernel
theorem dX12_keepLine_33 : decode cX12_keepLine 33 = .ok (.aload_n 0, 1) := by decide +kernel
theorem dX12_keepLine_34 : decode cX12_keepLine 34 = .ok (.getfield 47, 3) := by decide +kernel
theorem dX12_keepLine_37 : decode cX12_keepLine 37 = .ok (.bipush 60, 2) := by decide +kernel
theorem dX12_keepLine_39 : decode cX12_keepLine 39 = .ok (.iload_n 2, 1) := by decide +kernel
theorem dX12_keepLine_40 : decode cX12_keepLine 40 = .ok (.imul, 1) := by decide +kernel
theorem dX12_keepLine_41 : decode cX12_keepLine 41 = .ok (.iload_n 3, 1) := by decide +kernel
theorem dX12_keepLine_42 : decode cX12_keepLine 42 = .ok (.iadd, 1) := by decide +kernel
theorem dX12_keepLine_43 : decode cX12_keepLine 43 = .ok (.aload_n 0, 1) := by decide +kernel
theorem dX12_keepLine_44 : decode cX12_keepLine 44 = .ok (.getfield 9, 3) := by decide +kernel
theorem dX12_keepLine_47 : decode cX12_keepLine 47 = .ok (.iload 4, 2) := by decide +kernel
theorem dX12_keepLine_49 : decode cX12_keepLine 49 = .ok (.iaload, 1) := by decide +kernel
theorem dX12_keepLine_50 : decode cX12_keepLine 50 = .ok (.iastore, 1) := by decide +kernel
theorem dX12_keepLine_51 : decode cX12_keepLine 51 = .ok (.iinc 3 1, 3) := by decide +kernel
theorem dX12_keepLine_54 : decode cX12_keepLine 54 = .ok (.iinc 4 1, 3) := by decide +kernel
theorem dX12_keepLine_57 : decode cX12_keepLine 57 = .ok (.goto (-45), 3) := by decide +kernel
theorem dX12_keepLine_60 : decode cX12_keepLine 60 = .ok (.aload_n 0, 1) := by decide +kernel
theorem dX12_keepLine_61 : decode cX12_keepLine 61 = .ok (.getfield 44, 3) := by decide +kernel
theorem dX12_keepLine_64 : decode cX12_keepLine 64 = .ok (.iload_n 2, 1) := by decide +kernel
theorem dX12_keepLine_65 : decode cX12_keepLine 65 = .ok (.iload_n 3, 1) := by decide +kernel
theorem dX12_keepLine_66 : decode cX12_keepLine 66 = .ok (.iastore, 1) := by decide +kernel
theorem dX12_keepLine_67 : decode cX12_keepLine 67 = .ok (.aload_n 0, 1) := by decide +kernel
theorem dX12_keepLine_68 : decode cX12_keepLine 68 = .ok (.getfield 38, 3) := by decide +kernel
theorem dX12_keepLine_71 : decode cX12_keepLine 71 = .ok (.iload_n 2, 1) := by decide +kernel
theorem dX12_keepLine_72 : decode cX12_keepLine 72 = .ok (.iload_n 2, 1) := by decide +kernel
theorem dX12_keepLine_73 : decode cX12_keepLine 73 = .ok (.iastore, 1) := by decide +kernel
theorem dX12_keepLine_74 : decode cX12_keepLine 74 = .ok (.aload_n 0, 1) := by decide +kernel
theorem dX12_keepLine_75 : decode cX12_keepLine 75 = .ok (.getfield 41, 3) := by decide +kernel
theorem dX12_keepLine_78 : decode cX12_keepLine 78 = .ok (.iload_n 2, 1) := by decide +kernel
theorem dX12_keepLine_79 : decode cX12_keepLine 79 = .ok (.ldc 222, 2) := by decide +kernel
theorem dX12_keepLine_81 : decode cX12_keepLine 81 = .ok (.iastore, 1) := by decide +kernel
theorem dX12_keepLine_82 : decode cX12_keepLine 82 = .ok (.return_, 1) := by decide +kernel
theorem dX12_fault_0 : decode cX12_fault 0 = .ok (.aload_n 0, 1) := by decide +kernel
theorem dX12_fault_1 : decode cX12_fault 1 = .ok (.iconst 0, 1) := by decide +kernel
theorem dX12_fault_2 : decode cX12_fault 2 = .ok (.putfield 111, 3) := by decide +kernel
theorem dX12_fault_5 : decode cX12_fault 5 = .ok (.aload_n 0, 1) := by decide +kernel
theorem dX12_fault_6 : decode cX12_fault 6 = .ok (.getfield 16, 3) := by decide +kernel
theorem dX12_fault_9 : decode cX12_fault 9 = .ok (.ireturn, 1) := by decide +kernel
theorem dX12_right_0 : decode cX12_right 0 = .ok (.aload_n 0, 1) := by decide +kernel
theorem dX12_right_1 : decode cX12_right 1 = .ok (.iconst 0, 1) := by decide +kernel
theorem dX12_right_2 : decode cX12_right 2 = .ok (.putfield 111, 3) := by decide +kernel
theorem dX12_right_5 : decode cX12_right 5 = .ok (.aload_n 0, 1) := by decide +kernel
theorem dX12_right_6 : decode cX12_right 6 = .ok (.iload_n 1, 1) := by decide +kernel
theorem dX12_right_7 : decode cX12_right 7 = .ok (.invokevirtual 223, 3) := by decide +kernel
theorem dX12_right_10 : decode cX12_right 10 = .ok (.ifCond .ne 9, 3) := by decide +kernel
theorem dX12_right_13 : decode cX12_right 13 = .ok (.aload_n 0, 1) := by decide +kernel
theorem dX12_right_14 : decode cX12_right 14 = .ok (.iconst 1, 1) := by decide +kernel
theorem dX12_right_15 : decode cX12_right 15 = .ok (.invokevirtual 213, 3) := by decide +kernel
theorem dX12_right_18 : decode cX12_right 18 = .ok (.ireturn, 1) := by decide +kernel
theorem dX12_right_19 : decode cX12_right 19 = .ok (.iload_n 2, 1) := by decide +kernel
theorem dX12_right_20 : decode cX12_right 20 = .ok (.iconst 1, 1) := by decide +kernel
theorem dX12_right_21 : decode cX12_right 21 = .ok (.if_icmp .lt 11, 3) := by decide +kernel
theorem dX12_right_24 : decode cX12_right 24 = .ok (.iload_n 2, 1) := by decide +kernel
theorem dX12_right_25 : decode cX12_right 25 = .ok (.aload_n 0, 1) := by decide +kernel
theorem dX12_right_26 : decode cX12_right 26 = .ok (.getfield 117, 3) := by decide +kernel
theorem dX12_right_29 : decode cX12_right 29 = .ok (.if_icmp .le 9, 3) := by decide +kernel
theorem dX12_right_32 : decode cX12_right 32 = .ok (.aload_n 0, 1) := by decide +kernel
theorem dX12_right_33 : decode cX12_right 33 = .ok (.iconst 2, 1) := by decide +kernel
theorem dX12_right_34 : decode cX12_right 34 = .ok (.invokevirtual 213, 3) := by decide +kernel
theorem dX12_right_37 : decode cX12_right 37 = .ok (.ireturn, 1) := by decide +kernel
theorem dX12_right_38 : decode cX12_right 38 = .ok (.aload_n 0, 1) := by decide +kernel
theorem dX12_right_39 : decode cX12_right 39 = .ok (.iconst 0, 1) := by decide +kernel
theorem dX12_right_40 : decode cX12_right 40 = .ok (.putfield 117, 3) := by decide +kernel
theorem dX12_right_43 : decode cX12_right 43 = .ok (.aload_n 0, 1) := by decide +kernel
theorem dX12_right_44 : decode cX12_right 44 = .ok (.iconst (-1), 1) := by decide +kernel
theorem dX12_right_45 : decode cX12_right 45 = .ok (.putfield 16, 3) := by decide +kernel
theorem dX12_right_48 : decode cX12_right 48 = .ok (.aload_n 0, 1) := by decide +kernel
theorem dX12_right_49 : decode cX12_right 49 = .ok (.getfield 20, 3) := by decide +kernel
theorem dX12_right_52 : decode cX12_right 52 = .ok (.iload_n 1, 1) := by decide +kernel
theorem dX12_right_53 : decode cX12_right 53 = .ok (.iaload, 1) := by decide +kernel
theorem dX12_right_54 : decode cX12_right 54 = .ok (.iconst 5, 1) := by decide +kernel
theorem dX12_right_55 : decode cX12_right 55 = .ok (.if_icmp .eq 12, 3) := by decide +kernel
theorem dX12_right_58 : decode cX12_right 58 = .ok (.aload_n 0, 1) := by decide +kernel
theorem dX12_right_59 : decode cX12_right 59 = .ok (.getfield 226, 3) := by decide +kernel
theorem dX12_right_62 : decode cX12_right 62 = .ok (.bipush 100, 2) := by decide +kernel
theorem dX12_right_64 : decode cX12_right 64 = .ok (.if_icmp .ne 6, 3) := by decide +kernel
theorem dX12_right_67 : decode cX12_right 67 = .ok (.bipush (-9), 2) := by decide +kernel
theorem dX12_right_69 : decode cX12_right 69 = .ok (.ireturn, 1) := by decide +kernel
theorem dX12_right_70 : decode cX12_right 70 = .ok (.aload_n 0, 1) := by decide +kernel
theorem dX12_right_71 : decode cX12_right 71 = .ok (.iload_n 2, 1) := by decide +kernel
theorem dX12_right_72 : decode cX12_right 72 = .ok (.putfield 136, 3) := by decide +kernel
theorem dX12_right_75 : decode cX12_right 75 = .ok (.aload_n 0, 1) := by decide +kernel
theorem dX12_right_76 : decode cX12_right 76 = .ok (.iconst 0, 1) := by decide +kernel
theorem dX12_right_77 : decode cX12_right 77 = .ok (.putfield 133, 3) := by decide +kernel
theorem dX12_right_80 : decode cX12_right 80 = .ok (.aload_n 0, 1) := by decide +kernel
theorem dX12_right_81 : decode cX12_right 81 = .ok (.iconst 0, 1) := by decide +kernel
theorem dX12_right_82 : decode cX12_right 82 = .ok (.putfield 139, 3) := by decide +kernel
theorem dX12_right_85 : decode cX12_right 85 = .ok (.aload_n 0, 1) := by decide +kernel
theorem dX12_right_86 : decode cX12_right 86 = .ok (.iconst 0, 1) := by decide +kernel
theorem dX12_right_87 : decode cX12_right 87 = .ok (.putfield 145, 3) := by decide +kernel
theorem dX12_right_90 : decode cX12_right 90 = .ok (.aload_n 0, 1) := by decide +kernel
theorem dX12_right_91 : decode cX12_right 91 = .ok (.iload_n 1, 1) := by decide +kernel
theorem dX12_right_92 : decode cX12_right 92 = .ok (.putfield 130, 3) := by decide +kernel
theorem dX12_right_95 : decode cX12_right 95 = .ok (.aload_n 0, 1) := by decide +kernel
theorem dX12_right_96 : decode cX12_right 96 = .ok (.sipush 200, 3) := by decide +kernel
theorem dX12_right_99 : decode cX12_right 99 = .ok (.aload_n 0, 1) := by decide +kernel
theorem dX12_right_100 : decode cX12_right 100 = .ok (.getfield 226, 3) := by decide +kernel
theorem dX12_right_103 : decode cX12_right 103 = .ok (.iadd, 1) := by decide +kernel
theorem dX12_right_104 : decode cX12_right 104 = .ok (.putfield 194, 3) := by decide +kernel
theorem dX12_right_107 : decode cX12_right 107 = .ok (.aload_n 0, 1) := by decide +kernel
theorem dX12_right_108 : decode cX12_right 108 = .ok (.getfield 188, 3) := by decide +kernel
theorem dX12_right_111 : decode cX12_right 111 = .ok (.istore_n 3, 1) := by decide +kernel
theorem dX12_right_112 : decode cX12_right 112 = .ok (.aload_n 0, 1) := by decide +kernel
theorem dX12_right_113 : decode cX12_right 113 = .ok (.getfield 174, 3) := by decide +kernel
theorem dX12_right_116 : decode cX12_right 116 = .ok (.istore 4, 2) := by decide +kernel
theorem dX12_right_118 : decode cX12_right 118 = .ok (.aload_n 0, 1) := by decide +kernel
theorem dX12_right_119 : decode cX12_right 119 = .ok (.bipush 58, 2) := by decide +kernel
theorem dX12_right_121 : decode cX12_right 121 = .ok (.bipush (-2), 2) := by decide +kernel
theorem dX12_right_123 : decode cX12_right 123 = .ok (.invokevirtual 207, 3) := by decide +kernel
theorem dX12_right_126 : decode cX12_right 126 = .ok (.aload_n 0, 1) := by decide +kernel
theorem dX12_right_127 : decode cX12_right 127 = .ok (.getfield 139, 3) := by decide +kernel
theorem dX12_right_130 : decode cX12_right 130 = .ok (.ifCond .ne 23, 3) := by decide +kernel
theorem dX12_right_133 : decode cX12_right 133 = .ok (.aload_n 0, 1) := by decide +kernel
theorem dX12_right_134 : decode cX12_right 134 = .ok (.getfield 133, 3) := by decide +kernel
theorem dX12_right_137 : decode cX12_right 137 = .ok (.aload_n 0, 1) := by decide +kernel
theorem dX12_right_138 : decode cX12_right 138 = .ok (.getfield 136, 3) := by decide +kernel
theorem dX12_right_141 : decode cX12_right 141 = .ok (.if_icmp .ge 12, 3) := by decide +kernel
theorem dX12_right_144 : decode cX12_right 144 = .ok (.aload_n 0, 1) := by decide +kernel
theorem dX12_right_145 : decode cX12_right 145 = .ok (.iconst 1, 1) := by decide +kernel
theorem dX12_right_146 : decode cX12_right 146 = .ok (.aload_n 0, 1) := by decide +kernel
theorem dX12_right_147 : decode cX12_right 147 = .ok (.getfield 133, 3) := by decide +kernel
theorem dX12_right_150 : decode cX12_right 150 = .ok (.invokevirtual 148, 3) := by decide +kernel
theorem dX12_right_153 : decode cX12_right 153 = .ok (.aload_n 0, 1) := by decide +kernel
theorem dX12_right_154 : decode cX12_right 154 = .ok (.getfield 139, 3) := by decide +kernel
theorem dX12_right_157 : decode cX12_right 157 = .ok (.ifCond .eq 27, 3) := by decide +kernel
theorem dX12_right_160 : decode cX12_right 160 = .ok (.aload_n 0, 1) := by decide +kernel
theorem dX12_right_161 : decode cX12_right 161 = .ok (.iload_n 3, 1) := by decide +kernel
theorem dX12_right_162 : decode cX12_right 162 = .ok (.putfield 188, 3) := by decide +kernel
theorem dX12_right_165 : decode cX12_right 165 = .ok (.aload_n 0, 1) := by decide +kernel
theorem dX12_right_166 : decode cX12_right 166 = .ok (.iload 4, 2) := by decide +kernel
theorem dX12_right_168 : decode cX12_right 168 = .ok (.putfield 174, 3) := by decide +kernel
theorem dX12_right_171 : decode cX12_right 171 = .ok (.aload_n 0, 1) := by decide +kernel
theorem dX12_right_172 : decode cX12_right 172 = .ok (.aload_n 0, 1) := by decide +kernel
theorem dX12_right_173 : decode cX12_right 173 = .ok (.getfield 142, 3) := by decide +kernel
theorem dX12_right_176 : decode cX12_right 176 = .ok (.putfield 16, 3) := by decide +kernel
theorem dX12_right_179 : decode cX12_right 179 = .ok (.aload_n 0, 1) := by decide +kernel
theorem dX12_right_180 : decode cX12_right 180 = .ok (.getfield 139, 3) := by decide +kernel
theorem dX12_right_183 : decode cX12_right 183 = .ok (.ireturn, 1) := by decide +kernel
theorem dX12_right_184 : decode cX12_right 184 = .ok (.iconst 0, 1) := by decide +kernel
theorem dX12_right_185 : decode cX12_right 185 = .ok (.istore 5, 2) := by decide +kernel
theorem dX12_right_187 : decode cX12_right 187 = .ok (.iload 5, 2) := by decide +kernel
theorem dX12_right_189 : decode cX12_right 189 = .ok (.iconst 2, 1) := by decide +kernel
theorem dX12_right_190 : decode cX12_right 190 = .ok (.if_icmp .ge 36, 3) := by decide +kernel
theorem dX12_right_193 : decode cX12_right 193 = .ok (.aload_n 0, 1) := by decide +kernel
theorem dX12_right_194 : decode cX12_right 194 = .ok (.getfield 47, 3) := by decide +kernel
theorem dX12_right_197 : decode cX12_right 197 = .ok (.bipush 60, 2) := by decide +kernel
theorem dX12_right_199 : decode cX12_right 199 = .ok (.aload_n 0, 1) := by decide +kernel
theorem dX12_right_200 : decode cX12_right 200 = .ok (.getfield 194, 3) := by decide +kernel
theorem dX12_right_203 : decode cX12_right 203 = .ok (.imul, 1) := by decide +kernel
theorem dX12_right_204 : decode cX12_right 204 = .ok (.iload 5, 2) := by decide +kernel
theorem dX12_right_206 : decode cX12_right 206 = .ok (.iadd, 1) := by decide +kernel
theorem dX12_right_207 : decode cX12_right 207 = .ok (.aload_n 0, 1) := by decide +kernel
theorem dX12_right_208 : decode cX12_right 208 = .ok (.getfield 47, 3) := by decide +kernel
theorem dX12_right_211 : decode cX12_right 211 = .ok (.bipush 60, 2) := by decide +kernel
theorem dX12_right_213 : decode cX12_right 213 = .ok (.iload_n 1, 1) := by decide +kernel
theorem dX12_right_214 : decode cX12_right 214 = .ok (.imul, 1) := by decide +kernel
theorem dX12_right_215 : decode cX12_right 215 = .ok (.iload 5, 2) := by decide +kernel
theorem dX12_right_217 : decode cX12_right 217 = .ok (.iadd, 1) := by decide +kernel
theorem dX12_right_218 : decode cX12_right 218 = .ok (.iaload, 1) := by decide +kernel
theorem dX12_right_219 : decode cX12_right 219 = .ok (.iastore, 1) := by decide +kernel
theorem dX12_right_220 : decode cX12_right 220 = .ok (.iinc 5 1, 3) := by decide +kernel
theorem dX12_right_223 : decode cX12_right 223 = .ok (.goto (-36), 3) := by decide +kernel
theorem dX12_right_226 : decode cX12_right 226 = .ok (.iconst 0, 1) := by decide +kernel
theorem dX12_right_227 : decode cX12_right 227 = .ok (.istore 5, 2) := by decide +kernel
theorem dX12_right_229 : decode cX12_right 229 = .ok (.iload 5, 2) := by decide +kernel
theorem dX12_right_231 : decode cX12_right 231 = .ok (.iload_n 2, 1) := by decide +kernel
theorem dX12_right_232 : decode cX12_right 232 = .ok (.if_icmp .ge 33, 3) := by decide +kernel
theorem dX12_right_235 : decode cX12_right 235 = .ok (.aload_n 0, 1) := by decide +kernel
theorem dX12_right_236 : decode cX12_right 236 = .ok (.getfield 47, 3) := by decide +kernel
theorem dX12_right_239 : decode cX12_right 239 = .ok (.bipush 60, 2) := by decide +kernel
theorem dX12_right_241 : decode cX12_right 241 = .ok (.aload_n 0, 1) := by decide +kernel
theorem dX12_right_242 : decode cX12_right 242 = .ok (.getfield 194, 3) := by decide +kernel
theorem dX12_right_245 : decode cX12_right 245 = .ok (.imul, 1) := by decide +kernel
theorem dX12_right_246 : decode cX12_right 246 = .ok (.iconst 2, 1) := by decide +kernel
theorem dX12_right_247 : decode cX12_right 247 = .ok (.iadd, 1) := by decide +kernel
theorem dX12_right_248 : decode cX12_right 248 = .ok (.iload 5, 2) := by decide +kernel
theorem dX12_right_250 : decode cX12_right 250 = .ok (.iadd, 1) := by decide +kernel
theorem dX12_right_251 : decode cX12_right 251 = .ok (.aload_n 0, 1) := by decide +kernel
theorem dX12_right_252 : decode cX12_right 252 = .ok (.getfield 9, 3) := by decide +kernel
theorem dX12_right_255 : decode cX12_right 255 = .ok (.iload 5, 2) := by decide +kernel
theorem dX12_right_257 : decode cX12_right 257 = .ok (.iaload, 1) := by decide +kernel
theorem dX12_right_258 : decode cX12_right 258 = .ok (.iastore, 1) := by decide +kernel
theorem dX12_right_259 : decode cX12_right 259 = .ok (.iinc 5 1, 3) := by decide +kernel
theorem dX12_right_262 : decode cX12_right 262 = .ok (.goto (-33), 3) := by decide +kernel
theorem dX12_right_265 : decode cX12_right 265 = .ok (.aload_n 0, 1) := by decide +kernel
theorem dX12_right_266 : decode cX12_right 266 = .ok (.getfield 44, 3) := by decide +kernel
theorem dX12_right_269 : decode cX12_right 269 = .ok (.aload_n 0, 1) := by decide +kernel
theorem dX12_right_270 : decode cX12_right 270 = .ok (.getfield 194, 3) := by decide +kernel
theorem dX12_right_273 : decode cX12_right 273 = .ok (.iload_n 2, 1) := by decide +kernel
theorem dX12_right_274 : decode cX12_right 274 = .ok (.iconst 2, 1) := by decide +kernel
theorem dX12_right_275 : decode cX12_right 275 = .ok (.iadd, 1) := by decide +kernel
theorem dX12_right_276 : decode cX12_right 276 = .ok (.iastore, 1) := by decide +kernel
theorem dX12_right_277 : decode cX12_right 277 = .ok (.aload_n 0, 1) := by decide +kernel
theorem dX12_right_278 : decode cX12_right 278 = .ok (.getfield 38, 3) := by decide +kernel
theorem dX12_right_281 : decode cX12_right 281 = .ok (.aload_n 0, 1) := by decide +kernel
theorem dX12_right_282 : decode cX12_right 282 = .ok (.getfield 194, 3) := by decide +kernel
theorem dX12_right_285 : decode cX12_right 285 = .ok (.iload_n 1, 1) := by decide +kernel
theorem dX12_right_286 : decode cX12_right 286 = .ok (.iastore, 1) := by decide +kernel
theorem dX12_right_287 : decode cX12_right 287 = .ok (.aload_n 0, 1) := by decide +kernel
theorem dX12_right_288 : decode cX12_right 288 = .ok (.getfield 41, 3) := by decide +kernel
theorem dX12_right_291 : decode cX12_right 291 = .ok (.aload_n 0, 1) := by decide +kernel
theorem dX12_right_292 : decode cX12_right 292 = .ok (.getfield 194, 3) := by decide +kernel
theorem dX12_right_295 : decode cX12_right 295 = .ok (.aload_n 0, 1) := by decide +kernel
theorem dX12_right_296 : decode cX12_right 296 = .ok (.getfield 229, 3) := by decide +kernel
theorem dX12_right_299 : decode cX12_right 299 = .ok (.iastore, 1) := by decide +kernel
theorem dX12_right_300 : decode cX12_right 300 = .ok (.aload_n 0, 1) := by decide +kernel
theorem dX12_right_301 : decode cX12_right 301 = .ok (.dup, 1) := by decide +kernel
theorem dX12_right_302 : decode cX12_right 302 = .ok (.getfield 226, 3) := by decide +kernel
theorem dX12_right_305 : decode cX12_right 305 = .ok (.iconst 1, 1) := by decide +kernel
theorem dX12_right_306 : decode cX12_right 306 = .ok (.iadd, 1) := by decide +kernel
theorem dX12_right_307 : decode cX12_right 307 = .ok (.putfield 226, 3) := by decide +kernel
theorem dX12_right_310 : decode cX12_right 310 = .ok (.aload_n 0, 1) := by decide +kernel
theorem dX12_right_311 : decode cX12_right 311 = .ok (.getfield 35, 3) := by decide +kernel
theorem dX12_right_314 : decode cX12_right 314 = .ok (.iload_n 1, 1) := by decide +kernel
theorem dX12_right_315 : decode cX12_right 315 = .ok (.dup2, 1) := by decide +kernel
theorem dX12_right_316 : decode cX12_right 316 = .ok (.iaload, 1) := by decide +kernel
theorem dX12_right_317 : decode cX12_right 317 = .ok (.iconst 1, 1) := by decide +kernel
theorem dX12_right_318 : decode cX12_right 318 = .ok (.iadd, 1) := by decide +kernel
theorem dX12_right_319 : decode cX12_right 319 = .ok (.iastore, 1) := by decide +kernel
theorem dX12_right_320 : decode cX12_right 320 = .ok (.iconst 0, 1) := by decide +kernel
theorem dX12_right_321 : decode cX12_right 321 = .ok (.ireturn, 1) := by decide +kernel
theorem dX12_days_0 : decode cX12_days 0 = .ok (.aload_n 0, 1) := by decide +kernel
theorem dX12_days_1 : decode cX12_days 1 = .ok (.iconst 0, 1) := by decide +kernel
theorem dX12_days_2 : decode cX12_days 2 = .ok (.putfield 111, 3) := by decide +kernel
theorem dX12_days_5 : decode cX12_days 5 = .ok (.iload_n 1, 1) := by decide +kernel
theorem dX12_days_6 : decode cX12_days 6 = .ok (.ifCond .lt 18, 3) := by decide +kernel
theorem dX12_days_9 : decode cX12_days 9 = .ok (.aload_n 0, 1) := by decide +kernel
theorem dX12_days_10 : decode cX12_days 10 = .ok (.getfield 229, 3) := by decide +kernel
theorem dX12_days_13 : decode cX12_days 13 = .ok (.i2l, 1) := by decide +kernel
theorem dX12_days_14 : decode cX12_days 14 = .ok (.iload_n 1, 1) := by decide +kernel
theorem dX12_days_15 : decode cX12_days 15 = .ok (.i2l, 1) := by decide +kernel
theorem dX12_days_16 : decode cX12_days 16 = .ok (.ladd, 1) := by decide +kernel
theorem dX12_days_17 : decode cX12_days 17 = .ok (.ldc2_w 232, 3) := by decide +kernel
theorem dX12_days_20 : decode cX12_days 20 = .ok (.lcmp, 1) := by decide +kernel
theorem dX12_days_21 : decode cX12_days 21 = .ok (.ifCond .le 9, 3) := by decide +kernel
theorem dX12_days_24 : decode cX12_days 24 = .ok (.aload_n 0, 1) := by decide +kernel
theorem dX12_days_25 : decode cX12_days 25 = .ok (.iconst 1, 1) := by decide +kernel
theorem dX12_days_26 : decode cX12_days 26 = .ok (.invokevirtual 213, 3) := by decide +kernel
theorem dX12_days_29 : decode cX12_days 29 = .ok (.ireturn, 1) := by decide +kernel
theorem dX12_days_30 : decode cX12_days 30 = .ok (.aload_n 0, 1) := by decide +kernel
theorem dX12_days_31 : decode cX12_days 31 = .ok (.dup, 1) := by decide +kernel
theorem dX12_days_32 : decode cX12_days 32 = .ok (.getfield 229, 3) := by decide +kernel
theorem dX12_days_35 : decode cX12_days 35 = .ok (.iload_n 1, 1) := by decide +kernel
theorem dX12_days_36 : decode cX12_days 36 = .ok (.iadd, 1) := by decide +kernel
theorem dX12_days_37 : decode cX12_days 37 = .ok (.putfield 229, 3) := by decide +kernel
theorem dX12_days_40 : decode cX12_days 40 = .ok (.aload_n 0, 1) := by decide +kernel
theorem dX12_days_41 : decode cX12_days 41 = .ok (.getfield 229, 3) := by decide +kernel
theorem dX12_days_44 : decode cX12_days 44 = .ok (.ireturn, 1) := by decide +kernel
theorem dX12_restOn_0 : decode cX12_restOn 0 = .ok (.iload_n 1, 1) := by decide +kernel
theorem dX12_restOn_1 : decode cX12_restOn 1 = .ok (.istore_n 3, 1) := by decide +kernel
theorem dX12_restOn_2 : decode cX12_restOn 2 = .ok (.sipush 200, 3) := by decide +kernel
theorem dX12_restOn_5 : decode cX12_restOn 5 = .ok (.istore 4, 2) := by decide +kernel
theorem dX12_restOn_7 : decode cX12_restOn 7 = .ok (.iload 4, 2) := by decide +kernel
theorem dX12_restOn_9 : decode cX12_restOn 9 = .ok (.sipush 200, 3) := by decide +kernel
theorem dX12_restOn_12 : decode cX12_restOn 12 = .ok (.aload_n 0, 1) := by decide +kernel
theorem dX12_restOn_13 : decode cX12_restOn 13 = .ok (.getfield 226, 3) := by decide +kernel
theorem dX12_restOn_16 : decode cX12_restOn 16 = .ok (.iadd, 1) := by decide +kernel
theorem dX12_restOn_17 : decode cX12_restOn 17 = .ok (.if_icmp .ge 34, 3) := by decide +kernel
theorem dX12_restOn_20 : decode cX12_restOn 20 = .ok (.aload_n 0, 1) := by decide +kernel
theorem dX12_restOn_21 : decode cX12_restOn 21 = .ok (.getfield 38, 3) := by decide +kernel
theorem dX12_restOn_24 : decode cX12_restOn 24 = .ok (.iload 4, 2) := by decide +kernel
theorem dX12_restOn_26 : decode cX12_restOn 26 = .ok (.iaload, 1) := by decide +kernel
theorem dX12_restOn_27 : decode cX12_restOn 27 = .ok (.iload_n 1, 1) := by decide +kernel
theorem dX12_restOn_28 : decode cX12_restOn 28 = .ok (.if_icmp .ne 17, 3) := by decide +kernel
theorem dX12_restOn_31 : decode cX12_restOn 31 = .ok (.aload_n 0, 1) := by decide +kernel
theorem dX12_restOn_32 : decode cX12_restOn 32 = .ok (.getfield 41, 3) := by decide +kernel
theorem dX12_restOn_35 : decode cX12_restOn 35 = .ok (.iload 4, 2) := by decide +kernel
theorem dX12_restOn_37 : decode cX12_restOn 37 = .ok (.iaload, 1) := by decide +kernel
theorem dX12_restOn_38 : decode cX12_restOn 38 = .ok (.iload_n 2, 1) := by decide +kernel
theorem dX12_restOn_39 : decode cX12_restOn 39 = .ok (.if_icmp .gt 6, 3) := by decide +kernel
theorem dX12_restOn_42 : decode cX12_restOn 42 = .ok (.iload 4, 2) := by decide +kernel
theorem dX12_restOn_44 : decode cX12_restOn 44 = .ok (.istore_n 3, 1) := by decide +kernel
theorem dX12_restOn_45 : decode cX12_restOn 45 = .ok (.iinc 4 1, 3) := by decide +kernel
theorem dX12_restOn_48 : decode cX12_restOn 48 = .ok (.goto (-41), 3) := by decide +kernel
theorem dX12_restOn_51 : decode cX12_restOn 51 = .ok (.iload_n 3, 1) := by decide +kernel
theorem dX12_restOn_52 : decode cX12_restOn 52 = .ok (.ireturn, 1) := by decide +kernel
theorem dX12_answered_0 : decode cX12_answered 0 = .ok (.aload_n 0, 1) := by decide +kernel
theorem dX12_answered_1 : decode cX12_answered 1 = .ok (.getfield 26, 3) := by decide +kernel
theorem dX12_answered_4 : decode cX12_answered 4 = .ok (.iload_n 1, 1) := by decide +kernel
theorem dX12_answered_5 : decode cX12_answered 5 = .ok (.iaload, 1) := by decide +kernel
theorem dX12_answered_6 : decode cX12_answered 6 = .ok (.iconst (-1), 1) := by decide +kernel
theorem dX12_answered_7 : decode cX12_answered 7 = .ok (.if_icmp .eq 17, 3) := by decide +kernel
theorem dX12_answered_10 : decode cX12_answered 10 = .ok (.aload_n 0, 1) := by decide +kernel
theorem dX12_answered_11 : decode cX12_answered 11 = .ok (.getfield 20, 3) := by decide +kernel
theorem dX12_answered_14 : decode cX12_answered 14 = .ok (.aload_n 0, 1) := by decide +kernel
theorem dX12_answered_15 : decode cX12_answered 15 = .ok (.getfield 26, 3) := by decide +kernel
theorem dX12_answered_18 : decode cX12_answered 18 = .ok (.iload_n 1, 1) := by decide +kernel
theorem dX12_answered_19 : decode cX12_answered 19 = .ok (.iaload, 1) := by decide +kernel
theorem dX12_answered_20 : decode cX12_answered 20 = .ok (.iaload, 1) := by decide +kernel
theorem dX12_answered_21 : decode cX12_answered 21 = .ok (.ifCond .eq 5, 3) := by decide +kernel
theorem dX12_answered_24 : decode cX12_answered 24 = .ok (.iconst (-1), 1) := by decide +kernel
theorem dX12_answered_25 : decode cX12_answered 25 = .ok (.ireturn, 1) := by decide +kernel
theorem dX12_answered_26 : decode cX12_answered 26 = .ok (.aload_n 0, 1) := by decide +kernel
theorem dX12_answered_27 : decode cX12_answered 27 = .ok (.getfield 26, 3) := by decide +kernel
theorem dX12_answered_30 : decode cX12_answered 30 = .ok (.iload_n 1, 1) := by decide +kernel
theorem dX12_answered_31 : decode cX12_answered 31 = .ok (.iaload, 1) := by decide +kernel
theorem dX12_answered_32 : decode cX12_answered 32 = .ok (.iconst 1, 1) := by decide +kernel
theorem dX12_answered_33 : decode cX12_answered 33 = .ok (.iadd, 1) := by decide +kernel
theorem dX12_answered_34 : decode cX12_answered 34 = .ok (.istore_n 2, 1) := by decide +kernel
theorem dX12_answered_35 : decode cX12_answered 35 = .ok (.iload_n 2, 1) := by decide +kernel
theorem dX12_answered_36 : decode cX12_answered 36 = .ok (.aload_n 0, 1) := by decide +kernel
theorem dX12_answered_37 : decode cX12_answered 37 = .ok (.getfield 114, 3) := by decide +kernel
theorem dX12_answered_40 : decode cX12_answered 40 = .ok (.if_icmp .ge 62, 3) := by decide +kernel
theorem dX12_answered_43 : decode cX12_answered 43 = .ok (.aload_n 0, 1) := by decide +kernel
theorem dX12_answered_44 : decode cX12_answered 44 = .ok (.getfield 23, 3) := by decide +kernel
theorem dX12_answered_47 : decode cX12_answered 47 = .ok (.iload_n 2, 1) := by decide +kernel
theorem dX12_answered_48 : decode cX12_answered 48 = .ok (.iaload, 1) := by decide +kernel
theorem dX12_answered_49 : decode cX12_answered 49 = .ok (.aload_n 0, 1) := by decide +kernel
theorem dX12_answered_50 : decode cX12_answered 50 = .ok (.getfield 23, 3) := by decide +kernel
theorem dX12_answered_53 : decode cX12_answered 53 = .ok (.iload_n 1, 1) := by decide +kernel
theorem dX12_answered_54 : decode cX12_answered 54 = .ok (.iaload, 1) := by decide +kernel
theorem dX12_answered_55 : decode cX12_answered 55 = .ok (.if_icmp .ne 47, 3) := by decide +kernel
theorem dX12_answered_58 : decode cX12_answered 58 = .ok (.aload_n 0, 1) := by decide +kernel
theorem dX12_answered_59 : decode cX12_answered 59 = .ok (.getfield 20, 3) := by decide +kernel
theorem dX12_answered_62 : decode cX12_answered 62 = .ok (.iload_n 2, 1) := by decide +kernel
theorem dX12_answered_63 : decode cX12_answered 63 = .ok (.iaload, 1) := by decide +kernel
theorem dX12_answered_64 : decode cX12_answered 64 = .ok (.iconst 5, 1) := by decide +kernel
theorem dX12_answered_65 : decode cX12_answered 65 = .ok (.if_icmp .eq 31, 3) := by decide +kernel
theorem dX12_answered_68 : decode cX12_answered 68 = .ok (.aload_n 0, 1) := by decide +kernel
theorem dX12_answered_69 : decode cX12_answered 69 = .ok (.getfield 20, 3) := by decide +kernel
theorem dX12_answered_72 : decode cX12_answered 72 = .ok (.iload_n 2, 1) := by decide +kernel
theorem dX12_answered_73 : decode cX12_answered 73 = .ok (.iaload, 1) := by decide +kernel
theorem dX12_answered_74 : decode cX12_answered 74 = .ok (.iconst 4, 1) := by decide +kernel
theorem dX12_answered_75 : decode cX12_answered 75 = .ok (.if_icmp .ne 6, 3) := by decide +kernel
theorem dX12_answered_78 : decode cX12_answered 78 = .ok (.goto 18, 3) := by decide +kernel
theorem dX12_answered_81 : decode cX12_answered 81 = .ok (.aload_n 0, 1) := by decide +kernel
theorem dX12_answered_82 : decode cX12_answered 82 = .ok (.getfield 20, 3) := by decide +kernel
theorem dX12_answered_85 : decode cX12_answered 85 = .ok (.iload_n 2, 1) := by decide +kernel
theorem dX12_answered_86 : decode cX12_answered 86 = .ok (.iaload, 1) := by decide +kernel
theorem dX12_answered_87 : decode cX12_answered 87 = .ok (.ifCond .ne 7, 3) := by decide +kernel
theorem dX12_answered_90 : decode cX12_answered 90 = .ok (.iconst (-1), 1) := by decide +kernel
theorem dX12_answered_91 : decode cX12_answered 91 = .ok (.goto 4, 3) := by decide +kernel
theorem dX12_answered_94 : decode cX12_answered 94 = .ok (.iload_n 2, 1) := by decide +kernel
theorem dX12_answered_95 : decode cX12_answered 95 = .ok (.ireturn, 1) := by decide +kernel
theorem dX12_answered_96 : decode cX12_answered 96 = .ok (.iinc 2 1, 3) := by decide +kernel
theorem dX12_answered_99 : decode cX12_answered 99 = .ok (.goto (-64), 3) := by decide +kernel
theorem dX12_answered_102 : decode cX12_answered 102 = .ok (.iconst (-1), 1) := by decide +kernel
theorem dX12_answered_103 : decode cX12_answered 103 = .ok (.ireturn, 1) := by decide +kernel
theorem dX12_about_0 : decode cX12_about 0 = .ok (.aload_n 0, 1) := by decide +kernel
theorem dX12_about_1 : decode cX12_about 1 = .ok (.iconst 0, 1) := by decide +kernel
theorem dX12_about_2 : decode cX12_about 2 = .ok (.putfield 111, 3) := by decide +kernel
theorem dX12_about_5 : decode cX12_about 5 = .ok (.aload_n 0, 1) := by decide +kernel
theorem dX12_about_6 : decode cX12_about 6 = .ok (.iload_n 1, 1) := by decide +kernel
theorem dX12_about_7 : decode cX12_about 7 = .ok (.invokevirtual 223, 3) := by decide +kernel
theorem dX12_about_10 : decode cX12_about 10 = .ok (.ifCond .ne 9, 3) := by decide +kernel
theorem dX12_about_13 : decode cX12_about 13 = .ok (.aload_n 0, 1) := by decide +kernel
theorem dX12_about_14 : decode cX12_about 14 = .ok (.iconst 1, 1) := by decide +kernel
theorem dX12_about_15 : decode cX12_about 15 = .ok (.invokevirtual 213, 3) := by decide +kernel
theorem dX12_about_18 : decode cX12_about 18 = .ok (.ireturn, 1) := by decide +kernel
theorem dX12_about_19 : decode cX12_about 19 = .ok (.iload_n 2, 1) := by decide +kernel
theorem dX12_about_20 : decode cX12_about 20 = .ok (.tableswitch 92 0 6 #[44, 51, 58, 65, 72, 79, 85], 44) := by decide +kernel
theorem dX12_about_64 : decode cX12_about 64 = .ok (.aload_n 0, 1) := by decide +kernel
theorem dX12_about_65 : decode cX12_about 65 = .ok (.getfield 29, 3) := by decide +kernel
theorem dX12_about_68 : decode cX12_about 68 = .ok (.iload_n 1, 1) := by decide +kernel
theorem dX12_about_69 : decode cX12_about 69 = .ok (.iaload, 1) := by decide +kernel
theorem dX12_about_70 : decode cX12_about 70 = .ok (.ireturn, 1) := by decide +kernel
theorem dX12_about_71 : decode cX12_about 71 = .ok (.aload_n 0, 1) := by decide +kernel
theorem dX12_about_72 : decode cX12_about 72 = .ok (.getfield 32, 3) := by decide +kernel
theorem dX12_about_75 : decode cX12_about 75 = .ok (.iload_n 1, 1) := by decide +kernel
theorem dX12_about_76 : decode cX12_about 76 = .ok (.iaload, 1) := by decide +kernel
theorem dX12_about_77 : decode cX12_about 77 = .ok (.ireturn, 1) := by decide +kernel
theorem dX12_about_78 : decode cX12_about 78 = .ok (.aload_n 0, 1) := by decide +kernel
theorem dX12_about_79 : decode cX12_about 79 = .ok (.getfield 23, 3) := by decide +kernel
theorem dX12_about_82 : decode cX12_about 82 = .ok (.iload_n 1, 1) := by decide +kernel
theorem dX12_about_83 : decode cX12_about 83 = .ok (.iaload, 1) := by decide +kernel
theorem dX12_about_84 : decode cX12_about 84 = .ok (.ireturn, 1) := by decide +kernel
theorem dX12_about_85 : decode cX12_about 85 = .ok (.aload_n 0, 1) := by decide +kernel
theorem dX12_about_86 : decode cX12_about 86 = .ok (.getfield 20, 3) := by decide +kernel
theorem dX12_about_89 : decode cX12_about 89 = .ok (.iload_n 1, 1) := by decide +kernel
theorem dX12_about_90 : decode cX12_about 90 = .ok (.iaload, 1) := by decide +kernel
theorem dX12_about_91 : decode cX12_about 91 = .ok (.ireturn, 1) := by decide +kernel
theorem dX12_about_92 : decode cX12_about 92 = .ok (.aload_n 0, 1) := by decide +kernel
theorem dX12_about_93 : decode cX12_about 93 = .ok (.getfield 26, 3) := by decide +kernel
theorem dX12_about_96 : decode cX12_about 96 = .ok (.iload_n 1, 1) := by decide +kernel
theorem dX12_about_97 : decode cX12_about 97 = .ok (.iaload, 1) := by decide +kernel
theorem dX12_about_98 : decode cX12_about 98 = .ok (.ireturn, 1) := by decide +kernel
theorem dX12_about_99 : decode cX12_about 99 = .ok (.aload_n 0, 1) := by decide +kernel
theorem dX12_about_100 : decode cX12_about 100 = .ok (.iload_n 1, 1) := by decide +kernel
theorem dX12_about_101 : decode cX12_about 101 = .ok (.invokevirtual 234, 3) := by decide +kernel
theorem dX12_about_104 : decode cX12_about 104 = .ok (.ireturn, 1) := by decide +kernel
theorem dX12_about_105 : decode cX12_about 105 = .ok (.aload_n 0, 1) := by decide +kernel
theorem dX12_about_106 : decode cX12_about 106 = .ok (.getfield 35, 3) := by decide +kernel
theorem dX12_about_109 : decode cX12_about 109 = .ok (.iload_n 1, 1) := by decide +kernel
theorem dX12_about_110 : decode cX12_about 110 = .ok (.iaload, 1) := by decide +kernel
theorem dX12_about_111 : decode cX12_about 111 = .ok (.ireturn, 1) := by decide +kernel
theorem dX12_about_112 : decode cX12_about 112 = .ok (.aload_n 0, 1) := by decide +kernel
theorem dX12_about_113 : decode cX12_about 113 = .ok (.iconst 1, 1) := by decide +kernel
theorem dX12_about_114 : decode cX12_about 114 = .ok (.invokevirtual 213, 3) := by decide +kernel
theorem dX12_about_117 : decode cX12_about 117 = .ok (.ireturn, 1) := by decide +kernel
theorem dX12_cited_0 : decode cX12_cited 0 = .ok (.aload_n 0, 1) := by decide +kernel
theorem dX12_cited_1 : decode cX12_cited 1 = .ok (.iconst 0, 1) := by decide +kernel
theorem dX12_cited_2 : decode cX12_cited 2 = .ok (.putfield 111, 3) := by decide +kernel
theorem dX12_cited_5 : decode cX12_cited 5 = .ok (.iconst 0, 1) := by decide +kernel
theorem dX12_cited_6 : decode cX12_cited 6 = .ok (.istore_n 3, 1) := by decide +kernel
theorem dX12_cited_7 : decode cX12_cited 7 = .ok (.iload_n 3, 1) := by decide +kernel
theorem dX12_cited_8 : decode cX12_cited 8 = .ok (.aload_n 0, 1) := by decide +kernel
theorem dX12_cited_9 : decode cX12_cited 9 = .ok (.getfield 114, 3) := by decide +kernel
theorem dX12_cited_12 : decode cX12_cited 12 = .ok (.if_icmp .ge 31, 3) := by decide +kernel
theorem dX12_cited_15 : decode cX12_cited 15 = .ok (.aload_n 0, 1) := by decide +kernel
theorem dX12_cited_16 : decode cX12_cited 16 = .ok (.getfield 29, 3) := by decide +kernel
theorem dX12_cited_19 : decode cX12_cited 19 = .ok (.iload_n 3, 1) := by decide +kernel
theorem dX12_cited_20 : decode cX12_cited 20 = .ok (.iaload, 1) := by decide +kernel
theorem dX12_cited_21 : decode cX12_cited 21 = .ok (.iload_n 1, 1) := by decide +kernel
theorem dX12_cited_22 : decode cX12_cited 22 = .ok (.if_icmp .ne 15, 3) := by decide +kernel
theorem dX12_cited_25 : decode cX12_cited 25 = .ok (.aload_n 0, 1) := by decide +kernel
