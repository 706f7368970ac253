theorem dX6_init_0 : decode cX6_init 0 = .ok (.aload_n 0, 1) := by decide +kernel
theorem dX6_init_1 : decode cX6_init 1 = .ok (.invokespecial 1, 3) := by decide +kernel
theorem dX6_init_4 : decode cX6_init 4 = .ok (.aload_n 0, 1) := by decide +kernel
theorem dX6_init_5 : decode cX6_init 5 = .ok (.bipush 93, 2) := by decide +kernel
theorem dX6_init_7 : decode cX6_init 7 = .ok (.newarray .int, 2) := by decide +kernel
theorem dX6_init_9 : decode cX6_init 9 = .ok (.putfield 7, 3) := by decide +kernel
theorem dX6_init_12 : decode cX6_init 12 = .ok (.aload_n 0, 1) := by decide +kernel
theorem dX6_init_13 : decode cX6_init 13 = .ok (.sipush 744, 3) := by decide +kernel
theorem dX6_init_16 : decode cX6_init 16 = .ok (.newarray .int, 2) := by decide +kernel
theorem dX6_init_18 : decode cX6_init 18 = .ok (.putfield 13, 3) := by decide +kernel
theorem dX6_init_21 : decode cX6_init 21 = .ok (.aload_n 0, 1) := by decide +kernel
theorem dX6_init_22 : decode cX6_init 22 = .ok (.sipush 186, 3) := by decide +kernel
theorem dX6_init_25 : decode cX6_init 25 = .ok (.newarray .int, 2) := by decide +kernel
theorem dX6_init_27 : decode cX6_init 27 = .ok (.putfield 16, 3) := by decide +kernel
theorem dX6_init_30 : decode cX6_init 30 = .ok (.aload_n 0, 1) := by decide +kernel
theorem dX6_init_31 : decode cX6_init 31 = .ok (.bipush 80, 2) := by decide +kernel
theorem dX6_init_33 : decode cX6_init 33 = .ok (.newarray .int, 2) := by decide +kernel
theorem dX6_init_35 : decode cX6_init 35 = .ok (.putfield 19, 3) := by decide +kernel
theorem dX6_init_38 : decode cX6_init 38 = .ok (.aload_n 0, 1) := by decide +kernel
theorem dX6_init_39 : decode cX6_init 39 = .ok (.bipush 18, 2) := by decide +kernel
theorem dX6_init_41 : decode cX6_init 41 = .ok (.newarray .boolean, 2) := by decide +kernel
theorem dX6_init_43 : decode cX6_init 43 = .ok (.putfield 22, 3) := by decide +kernel
theorem dX6_init_46 : decode cX6_init 46 = .ok (.aload_n 0, 1) := by decide +kernel
theorem dX6_init_47 : decode cX6_init 47 = .ok (.bipush 9, 2) := by decide +kernel
theorem dX6_init_49 : decode cX6_init 49 = .ok (.newarray .int, 2) := by decide +kernel
theorem dX6_init_51 : decode cX6_init 51 = .ok (.putfield 26, 3) := by decide +kernel
theorem dX6_init_54 : decode cX6_init 54 = .ok (.aload_n 0, 1) := by decide +kernel
theorem dX6_init_55 : decode cX6_init 55 = .ok (.bipush 18, 2) := by decide +kernel
theorem dX6_init_57 : decode cX6_init 57 = .ok (.newarray .boolean, 2) := by decide +kernel
theorem dX6_init_59 : decode cX6_init 59 = .ok (.putfield 29, 3) := by decide +kernel
theorem dX6_init_62 : decode cX6_init 62 = .ok (.aload_n 0, 1) := by decide +kernel
theorem dX6_init_63 : decode cX6_init 63 = .ok (.bipush 18, 2) := by decide +kernel
theorem dX6_init_65 : decode cX6_init 65 = .ok (.newarray .int, 2) := by decide +kernel
theorem dX6_init_67 : decode cX6_init 67 = .ok (.putfield 32, 3) := by decide +kernel
theorem dX6_init_70 : decode cX6_init 70 = .ok (.aload_n 0, 1) := by decide +kernel
theorem dX6_init_71 : decode cX6_init 71 = .ok (.bipush 41, 2) := by decide +kernel
theorem dX6_init_73 : decode cX6_init 73 = .ok (.newarray .int, 2) := by decide +kernel
theorem dX6_init_75 : decode cX6_init 75 = .ok (.putfield 35, 3) := by decide +kernel
theorem dX6_init_78 : decode cX6_init 78 = .ok (.aload_n 0, 1) := by decide +kernel
theorem dX6_init_79 : decode cX6_init 79 = .ok (.bipush 18, 2) := by decide +kernel
theorem dX6_init_81 : decode cX6_init 81 = .ok (.newarray .int, 2) := by decide +kernel
theorem dX6_init_83 : decode cX6_init 83 = .ok (.putfield 38, 3) := by decide +kernel
theorem dX6_init_86 : decode cX6_init 86 = .ok (.aload_n 0, 1) := by decide +kernel
theorem dX6_init_87 : decode cX6_init 87 = .ok (.bipush 18, 2) := by decide +kernel
theorem dX6_init_89 : decode cX6_init 89 = .ok (.newarray .int, 2) := by decide +kernel
theorem dX6_init_91 : decode cX6_init 91 = .ok (.putfield 41, 3) := by decide +kernel
theorem dX6_init_94 : decode cX6_init 94 = .ok (.aload_n 0, 1) := by decide +kernel
theorem dX6_init_95 : decode cX6_init 95 = .ok (.bipush 18, 2) := by decide +kernel
theorem dX6_init_97 : decode cX6_init 97 = .ok (.newarray .int, 2) := by decide +kernel
theorem dX6_init_99 : decode cX6_init 99 = .ok (.putfield 44, 3) := by decide +kernel
theorem dX6_init_102 : decode cX6_init 102 = .ok (.aload_n 0, 1) := by decide +kernel
theorem dX6_init_103 : decode cX6_init 103 = .ok (.bipush 41, 2) := by decide +kernel
theorem dX6_init_105 : decode cX6_init 105 = .ok (.newarray .int, 2) := by decide +kernel
theorem dX6_init_107 : decode cX6_init 107 = .ok (.putfield 47, 3) := by decide +kernel
theorem dX6_init_110 : decode cX6_init 110 = .ok (.aload_n 0, 1) := by decide +kernel
theorem dX6_init_111 : decode cX6_init 111 = .ok (.bipush 6, 2) := by decide +kernel
theorem dX6_init_113 : decode cX6_init 113 = .ok (.newarray .int, 2) := by decide +kernel
theorem dX6_init_115 : decode cX6_init 115 = .ok (.putfield 50, 3) := by decide +kernel
theorem dX6_init_118 : decode cX6_init 118 = .ok (.aload_n 0, 1) := by decide +kernel
theorem dX6_init_119 : decode cX6_init 119 = .ok (.bipush 8, 2) := by decide +kernel
theorem dX6_init_121 : decode cX6_init 121 = .ok (.newarray .int, 2) := by decide +kernel
theorem dX6_init_123 : decode cX6_init 123 = .ok (.putfield 53, 3) := by decide +kernel
theorem dX6_init_126 : decode cX6_init 126 = .ok (.aload_n 0, 1) := by decide +kernel
theorem dX6_init_127 : decode cX6_init 127 = .ok (.sipush 320, 3) := by decide +kernel
theorem dX6_init_130 : decode cX6_init 130 = .ok (.newarray .int, 2) := by decide +kernel
theorem dX6_init_132 : decode cX6_init 132 = .ok (.putfield 56, 3) := by decide +kernel
theorem dX6_init_135 : decode cX6_init 135 = .ok (.aload_n 0, 1) := by decide +kernel
theorem dX6_init_136 : decode cX6_init 136 = .ok (.bipush 93, 2) := by decide +kernel
theorem dX6_init_138 : decode cX6_init 138 = .ok (.newarray .int, 2) := by decide +kernel
theorem dX6_init_140 : decode cX6_init 140 = .ok (.putfield 59, 3) := by decide +kernel
theorem dX6_init_143 : decode cX6_init 143 = .ok (.aload_n 0, 1) := by decide +kernel
theorem dX6_init_144 : decode cX6_init 144 = .ok (.getfield 7, 3) := by decide +kernel
theorem dX6_init_147 : decode cX6_init 147 = .ok (.iconst 0, 1) := by decide +kernel
theorem dX6_init_148 : decode cX6_init 148 = .ok (.iconst 4, 1) := by decide +kernel
theorem dX6_init_149 : decode cX6_init 149 = .ok (.iastore, 1) := by decide +kernel
theorem dX6_init_150 : decode cX6_init 150 = .ok (.aload_n 0, 1) := by decide +kernel
theorem dX6_init_151 : decode cX6_init 151 = .ok (.getfield 7, 3) := by decide +kernel
theorem dX6_init_154 : decode cX6_init 154 = .ok (.iconst 2, 1) := by decide +kernel
theorem dX6_init_155 : decode cX6_init 155 = .ok (.bipush 18, 2) := by decide +kernel
theorem dX6_init_157 : decode cX6_init 157 = .ok (.iastore, 1) := by decide +kernel
theorem dX6_init_158 : decode cX6_init 158 = .ok (.return_, 1) := by decide +kernel
theorem dX6_isIn_0 : decode cX6_isIn 0 = .ok (.iload_n 0, 1) := by decide +kernel
theorem dX6_isIn_1 : decode cX6_isIn 1 = .ok (.iload_n 1, 1) := by decide +kernel
theorem dX6_isIn_2 : decode cX6_isIn 2 = .ok (.if_icmp .lt 12, 3) := by decide +kernel
theorem dX6_isIn_5 : decode cX6_isIn 5 = .ok (.iload_n 0, 1) := by decide +kernel
theorem dX6_isIn_6 : decode cX6_isIn 6 = .ok (.iload_n 2, 1) := by decide +kernel
theorem dX6_isIn_7 : decode cX6_isIn 7 = .ok (.if_icmp .gt 7, 3) := by decide +kernel
theorem dX6_isIn_10 : decode cX6_isIn 10 = .ok (.iconst 1, 1) := by decide +kernel
theorem dX6_isIn_11 : decode cX6_isIn 11 = .ok (.goto 4, 3) := by decide +kernel
theorem dX6_isIn_14 : decode cX6_isIn 14 = .ok (.iconst 0, 1) := by decide +kernel
theorem dX6_isIn_15 : decode cX6_isIn 15 = .ok (.ireturn, 1) := by decide +kernel
theorem dX6_isNode_0 : decode cX6_isNode 0 = .ok (.iload_n 1, 1) := by decide +kernel
theorem dX6_isNode_1 : decode cX6_isNode 1 = .ok (.iconst 0, 1) := by decide +kernel
theorem dX6_isNode_2 : decode cX6_isNode 2 = .ok (.aload_n 0, 1) := by decide +kernel
theorem dX6_isNode_3 : decode cX6_isNode 3 = .ok (.getfield 7, 3) := by decide +kernel
theorem dX6_isNode_6 : decode cX6_isNode 6 = .ok (.iconst 0, 1) := by decide +kernel
theorem dX6_isNode_7 : decode cX6_isNode 7 = .ok (.iaload, 1) := by decide +kernel
theorem dX6_isNode_8 : decode cX6_isNode 8 = .ok (.iconst 1, 1) := by decide +kernel
theorem dX6_isNode_9 : decode cX6_isNode 9 = .ok (.isub, 1) := by decide +kernel
theorem dX6_isNode_10 : decode cX6_isNode 10 = .ok (.invokestatic 62, 3) := by decide +kernel
theorem dX6_isNode_13 : decode cX6_isNode 13 = .ok (.ireturn, 1) := by decide +kernel
theorem dX6_isLink_0 : decode cX6_isLink 0 = .ok (.iload_n 1, 1) := by decide +kernel
theorem dX6_isLink_1 : decode cX6_isLink 1 = .ok (.iconst 0, 1) := by decide +kernel
theorem dX6_isLink_2 : decode cX6_isLink 2 = .ok (.aload_n 0, 1) := by decide +kernel
theorem dX6_isLink_3 : decode cX6_isLink 3 = .ok (.getfield 7, 3) := by decide +kernel
theorem dX6_isLink_6 : decode cX6_isLink 6 = .ok (.iconst 1, 1) := by decide +kernel
theorem dX6_isLink_7 : decode cX6_isLink 7 = .ok (.iaload, 1) := by decide +kernel
theorem dX6_isLink_8 : decode cX6_isLink 8 = .ok (.iconst 1, 1) := by decide +kernel
theorem dX6_isLink_9 : decode cX6_isLink 9 = .ok (.isub, 1) := by decide +kernel
theorem dX6_isLink_10 : decode cX6_isLink 10 = .ok (.invokestatic 62, 3) := by decide +kernel
theorem dX6_isLink_13 : decode cX6_isLink 13 = .ok (.ireturn, 1) := by decide +kernel
theorem dX6_of_0 : decode cX6_of 0 = .ok (.aload_n 0, 1) := by decide +kernel
theorem dX6_of_1 : decode cX6_of 1 = .ok (.getfield 7, 3) := by decide +kernel
theorem dX6_of_4 : decode cX6_of 4 = .ok (.iconst 3, 1) := by decide +kernel
theorem dX6_of_5 : decode cX6_of 5 = .ok (.iconst 5, 1) := by decide +kernel
theorem dX6_of_6 : decode cX6_of 6 = .ok (.iload_n 1, 1) := by decide +kernel
theorem dX6_of_7 : decode cX6_of 7 = .ok (.imul, 1) := by decide +kernel
theorem dX6_of_8 : decode cX6_of 8 = .ok (.iadd, 1) := by decide +kernel
theorem dX6_of_9 : decode cX6_of 9 = .ok (.iload_n 2, 1) := by decide +kernel
theorem dX6_of_10 : decode cX6_of 10 = .ok (.iadd, 1) := by decide +kernel
theorem dX6_of_11 : decode cX6_of 11 = .ok (.iaload, 1) := by decide +kernel
theorem dX6_of_12 : decode cX6_of 12 = .ok (.ireturn, 1) := by decide +kernel
theorem dX6_record_0 : decode cX6_record 0 = .ok (.aload_n 0, 1) := by decide +kernel
theorem dX6_record_1 : decode cX6_record 1 = .ok (.getfield 66, 3) := by decide +kernel
theorem dX6_record_4 : decode cX6_record 4 = .ok (.bipush 8, 2) := by decide +kernel
theorem dX6_record_6 : decode cX6_record 6 = .ok (.if_icmp .ne 43, 3) := by decide +kernel
theorem dX6_record_9 : decode cX6_record 9 = .ok (.iconst 0, 1) := by decide +kernel
theorem dX6_record_10 : decode cX6_record 10 = .ok (.istore_n 2, 1) := by decide +kernel
theorem dX6_record_11 : decode cX6_record 11 = .ok (.iload_n 2, 1) := by decide +kernel
theorem dX6_record_12 : decode cX6_record 12 = .ok (.sipush 651, 3) := by decide +kernel
theorem dX6_record_15 : decode cX6_record 15 = .ok (.if_icmp .ge 24, 3) := by decide +kernel
theorem dX6_record_18 : decode cX6_record 18 = .ok (.aload_n 0, 1) := by decide +kernel
theorem dX6_record_19 : decode cX6_record 19 = .ok (.getfield 13, 3) := by decide +kernel
theorem dX6_record_22 : decode cX6_record 22 = .ok (.iload_n 2, 1) := by decide +kernel
theorem dX6_record_23 : decode cX6_record 23 = .ok (.aload_n 0, 1) := by decide +kernel
theorem dX6_record_24 : decode cX6_record 24 = .ok (.getfield 13, 3) := by decide +kernel
theorem dX6_record_27 : decode cX6_record 27 = .ok (.iload_n 2, 1) := by decide +kernel
theorem dX6_record_28 : decode cX6_record 28 = .ok (.bipush 93, 2) := by decide +kernel
theorem dX6_record_30 : decode cX6_record 30 = .ok (.iadd, 1) := by decide +kernel
theorem dX6_record_31 : decode cX6_record 31 = .ok (.iaload, 1) := by decide +kernel
theorem dX6_record_32 : decode cX6_record 32 = .ok (.iastore, 1) := by decide +kernel
theorem dX6_record_33 : decode cX6_record 33 = .ok (.iinc 2 1, 3) := by decide +kernel
theorem dX6_record_36 : decode cX6_record 36 = .ok (.goto (-25), 3) := by decide +kernel
theorem dX6_record_39 : decode cX6_record 39 = .ok (.aload_n 0, 1) := by decide +kernel
theorem dX6_record_40 : decode cX6_record 40 = .ok (.dup, 1) := by decide +kernel
theorem dX6_record_41 : decode cX6_record 41 = .ok (.getfield 66, 3) := by decide +kernel
theorem dX6_record_44 : decode cX6_record 44 = .ok (.iconst 1, 1) := by decide +kernel
theorem dX6_record_45 : decode cX6_record 45 = .ok (.isub, 1) := by decide +kernel
theorem dX6_record_46 : decode cX6_record 46 = .ok (.putfield 66, 3) := by decide +kernel
theorem dX6_record_49 : decode cX6_record 49 = .ok (.iconst 0, 1) := by decide +kernel
theorem dX6_record_50 : decode cX6_record 50 = .ok (.istore_n 2, 1) := by decide +kernel
theorem dX6_record_51 : decode cX6_record 51 = .ok (.iload_n 2, 1) := by decide +kernel
theorem dX6_record_52 : decode cX6_record 52 = .ok (.bipush 93, 2) := by decide +kernel
theorem dX6_record_54 : decode cX6_record 54 = .ok (.if_icmp .ge 26, 3) := by decide +kernel
theorem dX6_record_57 : decode cX6_record 57 = .ok (.aload_n 0, 1) := by decide +kernel
theorem dX6_record_58 : decode cX6_record 58 = .ok (.getfield 13, 3) := by decide +kernel
theorem dX6_record_61 : decode cX6_record 61 = .ok (.bipush 93, 2) := by decide +kernel
theorem dX6_record_63 : decode cX6_record 63 = .ok (.aload_n 0, 1) := by decide +kernel
theorem dX6_record_64 : decode cX6_record 64 = .ok (.getfield 66, 3) := by decide +kernel
theorem dX6_record_67 : decode cX6_record 67 = .ok (.imul, 1) := by decide +kernel
theorem dX6_record_68 : decode cX6_record 68 = .ok (.iload_n 2, 1) := by decide +kernel
theorem dX6_record_69 : decode cX6_record 69 = .ok (.iadd, 1) := by decide +kernel
theorem dX6_record_70 : decode cX6_record 70 = .ok (.aload_n 1, 1) := by decide +kernel
theorem dX6_record_71 : decode cX6_record 71 = .ok (.iload_n 2, 1) := by decide +kernel
theorem dX6_record_72 : decode cX6_record 72 = .ok (.iaload, 1) := by decide +kernel
theorem dX6_record_73 : decode cX6_record 73 = .ok (.iastore, 1) := by decide +kernel
theorem dX6_record_74 : decode cX6_record 74 = .ok (.iinc 2 1, 3) := by decide +kernel
theorem dX6_record_77 : decode cX6_record 77 = .ok (.goto (-26), 3) := by decide +kernel
theorem dX6_record_80 : decode cX6_record 80 = .ok (.aload_n 0, 1) := by decide +kernel
theorem dX6_record_81 : decode cX6_record 81 = .ok (.dup, 1) := by decide +kernel
theorem dX6_record_82 : decode cX6_record 82 = .ok (.getfield 66, 3) := by decide +kernel
theorem dX6_record_85 : decode cX6_record 85 = .ok (.iconst 1, 1) := by decide +kernel
theorem dX6_record_86 : decode cX6_record 86 = .ok (.iadd, 1) := by decide +kernel
theorem dX6_record_87 : decode cX6_record 87 = .ok (.putfield 66, 3) := by decide +kernel
theorem dX6_record_90 : decode cX6_record 90 = .ok (.return_, 1) := by decide +kernel
theorem dX6_remember_0 : decode cX6_remember 0 = .ok (.aload_n 0, 1) := by decide +kernel
theorem dX6_remember_1 : decode cX6_remember 1 = .ok (.aload_n 0, 1) := by decide +kernel
theorem dX6_remember_2 : decode cX6_remember 2 = .ok (.getfield 7, 3) := by decide +kernel
theorem dX6_remember_5 : decode cX6_remember 5 = .ok (.invokevirtual 70, 3) := by decide +kernel
theorem dX6_remember_8 : decode cX6_remember 8 = .ok (.return_, 1) := by decide +kernel
theorem dX6_linkOf_0 : decode cX6_linkOf 0 = .ok (.iconst 0, 1) := by decide +kernel
theorem dX6_linkOf_1 : decode cX6_linkOf 1 = .ok (.istore_n 3, 1) := by decide +kernel
theorem dX6_linkOf_2 : decode cX6_linkOf 2 = .ok (.iload_n 3, 1) := by decide +kernel
theorem dX6_linkOf_3 : decode cX6_linkOf 3 = .ok (.aload_n 0, 1) := by decide +kernel
theorem dX6_linkOf_4 : decode cX6_linkOf 4 = .ok (.getfield 7, 3) := by decide +kernel
theorem dX6_linkOf_7 : decode cX6_linkOf 7 = .ok (.iconst 1, 1) := by decide +kernel
theorem dX6_linkOf_8 : decode cX6_linkOf 8 = .ok (.iaload, 1) := by decide +kernel
theorem dX6_linkOf_9 : decode cX6_linkOf 9 = .ok (.if_icmp .ge 51, 3) := by decide +kernel
theorem dX6_linkOf_12 : decode cX6_linkOf 12 = .ok (.aload_n 0, 1) := by decide +kernel
theorem dX6_linkOf_13 : decode cX6_linkOf 13 = .ok (.iload_n 3, 1) := by decide +kernel
theorem dX6_linkOf_14 : decode cX6_linkOf 14 = .ok (.iconst 0, 1) := by decide +kernel
theorem dX6_linkOf_15 : decode cX6_linkOf 15 = .ok (.invokevirtual 74, 3) := by decide +kernel
theorem dX6_linkOf_18 : decode cX6_linkOf 18 = .ok (.iload_n 1, 1) := by decide +kernel
theorem dX6_linkOf_19 : decode cX6_linkOf 19 = .ok (.if_icmp .ne 13, 3) := by decide +kernel
theorem dX6_linkOf_22 : decode cX6_linkOf 22 = .ok (.aload_n 0, 1) := by decide +kernel
theorem dX6_linkOf_23 : decode cX6_linkOf 23 = .ok (.iload_n 3, 1) := by decide +kernel
theorem dX6_linkOf_24 : decode cX6_linkOf 24 = .ok (.iconst 1, 1) := by decide +kernel
theorem dX6_linkOf_25 : decode cX6_linkOf 25 = .ok (.invokevirtual 74, 3) := by decide +kernel
theorem dX6_linkOf_28 : decode cX6_linkOf 28 = .ok (.iload_n 2, 1) := by decide +kernel
theorem dX6_linkOf_29 : decode cX6_linkOf 29 = .ok (.if_icmp .eq 23, 3) := by decide +kernel
theorem dX6_linkOf_32 : decode cX6_linkOf 32 = .ok (.aload_n 0, 1) := by decide +kernel
theorem dX6_linkOf_33 : decode cX6_linkOf 33 = .ok (.iload_n 3, 1) := by decide +kernel
theorem dX6_linkOf_34 : decode cX6_linkOf 34 = .ok (.iconst 0, 1) := by decide +kernel
theorem dX6_linkOf_35 : decode cX6_linkOf 35 = .ok (.invokevirtual 74, 3) := by decide +kernel
theorem dX6_linkOf_38 : decode cX6_linkOf 38 = .ok (.iload_n 2, 1) := by decide +kernel
theorem dX6_linkOf_39 : decode cX6_linkOf 39 = .ok (.if_icmp .ne 15, 3) := by decide +kernel
theorem dX6_linkOf_42 : decode cX6_linkOf 42 = .ok (.aload_n 0, 1) := by decide +kernel
theorem dX6_linkOf_43 : decode cX6_linkOf 43 = .ok (.iload_n 3, 1) := by decide +kernel
theorem dX6_linkOf_44 : decode cX6_linkOf 44 = .ok (.iconst 1, 1) := by decide +kernel
theorem dX6_linkOf_45 : decode cX6_linkOf 45 = .ok (.invokevirtual 74, 3) := by decide +kernel
theorem dX6_linkOf_48 : decode cX6_linkOf 48 = .ok (.iload_n 1, 1) := by decide +kernel
theorem dX6_linkOf_49 : decode cX6_linkOf 49 = .ok (.if_icmp .ne 5, 3) := by decide +kernel
theorem dX6_linkOf_52 : decode cX6_linkOf 52 = .ok (.iload_n 3, 1) := by decide +kernel
theorem dX6_linkOf_53 : decode cX6_linkOf 53 = .ok (.ireturn, 1) := by decide +kernel
theorem dX6_linkOf_54 : decode cX6_linkOf 54 = .ok (.iinc 3 1, 3) := by decide +kernel
theorem dX6_linkOf_57 : decode cX6_linkOf 57 = .ok (.goto (-55), 3) := by decide +kernel
theorem dX6_linkOf_60 : decode cX6_linkOf 60 = .ok (.bipush (-9), 2) := by decide +kernel
theorem dX6_linkOf_62 : decode cX6_linkOf 62 = .ok (.ireturn, 1) := by decide +kernel
theorem dX6_faultOfAdd_0 : decode cX6_faultOfAdd 0 = .ok (.aload_n 0, 1) := by decide +kernel
theorem dX6_faultOfAdd_1 : decode cX6_faultOfAdd 1 = .ok (.iload_n 1, 1) := by decide +kernel
theorem dX6_faultOfAdd_2 : decode cX6_faultOfAdd 2 = .ok (.invokevirtual 78, 3) := by decide +kernel
theorem dX6_faultOfAdd_5 : decode cX6_faultOfAdd 5 = .ok (.ifCond .eq 26, 3) := by decide +kernel
theorem dX6_faultOfAdd_8 : decode cX6_faultOfAdd 8 = .ok (.aload_n 0, 1) := by decide +kernel
theorem dX6_faultOfAdd_9 : decode cX6_faultOfAdd 9 = .ok (.iload_n 2, 1) := by decide +kernel
theorem dX6_faultOfAdd_10 : decode cX6_faultOfAdd 10 = .ok (.invokevirtual 78, 3) := by decide +kernel
theorem dX6_faultOfAdd_13 : decode cX6_faultOfAdd 13 = .ok (.ifCond .eq 18, 3) := by decide +kernel
theorem dX6_faultOfAdd_16 : decode cX6_faultOfAdd 16 = .ok (.iload_n 1, 1) := by decide +kernel
theorem dX6_faultOfAdd_17 : decode cX6_faultOfAdd 17 = .ok (.iload_n 2, 1) := by decide +kernel
theorem dX6_faultOfAdd_18 : decode cX6_faultOfAdd 18 = .ok (.if_icmp .eq 13, 3) := by decide +kernel
theorem dX6_faultOfAdd_21 : decode cX6_faultOfAdd 21 = .ok (.iload_n 3, 1) := by decide +kernel
theorem dX6_faultOfAdd_22 : decode cX6_faultOfAdd 22 = .ok (.iconst 1, 1) := by decide +kernel
theorem dX6_faultOfAdd_23 : decode cX6_faultOfAdd 23 = .ok (.bipush 9, 2) := by decide +kernel
theorem dX6_faultOfAdd_25 : decode cX6_faultOfAdd 25 = .ok (.invokestatic 62, 3) := by decide +kernel
theorem dX6_faultOfAdd_28 : decode cX6_faultOfAdd 28 = .ok (.ifCond .ne 5, 3) := by decide +kernel
theorem dX6_faultOfAdd_31 : decode cX6_faultOfAdd 31 = .ok (.iconst (-1), 1) := by decide +kernel
theorem dX6_faultOfAdd_32 : decode cX6_faultOfAdd 32 = .ok (.ireturn, 1) := by decide +kernel
theorem dX6_faultOfAdd_33 : decode cX6_faultOfAdd 33 = .ok (.aload_n 0, 1) := by decide +kernel
theorem dX6_faultOfAdd_34 : decode cX6_faultOfAdd 34 = .ok (.iload_n 1, 1) := by decide +kernel
theorem dX6_faultOfAdd_35 : decode cX6_faultOfAdd 35 = .ok (.iload_n 2, 1) := by decide +kernel
theorem dX6_faultOfAdd_36 : decode cX6_faultOfAdd 36 = .ok (.invokevirtual 82, 3) := by decide +kernel
theorem dX6_faultOfAdd_39 : decode cX6_faultOfAdd 39 = .ok (.bipush (-9), 2) := by decide +kernel
theorem dX6_faultOfAdd_41 : decode cX6_faultOfAdd 41 = .ok (.if_icmp .eq 6, 3) := by decide +kernel
theorem dX6_faultOfAdd_44 : decode cX6_faultOfAdd 44 = .ok (.bipush (-2), 2) := by decide +kernel
theorem dX6_faultOfAdd_46 : decode cX6_faultOfAdd 46 = .ok (.ireturn, 1) := by decide +kernel
theorem dX6_faultOfAdd_47 : decode cX6_faultOfAdd 47 = .ok (.aload_n 0, 1) := by decide +kernel
theorem dX6_faultOfAdd_48 : decode cX6_faultOfAdd 48 = .ok (.getfield 7, 3) := by decide +kernel
theorem dX6_faultOfAdd_51 : decode cX6_faultOfAdd 51 = .ok (.iconst 1, 1) := by decide +kernel
theorem dX6_faultOfAdd_52 : decode cX6_faultOfAdd 52 = .ok (.iaload, 1) := by decide +kernel
theorem dX6_faultOfAdd_53 : decode cX6_faultOfAdd 53 = .ok (.bipush 18, 2) := by decide +kernel
theorem dX6_faultOfAdd_55 : decode cX6_faultOfAdd 55 = .ok (.if_icmp .ne 8, 3) := by decide +kernel
theorem dX6_faultOfAdd_58 : decode cX6_faultOfAdd 58 = .ok (.bipush (-3), 2) := by decide +kernel
theorem dX6_faultOfAdd_60 : decode cX6_faultOfAdd 60 = .ok (.goto 4, 3) := by decide +kernel
theorem dX6_faultOfAdd_63 : decode cX6_faultOfAdd 63 = .ok (.iconst 0, 1) := by decide +kernel
theorem dX6_faultOfAdd_64 : decode cX6_faultOfAdd 64 = .ok (.ireturn, 1) := by decide +kernel
theorem dX6_append_0 : decode cX6_append 0 = .ok (.iconst 3, 1) := by decide +kernel
theorem dX6_append_1 : decode cX6_append 1 = .ok (.iconst 5, 1) := by decide +kernel
theorem dX6_append_2 : decode cX6_append 2 = .ok (.aload_n 0, 1) := by decide +kernel
theorem dX6_append_3 : decode cX6_append 3 = .ok (.getfield 7, 3) := by decide +kernel
theorem dX6_append_6 : decode cX6_append 6 = .ok (.iconst 1, 1) := by decide +kernel
theorem dX6_append_7 : decode cX6_append 7 = .ok (.iaload, 1) := by decide +kernel
theorem dX6_append_8 : decode cX6_append 8 = .ok (.imul, 1) := by decide +kernel
theorem dX6_append_9 : decode cX6_append 9 = .ok (.iadd, 1) := by decide +kernel
theorem dX6_append_10 : decode cX6_append 10 = .ok (.istore 4, 2) := by decide +kernel
theorem dX6_append_12 : decode cX6_append 12 = .ok (.aload_n 0, 1) := by decide +kernel
theorem dX6_append_13 : decode cX6_append 13 = .ok (.getfield 7, 3) := by decide +kernel
theorem dX6_append_16 : decode cX6_append 16 = .ok (.iload 4, 2) := by decide +kernel
theorem dX6_append_18 : decode cX6_append 18 = .ok (.iload_n 1, 1) := by decide +kernel
theorem dX6_append_19 : decode cX6_append 19 = .ok (.iload_n 2, 1) := by decide +kernel
theorem dX6_append_20 : decode cX6_append 20 = .ok (.if_icmp .ge 7, 3) := by decide +kernel
theorem dX6_append_23 : decode cX6_append 23 = .ok (.iload_n 1, 1) := by decide +kernel
theorem dX6_append_24 : decode cX6_append 24 = .ok (.goto 4, 3) := by decide +kernel
theorem dX6_append_27 : decode cX6_append 27 = .ok (.iload_n 2, 1) := by decide +kernel
theorem dX6_append_28 : decode cX6_append 28 = .ok (.iastore, 1) := by decide +kernel
theorem dX6_append_29 : decode cX6_append 29 = .ok (.aload_n 0, 1) := by decide +kernel
theorem dX6_append_30 : decode cX6_append 30 = .ok (.getfield 7, 3) := by decide +kernel
theorem dX6_append_33 : decode cX6_append 33 = .ok (.iload 4, 2) := by decide +kernel
theorem dX6_append_35 : decode cX6_append 35 = .ok (.iconst 1, 1) := by decide +kernel
theorem dX6_append_36 : decode cX6_append 36 = .ok (.iadd, 1) := by decide +kernel
theorem dX6_append_37 : decode cX6_append 37 = .ok (.iload_n 1, 1) := by decide +kernel
theorem dX6_append_38 : decode cX6_append 38 = .ok (.iload_n 2, 1) := by decide +kernel
theorem dX6_append_39 : decode cX6_append 39 = .ok (.if_icmp .ge 7, 3) := by decide +kernel
theorem dX6_append_42 : decode cX6_append 42 = .ok (.iload_n 2, 1) := by decide +kernel
theorem dX6_append_43 : decode cX6_append 43 = .ok (.goto 4, 3) := by decide +kernel
theorem dX6_append_46 : decode cX6_append 46 = .ok (.iload_n 1, 1) := by decide +kernel
theorem dX6_append_47 : decode cX6_append 47 = .ok (.iastore, 1) := by decide +kernel
theorem dX6_append_48 : decode cX6_append 48 = .ok (.aload_n 0, 1) := by decide +kernel
theorem dX6_append_49 : decode cX6_append 49 = .ok (.getfield 7, 3) := by decide +kernel
theorem dX6_append_52 : decode cX6_append 52 = .ok (.iload 4, 2) := by decide +kernel
theorem dX6_append_54 : decode cX6_append 54 = .ok (.iconst 2, 1) := by decide +kernel
theorem dX6_append_55 : decode cX6_append 55 = .ok (.iadd, 1) := by decide +kernel
theorem dX6_append_56 : decode cX6_append 56 = .ok (.iload_n 3, 1) := by decide +kernel
theorem dX6_append_57 : decode cX6_append 57 = .ok (.iastore, 1) := by decide +kernel
theorem dX6_append_58 : decode cX6_append 58 = .ok (.aload_n 0, 1) := by decide +kernel
theorem dX6_append_59 : decode cX6_append 59 = .ok (.getfield 7, 3) := by decide +kernel
theorem dX6_append_62 : decode cX6_append 62 = .ok (.iload 4, 2) := by decide +kernel
theorem dX6_append_64 : decode cX6_append 64 = .ok (.iconst 3, 1) := by decide +kernel
theorem dX6_append_65 : decode cX6_append 65 = .ok (.iadd, 1) := by decide +kernel
theorem dX6_append_66 : decode cX6_append 66 = .ok (.iconst 1, 1) := by decide +kernel
theorem dX6_append_67 : decode cX6_append 67 = .ok (.iastore, 1) := by decide +kernel
theorem dX6_append_68 : decode cX6_append 68 = .ok (.aload_n 0, 1) := by decide +kernel
theorem dX6_append_69 : decode cX6_append 69 = .ok (.getfield 7, 3) := by decide +kernel
theorem dX6_append_72 : decode cX6_append 72 = .ok (.iload 4, 2) := by decide +kernel
theorem dX6_append_74 : decode cX6_append 74 = .ok (.iconst 4, 1) := by decide +kernel
theorem dX6_append_75 : decode cX6_append 75 = .ok (.iadd, 1) := by decide +kernel
theorem dX6_append_76 : decode cX6_append 76 = .ok (.iconst 1, 1) := by decide +kernel
theorem dX6_append_77 : decode cX6_append 77 = .ok (.iastore, 1) := by decide +kernel
theorem dX6_append_78 : decode cX6_append 78 = .ok (.aload_n 0, 1) := by decide +kernel
theorem dX6_append_79 : decode cX6_append 79 = .ok (.getfield 7, 3) := by decide +kernel
theorem dX6_append_82 : decode cX6_append 82 = .ok (.iconst 1, 1) := by decide +kernel
theorem dX6_append_83 : decode cX6_append 83 = .ok (.dup2, 1) := by decide +kernel
theorem dX6_append_84 : decode cX6_append 84 = .ok (.iaload, 1) := by decide +kernel
theorem dX6_append_85 : decode cX6_append 85 = .ok (.iconst 1, 1) := by decide +kernel
theorem dX6_append_86 : decode cX6_append 86 = .ok (.iadd, 1) := by decide +kernel
theorem dX6_append_87 : decode cX6_append 87 = .ok (.iastore, 1) := by decide +kernel
theorem dX6_append_88 : decode cX6_append 88 = .ok (.return_, 1) := by decide +kernel
theorem dX6_begin_0 : decode cX6_begin 0 = .ok (.iload_n 1, 1) := by decide +kernel
theorem dX6_begin_1 : decode cX6_begin 1 = .ok (.iconst 2, 1) := by decide +kernel
theorem dX6_begin_2 : decode cX6_begin 2 = .ok (.bipush 9, 2) := by decide +kernel
theorem dX6_begin_4 : decode cX6_begin 4 = .ok (.invokestatic 62, 3) := by decide +kernel
theorem dX6_begin_7 : decode cX6_begin 7 = .ok (.ifCond .ne 5, 3) := by decide +kernel
theorem dX6_begin_10 : decode cX6_begin 10 = .ok (.iconst (-1), 1) := by decide +kernel
theorem dX6_begin_11 : decode cX6_begin 11 = .ok (.ireturn, 1) := by decide +kernel
theorem dX6_begin_12 : decode cX6_begin 12 = .ok (.aload_n 0, 1) := by decide +kernel
theorem dX6_begin_13 : decode cX6_begin 13 = .ok (.invokevirtual 85, 3) := by decide +kernel
theorem dX6_begin_16 : decode cX6_begin 16 = .ok (.aload_n 0, 1) := by decide +kernel
theorem dX6_begin_17 : decode cX6_begin 17 = .ok (.getfield 7, 3) := by decide +kernel
theorem dX6_begin_20 : decode cX6_begin 20 = .ok (.iconst 0, 1) := by decide +kernel
theorem dX6_begin_21 : decode cX6_begin 21 = .ok (.iaload, 1) := by decide +kernel
theorem dX6_begin_22 : decode cX6_begin 22 = .ok (.istore_n 2, 1) := by decide +kernel
theorem dX6_begin_23 : decode cX6_begin 23 = .ok (.aload_n 0, 1) := by decide +kernel
theorem dX6_begin_24 : decode cX6_begin 24 = .ok (.getfield 7, 3) := by decide +kernel
theorem dX6_begin_27 : decode cX6_begin 27 = .ok (.iconst 0, 1) := by decide +kernel
theorem dX6_begin_28 : decode cX6_begin 28 = .ok (.iload_n 1, 1) := by decide +kernel
theorem dX6_begin_29 : decode cX6_begin 29 = .ok (.iastore, 1) := by decide +kernel
theorem dX6_begin_30 : decode cX6_begin 30 = .ok (.aload_n 0, 1) := by decide +kernel
theorem dX6_begin_31 : decode cX6_begin 31 = .ok (.getfield 7, 3) := by decide +kernel
theorem dX6_begin_34 : decode cX6_begin 34 = .ok (.iconst 1, 1) := by decide +kernel
theorem dX6_begin_35 : decode cX6_begin 35 = .ok (.iconst 0, 1) := by decide +kernel
theorem dX6_begin_36 : decode cX6_begin 36 = .ok (.iastore, 1) := by decide +kernel
theorem dX6_begin_37 : decode cX6_begin 37 = .ok (.aload_n 0, 1) := by decide +kernel
theorem dX6_begin_38 : decode cX6_begin 38 = .ok (.iconst 1, 1) := by decide +kernel
theorem dX6_begin_39 : decode cX6_begin 39 = .ok (.putfield 88, 3) := by decide +kernel
theorem dX6_begin_42 : decode cX6_begin 42 = .ok (.iload_n 2, 1) := by decide +kernel
theorem dX6_begin_43 : decode cX6_begin 43 = .ok (.ireturn, 1) := by decide +kernel
theorem dX6_add_0 : decode cX6_add 0 = .ok (.aload_n 0, 1) := by decide +kernel
theorem dX6_add_1 : decode cX6_add 1 = .ok (.iload_n 1, 1) := by decide +kernel
theorem dX6_add_2 : decode cX6_add 2 = .ok (.iload_n 2, 1) := by decide +kernel
theorem dX6_add_3 : decode cX6_add 3 = .ok (.iload_n 3, 1) := by decide +kernel
theorem dX6_add_4 : decode cX6_add 4 = .ok (.invokevirtual 92, 3) := by decide +kernel
theorem dX6_add_7 : decode cX6_add 7 = .ok (.istore 4, 2) := by decide +kernel
theorem dX6_add_9 : decode cX6_add 9 = .ok (.iload 4, 2) := by decide +kernel
theorem dX6_add_11 : decode cX6_add 11 = .ok (.ifCond .ge 6, 3) := by decide +kernel
theorem dX6_add_14 : decode cX6_add 14 = .ok (.iload 4, 2) := by decide +kernel
theorem dX6_add_16 : decode cX6_add 16 = .ok (.ireturn, 1) := by decide +kernel
theorem dX6_add_17 : decode cX6_add 17 = .ok (.aload_n 0, 1) := by decide +kernel
theorem dX6_add_18 : decode cX6_add 18 = .ok (.invokevirtual 85, 3) := by decide +kernel
theorem dX6_add_21 : decode cX6_add 21 = .ok (.aload_n 0, 1) := by decide +kernel
theorem dX6_add_22 : decode cX6_add 22 = .ok (.iload_n 1, 1) := by decide +kernel
theorem dX6_add_23 : decode cX6_add 23 = .ok (.iload_n 2, 1) := by decide +kernel
theorem dX6_add_24 : decode cX6_add 24 = .ok (.iload_n 3, 1) := by decide +kernel
theorem dX6_add_25 : decode cX6_add 25 = .ok (.invokevirtual 96, 3) := by decide +kernel
theorem dX6_add_28 : decode cX6_add 28 = .ok (.aload_n 0, 1) := by decide +kernel
theorem dX6_add_29 : decode cX6_add 29 = .ok (.iconst 1, 1) := by decide +kernel
theorem dX6_add_30 : decode cX6_add 30 = .ok (.putfield 88, 3) := by decide +kernel
theorem dX6_add_33 : decode cX6_add 33 = .ok (.aload_n 0, 1) := by decide +kernel
theorem dX6_add_34 : decode cX6_add 34 = .ok (.getfield 7, 3) := by decide +kernel
theorem dX6_add_37 : decode cX6_add 37 = .ok (.iconst 1, 1) := by decide +kernel
theorem dX6_add_38 : decode cX6_add 38 = .ok (.iaload, 1) := by decide +kernel
theorem dX6_add_39 : decode cX6_add 39 = .ok (.iconst 1, 1) := by decide +kernel
theorem dX6_add_40 : decode cX6_add 40 = .ok (.isub, 1) := by decide +kernel
theorem dX6_add_41 : decode cX6_add 41 = .ok (.ireturn, 1) := by decide +kernel
theorem dX6_remove_0 : decode cX6_remove 0 = .ok (.aload_n 0, 1) := by decide +kernel
theorem dX6_remove_1 : decode cX6_remove 1 = .ok (.iload_n 1, 1) := by decide +kernel
theorem dX6_remove_2 : decode cX6_remove 2 = .ok (.invokevirtual 100, 3) := by decide +kernel
theorem dX6_remove_5 : decode cX6_remove 5 = .ok (.ifCond .ne 5, 3) := by decide +kernel
theorem dX6_remove_8 : decode cX6_remove 8 = .ok (.iconst (-1), 1) := by decide +kernel
theorem dX6_remove_9 : decode cX6_remove 9 = .ok (.ireturn, 1) := by decide +kernel
theorem dX6_remove_10 : decode cX6_remove 10 = .ok (.aload_n 0, 1) := by decide +kernel
theorem dX6_remove_11 : decode cX6_remove 11 = .ok (.invokevirtual 85, 3) := by decide +kernel
theorem dX6_remove_14 : decode cX6_remove 14 = .ok (.iconst 3, 1) := by decide +kernel
theorem dX6_remove_15 : decode cX6_remove 15 = .ok (.iconst 5, 1) := by decide +kernel
theorem dX6_remove_16 : decode cX6_remove 16 = .ok (.iload_n 1, 1) := by decide +kernel
theorem dX6_remove_17 : decode cX6_remove 17 = .ok (.imul, 1) := by decide +kernel
theorem dX6_remove_18 : decode cX6_remove 18 = .ok (.iadd, 1) := by decide +kernel
theorem dX6_remove_19 : decode cX6_remove 19 = .ok (.istore_n 2, 1) := by decide +kernel
theorem dX6_remove_20 : decode cX6_remove 20 = .ok (.iload_n 2, 1) := by decide +kernel
theorem dX6_remove_21 : decode cX6_remove 21 = .ok (.iconst 3, 1) := by decide +kernel
theorem dX6_remove_22 : decode cX6_remove 22 = .ok (.iconst 5, 1) := by decide +kernel
theorem dX6_remove_23 : decode cX6_remove 23 = .ok (.aload_n 0, 1) := by decide +kernel
theorem dX6_remove_24 : decode cX6_remove 24 = .ok (.getfield 7, 3) := by decide +kernel
theorem dX6_remove_27 : decode cX6_remove 27 = .ok (.iconst 1, 1) := by decide +kernel
theorem dX6_remove_28 : decode cX6_remove 28 = .ok (.iaload, 1) := by decide +kernel
theorem dX6_remove_29 : decode cX6_remove 29 = .ok (.iconst 1, 1) := by decide +kernel
theorem dX6_remove_30 : decode cX6_remove 30 = .ok (.isub, 1) := by decide +kernel
theorem dX6_remove_31 : decode cX6_remove 31 = .ok (.imul, 1) := by decide +kernel
theorem dX6_remove_32 : decode cX6_remove 32 = .ok (.iadd, 1) := by decide +kernel
theorem dX6_remove_33 : decode cX6_remove 33 = .ok (.if_icmp .ge 23, 3) := by decide +kernel
theorem dX6_remove_36 : decode cX6_remove 36 = .ok (.aload_n 0, 1) := by decide +kernel
theorem dX6_remove_37 : decode cX6_remove 37 = .ok (.getfield 7, 3) := by decide +kernel
theorem dX6_remove_40 : decode cX6_remove 40 = .ok (.iload_n 2, 1) := by decide +kernel
theorem dX6_remove_41 : decode cX6_remove 41 = .ok (.aload_n 0, 1) := by decide +kernel
theorem dX6_remove_42 : decode cX6_remove 42 = .ok (.getfield 7, 3) := by decide +kernel
theorem dX6_remove_45 : decode cX6_remove 45 = .ok (.iload_n 2, 1) := by decide +kernel
theorem dX6_remove_46 : decode cX6_remove 46 = .ok (.iconst 5, 1) := by decide +kernel
theorem dX6_remove_47 : decode cX6_remove 47 = .ok (.iadd, 1) := by decide +kernel
theorem dX6_remove_48 : decode cX6_remove 48 = .ok (.iaload, 1) := by decide +kernel
theorem dX6_remove_49 : decode cX6_remove 49 = .ok (.iastore, 1) := by decide +kernel
theorem dX6_remove_50 : decode cX6_remove 50 = .ok (.iinc 2 1, 3) := by decide +kernel
theorem dX6_remove_53 : decode cX6_remove 53 = .ok (.goto (-33), 3) := by decide +kernel
theorem dX6_remove_56 : decode cX6_remove 56 = .ok (.aload_n 0, 1) := by decide +kernel
theorem dX6_remove_57 : decode cX6_remove 57 = .ok (.getfield 7, 3) := by decide +kernel
theorem dX6_remove_60 : decode cX6_remove 60 = .ok (.iconst 1, 1) := by decide +kernel
theorem dX6_remove_61 : decode cX6_remove 61 = .ok (.dup2, 1) := by decide +kernel
theorem dX6_remove_62 : decode cX6_remove 62 = .ok (.iaload, 1) := by decide +kernel
theorem dX6_remove_63 : decode cX6_remove 63 = .ok (.iconst 1, 1) := by decide +kernel
theorem dX6_remove_64 : decode cX6_remove 64 = .ok (.isub, 1) := by decide +kernel
theorem dX6_remove_65 : decode cX6_remove 65 = .ok (.iastore, 1) := by decide +kernel
theorem dX6_remove_66 : decode cX6_remove 66 = .ok (.aload_n 0, 1) := by decide +kernel
theorem dX6_remove_67 : decode cX6_remove 67 = .ok (.iconst 1, 1) := by decide +kernel
theorem dX6_remove_68 : decode cX6_remove 68 = .ok (.putfield 88, 3) := by decide +kernel
theorem dX6_remove_71 : decode cX6_remove 71 = .ok (.aload_n 0, 1) := by decide +kernel
theorem dX6_remove_72 : decode cX6_remove 72 = .ok (.getfield 7, 3) := by decide +kernel
theorem dX6_remove_75 : decode cX6_remove 75 = .ok (.iconst 1, 1) := by decide +kernel
theorem dX6_remove_76 : decode cX6_remove 76 = .ok (.iaload, 1) := by decide +kernel
theorem dX6_remove_77 : decode cX6_remove 77 = .ok (.ireturn, 1) := by decide +kernel
theorem dX6_change_0 : decode cX6_change 0 = .ok (.aload_n 0, 1) := by decide +kernel
theorem dX6_change_1 : decode cX6_change 1 = .ok (.iload_n 1, 1) := by decide +kernel
theorem dX6_change_2 : decode cX6_change 2 = .ok (.invokevirtual 100, 3) := by decide +kernel
theorem dX6_change_5 : decode cX6_change 5 = .ok (.ifCond .eq 12, 3) := by decide +kernel
theorem dX6_change_8 : decode cX6_change 8 = .ok (.iload_n 3, 1) := by decide +kernel
theorem dX6_change_9 : decode cX6_change 9 = .ok (.iconst 0, 1) := by decide +kernel
theorem dX6_change_10 : decode cX6_change 10 = .ok (.iconst 1, 1) := by decide +kernel
theorem dX6_change_11 : decode cX6_change 11 = .ok (.invokestatic 62, 3) := by decide +kernel
theorem dX6_change_14 : decode cX6_change 14 = .ok (.ifCond .ne 5, 3) := by decide +kernel
theorem dX6_change_17 : decode cX6_change 17 = .ok (.iconst (-1), 1) := by decide +kernel
theorem dX6_change_18 : decode cX6_change 18 = .ok (.ireturn, 1) := by decide +kernel
theorem dX6_change_19 : decode cX6_change 19 = .ok (.aload_n 0, 1) := by decide +kernel
theorem dX6_change_20 : decode cX6_change 20 = .ok (.invokevirtual 85, 3) := by decide +kernel
theorem dX6_change_23 : decode cX6_change 23 = .ok (.aload_n 0, 1) := by decide +kernel
theorem dX6_change_24 : decode cX6_change 24 = .ok (.iload_n 1, 1) := by decide +kernel
theorem dX6_change_25 : decode cX6_change 25 = .ok (.iload_n 2, 1) := by decide +kernel
theorem dX6_change_26 : decode cX6_change 26 = .ok (.invokevirtual 74, 3) := by decide +kernel
theorem dX6_change_29 : decode cX6_change 29 = .ok (.istore 4, 2) := by decide +kernel
theorem dX6_change_31 : decode cX6_change 31 = .ok (.aload_n 0, 1) := by decide +kernel
theorem dX6_change_32 : decode cX6_change 32 = .ok (.getfield 7, 3) := by decide +kernel
theorem dX6_change_35 : decode cX6_change 35 = .ok (.iconst 3, 1) := by decide +kernel
theorem dX6_change_36 : decode cX6_change 36 = .ok (.iconst 5, 1) := by decide +kernel
theorem dX6_change_37 : decode cX6_change 37 = .ok (.iload_n 1, 1) := by decide +kernel
theorem dX6_change_38 : decode cX6_change 38 = .ok (.imul, 1) := by decide +kernel
theorem dX6_change_39 : decode cX6_change 39 = .ok (.iadd, 1) := by decide +kernel
theorem dX6_change_40 : decode cX6_change 40 = .ok (.iload_n 2, 1) := by decide +kernel
theorem dX6_change_41 : decode cX6_change 41 = .ok (.iadd, 1) := by decide +kernel
theorem dX6_change_42 : decode cX6_change 42 = .ok (.iload_n 3, 1) := by decide +kernel
theorem dX6_change_43 : decode cX6_change 43 = .ok (.iastore, 1) := by decide +kernel
theorem dX6_change_44 : decode cX6_change 44 = .ok (.iload 4, 2) := by decide +kernel
theorem dX6_change_46 : decode cX6_change 46 = .ok (.ireturn, 1) := by decide +kernel
theorem dX6_turn_0 : decode cX6_turn 0 = .ok (.aload_n 0, 1) := by decide +kernel
theorem dX6_turn_1 : decode cX6_turn 1 = .ok (.iload_n 1, 1) := by decide +kernel
theorem dX6_turn_2 : decode cX6_turn 2 = .ok (.iconst 3, 1) := by decide +kernel
theorem dX6_turn_3 : decode cX6_turn 3 = .ok (.iload_n 2, 1) := by decide +kernel
theorem dX6_turn_4 : decode cX6_turn 4 = .ok (.invokevirtual 103, 3) := by decide +kernel
theorem dX6_turn_7 : decode cX6_turn 7 = .ok (.ireturn, 1) := by decide +kernel
theorem dX6_know_0 : decode cX6_know 0 = .ok (.aload_n 0, 1) := by decide +kernel
theorem dX6_know_1 : decode cX6_know 1 = .ok (.iload_n 1, 1) := by decide +kernel
theorem dX6_know_2 : decode cX6_know 2 = .ok (.iconst 4, 1) := by decide +kernel
theorem dX6_know_3 : decode cX6_know 3 = .ok (.iload_n 2, 1) := by decide +kernel
theorem dX6_know_4 : decode cX6_know 4 = .ok (.invokevirtual 103, 3) := by decide +kernel
theorem dX6_know_7 : decode cX6_know 7 = .ok (.ireturn, 1) := by decide +kernel
theorem dX6_mend_0 : decode cX6_mend 0 = .ok (.aload_n 0, 1) := by decide +kernel
theorem dX6_mend_1 : decode cX6_mend 1 = .ok (.invokevirtual 85, 3) := by decide +kernel
theorem dX6_mend_4 : decode cX6_mend 4 = .ok (.iconst 0, 1) := by decide +kernel
theorem dX6_mend_5 : decode cX6_mend 5 = .ok (.istore_n 1, 1) := by decide +kernel
theorem dX6_mend_6 : decode cX6_mend 6 = .ok (.iconst 0, 1) := by decide +kernel
theorem dX6_mend_7 : decode cX6_mend 7 = .ok (.istore_n 2, 1) := by decide +kernel
theorem dX6_mend_8 : decode cX6_mend 8 = .ok (.iload_n 2, 1) := by decide +kernel
theorem dX6_mend_9 : decode cX6_mend 9 = .ok (.aload_n 0, 1) := by decide +kernel
theorem dX6_mend_10 : decode cX6_mend 10 = .ok (.getfield 7, 3) := by decide +kernel
theorem dX6_mend_13 : decode cX6_mend 13 = .ok (.iconst 1, 1) := by decide +kernel
theorem dX6_mend_14 : decode cX6_mend 14 = .ok (.iaload, 1) := by decide +kernel
theorem dX6_mend_15 : decode cX6_mend 15 = .ok (.if_icmp .ge 50, 3) := by decide +kernel
theorem dX6_mend_18 : decode cX6_mend 18 = .ok (.iload_n 1, 1) := by decide +kernel
theorem dX6_mend_19 : decode cX6_mend 19 = .ok (.aload_n 0, 1) := by decide +kernel
theorem dX6_mend_20 : decode cX6_mend 20 = .ok (.iload_n 2, 1) := by decide +kernel
theorem dX6_mend_21 : decode cX6_mend 21 = .ok (.iconst 3, 1) := by decide +kernel
theorem dX6_mend_22 : decode cX6_mend 22 = .ok (.invokevirtual 74, 3) := by decide +kernel
theorem dX6_mend_25 : decode cX6_mend 25 = .ok (.aload_n 0, 1) := by decide +kernel
theorem dX6_mend_26 : decode cX6_mend 26 = .ok (.iload_n 2, 1) := by decide +kernel
theorem dX6_mend_27 : decode cX6_mend 27 = .ok (.iconst 4, 1) := by decide +kernel
theorem dX6_mend_28 : decode cX6_mend 28 = .ok (.invokevirtual 74, 3) := by decide +kernel
theorem dX6_mend_31 : decode cX6_mend 31 = .ok (.if_icmp .eq 7, 3) := by decide +kernel
theorem dX6_mend_34 : decode cX6_mend 34 = .ok (.iconst 1, 1) := by decide +kernel
theorem dX6_mend_35 : decode cX6_mend 35 = .ok (.goto 4, 3) := by decide +kernel
theorem dX6_mend_38 : decode cX6_mend 38 = .ok (.iconst 0, 1) := by decide +kernel
theorem dX6_mend_39 : decode cX6_mend 39 = .ok (.iadd, 1) := by decide +kernel
theorem dX6_mend_40 : decode cX6_mend 40 = .ok (.istore_n 1, 1) := by decide +kernel
theorem dX6_mend_41 : decode cX6_mend 41 = .ok (.aload_n 0, 1) := by decide +kernel
theorem dX6_mend_42 : decode cX6_mend 42 = .ok (.getfield 7, 3) := by decide +kernel
theorem dX6_mend_45 : decode cX6_mend 45 = .ok (.iconst 3, 1) := by decide +kernel
theorem dX6_mend_46 : decode cX6_mend 46 = .ok (.iconst 5, 1) := by decide +kernel
theorem dX6_mend_47 : decode cX6_mend 47 = .ok (.iload_n 2, 1) := by decide +kernel
theorem dX6_mend_48 : decode cX6_mend 48 = .ok (.imul, 1) := by decide +kernel
theorem dX6_mend_49 : decode cX6_mend 49 = .ok (.iadd, 1) := by decide +kernel
theorem dX6_mend_50 : decode cX6_mend 50 = .ok (.iconst 4, 1) := by decide +kernel
theorem dX6_mend_51 : decode cX6_mend 51 = .ok (.iadd, 1) := by decide +kernel
theorem dX6_mend_52 : decode cX6_mend 52 = .ok (.aload_n 0, 1) := by decide +kernel
theorem dX6_mend_53 : decode cX6_mend 53 = .ok (.iload_n 2, 1) := by decide +kernel
theorem dX6_mend_54 : decode cX6_mend 54 = .ok (.iconst 3, 1) := by decide +kernel
theorem dX6_mend_55 : decode cX6_mend 55 = .ok (.invokevirtual 74, 3) := by decide +kernel
theorem dX6_mend_58 : decode cX6_mend 58 = .ok (.iastore, 1) := by decide +kernel
theorem dX6_mend_59 : decode cX6_mend 59 = .ok (.iinc 2 1, 3) := by decide +kernel
theorem dX6_mend_62 : decode cX6_mend 62 = .ok (.goto (-54), 3) := by decide +kernel
theorem dX6_mend_65 : decode cX6_mend 65 = .ok (.iload_n 1, 1) := by decide +kernel
theorem dX6_mend_66 : decode cX6_mend 66 = .ok (.ireturn, 1) := by decide +kernel
theorem dX6_mendByLetter_0 : decode cX6_mendByLetter 0 = .ok (.aload_n 0, 1) := by decide +kernel
theorem dX6_mendByLetter_1 : decode cX6_mendByLetter 1 = .ok (.getfield 106, 3) := by decide +kernel
theorem dX6_mendByLetter_4 : decode cX6_mendByLetter 4 = .ok (.ifCond .eq 10, 3) := by decide +kernel
theorem dX6_mendByLetter_7 : decode cX6_mendByLetter 7 = .ok (.aload_n 0, 1) := by decide +kernel
theorem dX6_mendByLetter_8 : decode cX6_mendByLetter 8 = .ok (.getfield 88, 3) := by decide +kernel
theorem dX6_mendByLetter_11 : decode cX6_mendByLetter 11 = .ok (.ifCond .eq 6, 3) := by decide +kernel
theorem dX6_mendByLetter_14 : decode cX6_mendByLetter 14 = .ok (.bipush (-2), 2) := by decide +kernel
theorem dX6_mendByLetter_16 : decode cX6_mendByLetter 16 = .ok (.ireturn, 1) := by decide +kernel
theorem dX6_mendByLetter_17 : decode cX6_mendByLetter 17 = .ok (.aload_n 0, 1) := by decide +kernel
theorem dX6_mendByLetter_18 : decode cX6_mendByLetter 18 = .ok (.invokevirtual 85, 3) := by decide +kernel
theorem dX6_mendByLetter_21 : decode cX6_mendByLetter 21 = .ok (.iconst 0, 1) := by decide +kernel
theorem dX6_mendByLetter_22 : decode cX6_mendByLetter 22 = .ok (.istore_n 1, 1) := by decide +kernel
theorem dX6_mendByLetter_23 : decode cX6_mendByLetter 23 = .ok (.iconst 0, 1) := by decide +kernel
theorem dX6_mendByLetter_24 : decode cX6_mendByLetter 24 = .ok (.istore_n 2, 1) := by decide +kernel
theorem dX6_mendByLetter_25 : decode cX6_mendByLetter 25 = .ok (.iload_n 2, 1) := by decide +kernel
theorem dX6_mendByLetter_26 : decode cX6_mendByLetter 26 = .ok (.aload_n 0, 1) := by decide +kernel
theorem dX6_mendByLetter_27 : decode cX6_mendByLetter 27 = .ok (.getfield 109, 3) := by decide +kernel
theorem dX6_mendByLetter_30 : decode cX6_mendByLetter 30 = .ok (.if_icmp .ge 41, 3) := by decide +kernel
theorem dX6_mendByLetter_33 : decode cX6_mendByLetter 33 = .ok (.iload_n 1, 1) := by decide +kernel
theorem dX6_mendByLetter_34 : decode cX6_mendByLetter 34 = .ok (.aload_n 0, 1) := by decide +kernel
theorem dX6_mendByLetter_35 : decode cX6_mendByLetter 35 = .ok (.aload_n 0, 1) := by decide +kernel
theorem dX6_mendByLetter_36 : decode cX6_mendByLetter 36 = .ok (.getfield 38, 3) := by decide +kernel
theorem dX6_mendByLetter_39 : decode cX6_mendByLetter 39 = .ok (.iload_n 2, 1) := by decide +kernel
theorem dX6_mendByLetter_40 : decode cX6_mendByLetter 40 = .ok (.iaload, 1) := by decide +kernel
theorem dX6_mendByLetter_41 : decode cX6_mendByLetter 41 = .ok (.iconst 4, 1) := by decide +kernel
theorem dX6_mendByLetter_42 : decode cX6_mendByLetter 42 = .ok (.invokevirtual 74, 3) := by decide +kernel
theorem dX6_mendByLetter_45 : decode cX6_mendByLetter 45 = .ok (.iadd, 1) := by decide +kernel
theorem dX6_mendByLetter_46 : decode cX6_mendByLetter 46 = .ok (.istore_n 1, 1) := by decide +kernel
theorem dX6_mendByLetter_47 : decode cX6_mendByLetter 47 = .ok (.aload_n 0, 1) := by decide +kernel
theorem dX6_mendByLetter_48 : decode cX6_mendByLetter 48 = .ok (.getfield 7, 3) := by decide +kernel
theorem dX6_mendByLetter_51 : decode cX6_mendByLetter 51 = .ok (.iconst 3, 1) := by decide +kernel
theorem dX6_mendByLetter_52 : decode cX6_mendByLetter 52 = .ok (.iconst 5, 1) := by decide +kernel
theorem dX6_mendByLetter_53 : decode cX6_mendByLetter 53 = .ok (.aload_n 0, 1) := by decide +kernel
theorem dX6_mendByLetter_54 : decode cX6_mendByLetter 54 = .ok (.getfield 38, 3) := by decide +kernel
theorem dX6_mendByLetter_57 : decode cX6_mendByLetter 57 = .ok (.iload_n 2, 1) := by decide +kernel
theorem dX6_mendByLetter_58 : decode cX6_mendByLetter 58 = .ok (.iaload, 1) := by decide +kernel
theorem dX6_mendByLetter_59 : decode cX6_mendByLetter 59 = .ok (.imul, 1) := by decide +kernel
theorem dX6_mendByLetter_60 : decode cX6_mendByLetter 60 = .ok (.iadd, 1) := by decide +kernel
theorem dX6_mendByLetter_61 : decode cX6_mendByLetter 61 = .ok (.iconst 4, 1) := by decide +kernel
theorem dX6_mendByLetter_62 : decode cX6_mendByLetter 62 = .ok (.iadd, 1) := by decide +kernel
theorem dX6_mendByLetter_63 : decode cX6_mendByLetter 63 = .ok (.iconst 0, 1) := by decide +kernel
theorem dX6_mendByLetter_64 : decode cX6_mendByLetter 64 = .ok (.iastore, 1) := by decide +kernel
theorem dX6_mendByLetter_65 : decode cX6_mendByLetter 65 = .ok (.iinc 2 1, 3) := by decide +kernel
theorem dX6_mendByLetter_68 : decode cX6_mendByLetter 68 = .ok (.goto (-43), 3) := by decide +kernel
theorem dX6_mendByLetter_71 : decode cX6_mendByLetter 71 = .ok (.iload_n 1, 1) := by decide +kernel
theorem dX6_mendByLetter_72 : decode cX6_mendByLetter 72 = .ok (.ireturn, 1) := by decide +kernel
theorem dX6_setRoom_0 : decode cX6_setRoom 0 = .ok (.iload_n 1, 1) := by decide +kernel
theorem dX6_setRoom_1 : decode cX6_setRoom 1 = .ok (.iconst 0, 1) := by decide +kernel
theorem dX6_setRoom_2 : decode cX6_setRoom 2 = .ok (.bipush 18, 2) := by decide +kernel
theorem dX6_setRoom_4 : decode cX6_setRoom 4 = .ok (.invokestatic 62, 3) := by decide +kernel
theorem dX6_setRoom_7 : decode cX6_setRoom 7 = .ok (.ifCond .ne 5, 3) := by decide +kernel
theorem dX6_setRoom_10 : decode cX6_setRoom 10 = .ok (.iconst (-1), 1) := by decide +kernel
theorem dX6_setRoom_11 : decode cX6_setRoom 11 = .ok (.ireturn, 1) := by decide +kernel
theorem dX6_setRoom_12 : decode cX6_setRoom 12 = .ok (.aload_n 0, 1) := by decide +kernel
theorem dX6_setRoom_13 : decode cX6_setRoom 13 = .ok (.invokevirtual 85, 3) := by decide +kernel
theorem dX6_setRoom_16 : decode cX6_setRoom 16 = .ok (.aload_n 0, 1) := by decide +kernel
theorem dX6_setRoom_17 : decode cX6_setRoom 17 = .ok (.getfield 7, 3) := by decide +kernel
theorem dX6_setRoom_20 : decode cX6_setRoom 20 = .ok (.iconst 2, 1) := by decide +kernel
theorem dX6_setRoom_21 : decode cX6_setRoom 21 = .ok (.iaload, 1) := by decide +kernel
theorem dX6_setRoom_22 : decode cX6_setRoom 22 = .ok (.istore_n 2, 1) := by decide +kernel
theorem dX6_setRoom_23 : decode cX6_setRoom 23 = .ok (.aload_n 0, 1) := by decide +kernel
theorem dX6_setRoom_24 : decode cX6_setRoom 24 = .ok (.getfield 7, 3) := by decide +kernel
theorem dX6_setRoom_27 : decode cX6_setRoom 27 = .ok (.iconst 2, 1) := by decide +kernel
theorem dX6_setRoom_28 : decode cX6_setRoom 28 = .ok (.iload_n 1, 1) := by decide +kernel
theorem dX6_setRoom_29 : decode cX6_setRoom 29 = .ok (.iastore, 1) := by decide +kernel
theorem dX6_setRoom_30 : decode cX6_setRoom 30 = .ok (.iload_n 2, 1) := by decide +kernel
theorem dX6_setRoom_31 : decode cX6_setRoom 31 = .ok (.ireturn, 1) := by decide +kernel
theorem dX6_undo_0 : decode cX6_undo 0 = .ok (.aload_n 0, 1) := by decide +kernel
theorem dX6_undo_1 : decode cX6_undo 1 = .ok (.getfield 66, 3) := by decide +kernel
theorem dX6_undo_4 : decode cX6_undo 4 = .ok (.ifCond .ne 6, 3) := by decide +kernel
theorem dX6_undo_7 : decode cX6_undo 7 = .ok (.bipush (-2), 2) := by decide +kernel
theorem dX6_undo_9 : decode cX6_undo 9 = .ok (.ireturn, 1) := by decide +kernel
theorem dX6_undo_10 : decode cX6_undo 10 = .ok (.aload_n 0, 1) := by decide +kernel
theorem dX6_undo_11 : decode cX6_undo 11 = .ok (.dup, 1) := by decide +kernel
theorem dX6_undo_12 : decode cX6_undo 12 = .ok (.getfield 66, 3) := by decide +kernel
theorem dX6_undo_15 : decode cX6_undo 15 = .ok (.iconst 1, 1) := by decide +kernel
theorem dX6_undo_16 : decode cX6_undo 16 = .ok (.isub, 1) := by decide +kernel
theorem dX6_undo_17 : decode cX6_undo 17 = .ok (.putfield 66, 3) := by decide +kernel
theorem dX6_undo_20 : decode cX6_undo 20 = .ok (.iconst 0, 1) := by decide +kernel
theorem dX6_undo_21 : decode cX6_undo 21 = .ok (.istore_n 1, 1) := by decide +kernel
theorem dX6_undo_22 : decode cX6_undo 22 = .ok (.iload_n 1, 1) := by decide +kernel
theorem dX6_undo_23 : decode cX6_undo 23 = .ok (.bipush 93, 2) := by decide +kernel
theorem dX6_undo_25 : decode cX6_undo 25 = .ok (.if_icmp .ge 29, 3) := by decide +kernel
theorem dX6_undo_28 : decode cX6_undo 28 = .ok (.aload_n 0, 1) := by decide +kernel
theorem dX6_undo_29 : decode cX6_undo 29 = .ok (.getfield 7, 3) := by decide +kernel
theorem dX6_undo_32 : decode cX6_undo 32 = .ok (.iload_n 1, 1) := by decide +kernel
theorem dX6_undo_33 : decode cX6_undo 33 = .ok (.aload_n 0, 1) := by decide +kernel
theorem dX6_undo_34 : decode cX6_undo 34 = .ok (.getfield 13, 3) := by decide +kernel
theorem dX6_undo_37 : decode cX6_undo 37 = .ok (.bipush 93, 2) := by decide +kernel
theorem dX6_undo_39 : decode cX6_undo 39 = .ok (.aload_n 0, 1) := by decide +kernel
theorem dX6_undo_40 : decode cX6_undo 40 = .ok (.getfield 66, 3) := by decide +kernel
theorem dX6_undo_43 : decode cX6_undo 43 = .ok (.imul, 1) := by decide +kernel
theorem dX6_undo_44 : decode cX6_undo 44 = .ok (.iload_n 1, 1) := by decide +kernel
theorem dX6_undo_45 : decode cX6_undo 45 = .ok (.iadd, 1) := by decide +kernel
theorem dX6_undo_46 : decode cX6_undo 46 = .ok (.iaload, 1) := by decide +kernel
theorem dX6_undo_47 : decode cX6_undo 47 = .ok (.iastore, 1) := by decide +kernel
theorem dX6_undo_48 : decode cX6_undo 48 = .ok (.iinc 1 1, 3) := by decide +kernel
theorem dX6_undo_51 : decode cX6_undo 51 = .ok (.goto (-29), 3) := by decide +kernel
theorem dX6_undo_54 : decode cX6_undo 54 = .ok (.aload_n 0, 1) := by decide +kernel
theorem dX6_undo_55 : decode cX6_undo 55 = .ok (.iconst 1, 1) := by decide +kernel
theorem dX6_undo_56 : decode cX6_undo 56 = .ok (.putfield 88, 3) := by decide +kernel
theorem dX6_undo_59 : decode cX6_undo 59 = .ok (.aload_n 0, 1) := by decide +kernel
theorem dX6_undo_60 : decode cX6_undo 60 = .ok (.getfield 66, 3) := by decide +kernel
theorem dX6_undo_63 : decode cX6_undo 63 = .ok (.ireturn, 1) := by decide +kernel
theorem dX6_otherEnd_0 : decode cX6_otherEnd 0 = .ok (.aload_n 0, 1) := by decide +kernel
theorem dX6_otherEnd_1 : decode cX6_otherEnd 1 = .ok (.iload_n 1, 1) := by decide +kernel
theorem dX6_otherEnd_2 : decode cX6_otherEnd 2 = .ok (.iconst 0, 1) := by decide +kernel
theorem dX6_otherEnd_3 : decode cX6_otherEnd 3 = .ok (.invokevirtual 74, 3) := by decide +kernel
theorem dX6_otherEnd_6 : decode cX6_otherEnd 6 = .ok (.iload_n 2, 1) := by decide +kernel
theorem dX6_otherEnd_7 : decode cX6_otherEnd 7 = .ok (.if_icmp .ne 12, 3) := by decide +kernel
theorem dX6_otherEnd_10 : decode cX6_otherEnd 10 = .ok (.aload_n 0, 1) := by decide +kernel
theorem dX6_otherEnd_11 : decode cX6_otherEnd 11 = .ok (.iload_n 1, 1) := by decide +kernel
theorem dX6_otherEnd_12 : decode cX6_otherEnd 12 = .ok (.iconst 1, 1) := by decide +kernel
theorem dX6_otherEnd_13 : decode cX6_otherEnd 13 = .ok (.invokevirtual 74, 3) := by decide +kernel
theorem dX6_otherEnd_16 : decode cX6_otherEnd 16 = .ok (.goto 24, 3) := by decide +kernel
theorem dX6_otherEnd_19 : decode cX6_otherEnd 19 = .ok (.aload_n 0, 1) := by decide +kernel
theorem dX6_otherEnd_20 : decode cX6_otherEnd 20 = .ok (.iload_n 1, 1) := by decide +kernel
theorem dX6_otherEnd_21 : decode cX6_otherEnd 21 = .ok (.iconst 1, 1) := by decide +kernel
theorem dX6_otherEnd_22 : decode cX6_otherEnd 22 = .ok (.invokevirtual 74, 3) := by decide +kernel
theorem dX6_otherEnd_25 : decode cX6_otherEnd 25 = .ok (.iload_n 2, 1) := by decide +kernel
theorem dX6_otherEnd_26 : decode cX6_otherEnd 26 = .ok (.if_icmp .ne 12, 3) := by decide +kernel
theorem dX6_otherEnd_29 : decode cX6_otherEnd 29 = .ok (.aload_n 0, 1) := by decide +kernel
theorem dX6_otherEnd_30 : decode cX6_otherEnd 30 = .ok (.iload_n 1, 1) := by decide +kernel
theorem dX6_otherEnd_31 : decode cX6_otherEnd 31 = .ok (.iconst 0, 1) := by decide +kernel
theorem dX6_otherEnd_32 : decode cX6_otherEnd 32 = .ok (.invokevirtual 74, 3) := by decide +kernel
theorem dX6_otherEnd_35 : decode cX6_otherEnd 35 = .ok (.goto 5, 3) := by decide +kernel
theorem dX6_otherEnd_38 : decode cX6_otherEnd 38 = .ok (.bipush (-9), 2) := by decide +kernel
theorem dX6_otherEnd_40 : decode cX6_otherEnd 40 = .ok (.ireturn, 1) := by decide +kernel
theorem dX6_layLeast_0 : decode cX6_layLeast 0 = .ok (.iconst 0, 1) := by decide +kernel
theorem dX6_layLeast_1 : decode cX6_layLeast 1 = .ok (.istore_n 2, 1) := by decide +kernel
theorem dX6_layLeast_2 : decode cX6_layLeast 2 = .ok (.iload_n 2, 1) := by decide +kernel
theorem dX6_layLeast_3 : decode cX6_layLeast 3 = .ok (.bipush 9, 2) := by decide +kernel
theorem dX6_layLeast_5 : decode cX6_layLeast 5 = .ok (.if_icmp .ge 26, 3) := by decide +kernel
theorem dX6_layLeast_8 : decode cX6_layLeast 8 = .ok (.aload_n 0, 1) := by decide +kernel
theorem dX6_layLeast_9 : decode cX6_layLeast 9 = .ok (.getfield 26, 3) := by decide +kernel
theorem dX6_layLeast_12 : decode cX6_layLeast 12 = .ok (.iload_n 2, 1) := by decide +kernel
theorem dX6_layLeast_13 : decode cX6_layLeast 13 = .ok (.iload_n 2, 1) := by decide +kernel
theorem dX6_layLeast_14 : decode cX6_layLeast 14 = .ok (.iload_n 1, 1) := by decide +kernel
theorem dX6_layLeast_15 : decode cX6_layLeast 15 = .ok (.if_icmp .ne 7, 3) := by decide +kernel
theorem dX6_layLeast_18 : decode cX6_layLeast 18 = .ok (.iconst 0, 1) := by decide +kernel
theorem dX6_layLeast_19 : decode cX6_layLeast 19 = .ok (.goto 5, 3) := by decide +kernel
theorem dX6_layLeast_22 : decode cX6_layLeast 22 = .ok (.ldc 112, 2) := by decide +kernel
theorem dX6_layLeast_24 : decode cX6_layLeast 24 = .ok (.iastore, 1) := by decide +kernel
theorem dX6_layLeast_25 : decode cX6_layLeast 25 = .ok (.iinc 2 1, 3) := by decide +kernel
theorem dX6_layLeast_28 : decode cX6_layLeast 28 = .ok (.goto (-26), 3) := by decide +kernel
theorem dX6_layLeast_31 : decode cX6_layLeast 31 = .ok (.iconst 0, 1) := by decide +kernel
theorem dX6_layLeast_32 : decode cX6_layLeast 32 = .ok (.istore_n 2, 1) := by decide +kernel
theorem dX6_layLeast_33 : decode cX6_layLeast 33 = .ok (.iload_n 2, 1) := by decide +kernel
theorem dX6_layLeast_34 : decode cX6_layLeast 34 = .ok (.bipush 9, 2) := by decide +kernel
theorem dX6_layLeast_36 : decode cX6_layLeast 36 = .ok (.if_icmp .ge 159, 3) := by decide +kernel
theorem dX6_layLeast_39 : decode cX6_layLeast 39 = .ok (.iconst 0, 1) := by decide +kernel
theorem dX6_layLeast_40 : decode cX6_layLeast 40 = .ok (.istore_n 3, 1) := by decide +kernel
theorem dX6_layLeast_41 : decode cX6_layLeast 41 = .ok (.iload_n 3, 1) := by decide +kernel
theorem dX6_layLeast_42 : decode cX6_layLeast 42 = .ok (.aload_n 0, 1) := by decide +kernel
theorem dX6_layLeast_43 : decode cX6_layLeast 43 = .ok (.getfield 7, 3) := by decide +kernel
theorem dX6_layLeast_46 : decode cX6_layLeast 46 = .ok (.iconst 1, 1) := by decide +kernel
theorem dX6_layLeast_47 : decode cX6_layLeast 47 = .ok (.iaload, 1) := by decide +kernel
theorem dX6_layLeast_48 : decode cX6_layLeast 48 = .ok (.if_icmp .ge 141, 3) := by decide +kernel
theorem dX6_layLeast_51 : decode cX6_layLeast 51 = .ok (.aload_n 0, 1) := by decide +kernel
theorem dX6_layLeast_52 : decode cX6_layLeast 52 = .ok (.getfield 22, 3) := by decide +kernel
theorem dX6_layLeast_55 : decode cX6_layLeast 55 = .ok (.iload_n 3, 1) := by decide +kernel
theorem dX6_layLeast_56 : decode cX6_layLeast 56 = .ok (.baload, 1) := by decide +kernel
theorem dX6_layLeast_57 : decode cX6_layLeast 57 = .ok (.ifCond .eq 126, 3) := by decide +kernel
theorem dX6_layLeast_60 : decode cX6_layLeast 60 = .ok (.bipush 16, 2) := by decide +kernel
theorem dX6_layLeast_62 : decode cX6_layLeast 62 = .ok (.aload_n 0, 1) := by decide +kernel
theorem dX6_layLeast_63 : decode cX6_layLeast 63 = .ok (.iload_n 3, 1) := by decide +kernel
theorem dX6_layLeast_64 : decode cX6_layLeast 64 = .ok (.iconst 2, 1) := by decide +kernel
theorem dX6_layLeast_65 : decode cX6_layLeast 65 = .ok (.invokevirtual 74, 3) := by decide +kernel
theorem dX6_layLeast_68 : decode cX6_layLeast 68 = .ok (.imul, 1) := by decide +kernel
theorem dX6_layLeast_69 : decode cX6_layLeast 69 = .ok (.iconst 1, 1) := by decide +kernel
theorem dX6_layLeast_70 : decode cX6_layLeast 70 = .ok (.iadd, 1) := by decide +kernel
theorem dX6_layLeast_71 : decode cX6_layLeast 71 = .ok (.istore 4, 2) := by decide +kernel
theorem dX6_layLeast_73 : decode cX6_layLeast 73 = .ok (.aload_n 0, 1) := by decide +kernel
theorem dX6_layLeast_74 : decode cX6_layLeast 74 = .ok (.iload_n 3, 1) := by decide +kernel
theorem dX6_layLeast_75 : decode cX6_layLeast 75 = .ok (.iconst 0, 1) := by decide +kernel
theorem dX6_layLeast_76 : decode cX6_layLeast 76 = .ok (.invokevirtual 74, 3) := by decide +kernel
theorem dX6_layLeast_79 : decode cX6_layLeast 79 = .ok (.istore 5, 2) := by decide +kernel
theorem dX6_layLeast_81 : decode cX6_layLeast 81 = .ok (.aload_n 0, 1) := by decide +kernel
theorem dX6_layLeast_82 : decode cX6_layLeast 82 = .ok (.iload_n 3, 1) := by decide +kernel
theorem dX6_layLeast_83 : decode cX6_layLeast 83 = .ok (.iconst 1, 1) := by decide +kernel
theorem dX6_layLeast_84 : decode cX6_layLeast 84 = .ok (.invokevirtual 74, 3) := by decide +kernel
theorem dX6_layLeast_87 : decode cX6_layLeast 87 = .ok (.istore 6, 2) := by decide +kernel
theorem dX6_layLeast_89 : decode cX6_layLeast 89 = .ok (.aload_n 0, 1) := by decide +kernel
theorem dX6_layLeast_90 : decode cX6_layLeast 90 = .ok (.getfield 26, 3) := by decide +kernel
theorem dX6_layLeast_93 : decode cX6_layLeast 93 = .ok (.iload 5, 2) := by decide +kernel
theorem dX6_layLeast_95 : decode cX6_layLeast 95 = .ok (.aload_n 0, 1) := by decide +kernel
theorem dX6_layLeast_96 : decode cX6_layLeast 96 = .ok (.getfield 26, 3) := by decide +kernel
theorem dX6_layLeast_99 : decode cX6_layLeast 99 = .ok (.iload 6, 2) := by decide +kernel
theorem dX6_layLeast_101 : decode cX6_layLeast 101 = .ok (.iaload, 1) := by decide +kernel
theorem dX6_layLeast_102 : decode cX6_layLeast 102 = .ok (.iload 4, 2) := by decide +kernel
theorem dX6_layLeast_104 : decode cX6_layLeast 104 = .ok (.iadd, 1) := by decide +kernel
theorem dX6_layLeast_105 : decode cX6_layLeast 105 = .ok (.aload_n 0, 1) := by decide +kernel
theorem dX6_layLeast_106 : decode cX6_layLeast 106 = .ok (.getfield 26, 3) := by decide +kernel
theorem dX6_layLeast_109 : decode cX6_layLeast 109 = .ok (.iload 5, 2) := by decide +kernel
theorem dX6_layLeast_111 : decode cX6_layLeast 111 = .ok (.iaload, 1) := by decide +kernel
theorem dX6_layLeast_112 : decode cX6_layLeast 112 = .ok (.if_icmp .ge 16, 3) := by decide +kernel
theorem dX6_layLeast_115 : decode cX6_layLeast 115 = .ok (.aload_n 0, 1) := by decide +kernel
theorem dX6_layLeast_116 : decode cX6_layLeast 116 = .ok (.getfield 26, 3) := by decide +kernel
theorem dX6_layLeast_119 : decode cX6_layLeast 119 = .ok (.iload 6, 2) := by decide +kernel
theorem dX6_layLeast_121 : decode cX6_layLeast 121 = .ok (.iaload, 1) := by decide +kernel
theorem dX6_layLeast_122 : decode cX6_layLeast 122 = .ok (.iload 4, 2) := by decide +kernel
theorem dX6_layLeast_124 : decode cX6_layLeast 124 = .ok (.iadd, 1) := by decide +kernel
theorem dX6_layLeast_125 : decode cX6_layLeast 125 = .ok (.goto 10, 3) := by decide +kernel
theorem dX6_layLeast_128 : decode cX6_layLeast 128 = .ok (.aload_n 0, 1) := by decide +kernel
theorem dX6_layLeast_129 : decode cX6_layLeast 129 = .ok (.getfield 26, 3) := by decide +kernel
theorem dX6_layLeast_132 : decode cX6_layLeast 132 = .ok (.iload 5, 2) := by decide +kernel
theorem dX6_layLeast_134 : decode cX6_layLeast 134 = .ok (.iaload, 1) := by decide +kernel
theorem dX6_layLeast_135 : decode cX6_layLeast 135 = .ok (.iastore, 1) := by decide +kernel
theorem dX6_layLeast_136 : decode cX6_layLeast 136 = .ok (.aload_n 0, 1) := by decide +kernel
theorem dX6_layLeast_137 : decode cX6_layLeast 137 = .ok (.getfield 26, 3) := by decide +kernel
theorem dX6_layLeast_140 : decode cX6_layLeast 140 = .ok (.iload 6, 2) := by decide +kernel
theorem dX6_layLeast_142 : decode cX6_layLeast 142 = .ok (.aload_n 0, 1) := by decide +kernel
theorem dX6_layLeast_143 : decode cX6_layLeast 143 = .ok (.getfield 26, 3) := by decide +kernel
theorem dX6_layLeast_146 : decode cX6_layLeast 146 = .ok (.iload 5, 2) := by decide +kernel
theorem dX6_layLeast_148 : decode cX6_layLeast 148 = .ok (.iaload, 1) := by decide +kernel
theorem dX6_layLeast_149 : decode cX6_layLeast 149 = .ok (.iload 4, 2) := by decide +kernel
theorem dX6_layLeast_151 : decode cX6_layLeast 151 = .ok (.iadd, 1) := by decide +kernel
theorem dX6_layLeast_152 : decode cX6_layLeast 152 = .ok (.aload_n 0, 1) := by decide +kernel
theorem dX6_layLeast_153 : decode cX6_layLeast 153 = .ok (.getfield 26, 3) := by decide +kernel
theorem dX6_layLeast_156 : decode cX6_layLeast 156 = .ok (.iload 6, 2) := by decide +kernel
theorem dX6_layLeast_158 : decode cX6_layLeast 158 = .ok (.iaload, 1) := by decide +kernel
theorem dX6_layLeast_159 : decode cX6_layLeast 159 = .ok (.if_icmp .ge 16, 3) := by decide +kernel
theorem dX6_layLeast_162 : decode cX6_layLeast 162 = .ok (.aload_n 0, 1) := by decide +kernel
theorem dX6_layLeast_163 : decode cX6_layLeast 163 = .ok (.getfield 26, 3) := by decide +kernel
theorem dX6_layLeast_166 : decode cX6_layLeast 166 = .ok (.iload 5, 2) := by decide +kernel
theorem dX6_layLeast_168 : decode cX6_layLeast 168 = .ok (.iaload, 1) := by decide +kernel
theorem dX6_layLeast_169 : decode cX6_layLeast 169 = .ok (.iload 4, 2) := by decide +kernel
theorem dX6_layLeast_171 : decode cX6_layLeast 171 = .ok (.iadd, 1) := by decide +kernel
theorem dX6_layLeast_172 : decode cX6_layLeast 172 = .ok (.goto 10, 3) := by decide +kernel
theorem dX6_layLeast_175 : decode cX6_layLeast 175 = .ok (.aload_n 0, 1) := by decide +kernel
theorem dX6_layLeast_176 : decode cX6_layLeast 176 = .ok (.getfield 26, 3) := by decide +kernel
theorem dX6_layLeast_179 : decode cX6_layLeast 179 = .ok (.iload 6, 2) := by decide +kernel
theorem dX6_layLeast_181 : decode cX6_layLeast 181 = .ok (.iaload, 1) := by decide +kernel
theorem dX6_layLeast_182 : decode cX6_layLeast 182 = .ok (.iastore, 1) := by decide +kernel
theorem dX6_layLeast_183 : decode cX6_layLeast 183 = .ok (.iinc 3 1, 3) := by decide +kernel
theorem dX6_layLeast_186 : decode cX6_layLeast 186 = .ok (.goto (-145), 3) := by decide +kernel
theorem dX6_layLeast_189 : decode cX6_layLeast 189 = .ok (.iinc 2 1, 3) := by decide +kernel
theorem dX6_layLeast_192 : decode cX6_layLeast 192 = .ok (.goto (-159), 3) := by decide +kernel
theorem dX6_layLeast_195 : decode cX6_layLeast 195 = .ok (.return_, 1) := by decide +kernel
theorem dX6_firstLink_0 : decode cX6_firstLink 0 = .ok (.bipush (-9), 2) := by decide +kernel
theorem dX6_firstLink_2 : decode cX6_firstLink 2 = .ok (.istore_n 2, 1) := by decide +kernel
theorem dX6_firstLink_3 : decode cX6_firstLink 3 = .ok (.iconst 0, 1) := by decide +kernel
theorem dX6_firstLink_4 : decode cX6_firstLink 4 = .ok (.istore_n 3, 1) := by decide +kernel
theorem dX6_firstLink_5 : decode cX6_firstLink 5 = .ok (.iload_n 3, 1) := by decide +kernel
theorem dX6_firstLink_6 : decode cX6_firstLink 6 = .ok (.aload_n 0, 1) := by decide +kernel
theorem dX6_firstLink_7 : decode cX6_firstLink 7 = .ok (.getfield 7, 3) := by decide +kernel
theorem dX6_firstLink_10 : decode cX6_firstLink 10 = .ok (.iconst 1, 1) := by decide +kernel
theorem dX6_firstLink_11 : decode cX6_firstLink 11 = .ok (.iaload, 1) := by decide +kernel
theorem dX6_firstLink_12 : decode cX6_firstLink 12 = .ok (.if_icmp .ge 84, 3) := by decide +kernel
theorem dX6_firstLink_15 : decode cX6_firstLink 15 = .ok (.aload_n 0, 1) := by decide +kernel
theorem dX6_firstLink_16 : decode cX6_firstLink 16 = .ok (.iload_n 3, 1) := by decide +kernel
theorem dX6_firstLink_17 : decode cX6_firstLink 17 = .ok (.iload_n 1, 1) := by decide +kernel
theorem dX6_firstLink_18 : decode cX6_firstLink 18 = .ok (.invokevirtual 113, 3) := by decide +kernel
theorem dX6_firstLink_21 : decode cX6_firstLink 21 = .ok (.istore 4, 2) := by decide +kernel
theorem dX6_firstLink_23 : decode cX6_firstLink 23 = .ok (.aload_n 0, 1) := by decide +kernel
theorem dX6_firstLink_24 : decode cX6_firstLink 24 = .ok (.getfield 22, 3) := by decide +kernel
theorem dX6_firstLink_27 : decode cX6_firstLink 27 = .ok (.iload_n 3, 1) := by decide +kernel
theorem dX6_firstLink_28 : decode cX6_firstLink 28 = .ok (.baload, 1) := by decide +kernel
theorem dX6_firstLink_29 : decode cX6_firstLink 29 = .ok (.ifCond .eq 61, 3) := by decide +kernel
theorem dX6_firstLink_32 : decode cX6_firstLink 32 = .ok (.iload 4, 2) := by decide +kernel
theorem dX6_firstLink_34 : decode cX6_firstLink 34 = .ok (.bipush (-9), 2) := by decide +kernel
theorem dX6_firstLink_36 : decode cX6_firstLink 36 = .ok (.if_icmp .eq 54, 3) := by decide +kernel
theorem dX6_firstLink_39 : decode cX6_firstLink 39 = .ok (.aload_n 0, 1) := by decide +kernel
theorem dX6_firstLink_40 : decode cX6_firstLink 40 = .ok (.getfield 26, 3) := by decide +kernel
theorem dX6_firstLink_43 : decode cX6_firstLink 43 = .ok (.iload 4, 2) := by decide +kernel
theorem dX6_firstLink_45 : decode cX6_firstLink 45 = .ok (.iaload, 1) := by decide +kernel
theorem dX6_firstLink_46 : decode cX6_firstLink 46 = .ok (.bipush 16, 2) := by decide +kernel
theorem dX6_firstLink_48 : decode cX6_firstLink 48 = .ok (.aload_n 0, 1) := by decide +kernel
theorem dX6_firstLink_49 : decode cX6_firstLink 49 = .ok (.iload_n 3, 1) := by decide +kernel
theorem dX6_firstLink_50 : decode cX6_firstLink 50 = .ok (.iconst 2, 1) := by decide +kernel
theorem dX6_firstLink_51 : decode cX6_firstLink 51 = .ok (.invokevirtual 74, 3) := by decide +kernel
theorem dX6_firstLink_54 : decode cX6_firstLink 54 = .ok (.imul, 1) := by decide +kernel
theorem dX6_firstLink_55 : decode cX6_firstLink 55 = .ok (.iadd, 1) := by decide +kernel
theorem dX6_firstLink_56 : decode cX6_firstLink 56 = .ok (.iconst 1, 1) := by decide +kernel
theorem dX6_firstLink_57 : decode cX6_firstLink 57 = .ok (.iadd, 1) := by decide +kernel
theorem dX6_firstLink_58 : decode cX6_firstLink 58 = .ok (.aload_n 0, 1) := by decide +kernel
theorem dX6_firstLink_59 : decode cX6_firstLink 59 = .ok (.getfield 26, 3) := by decide +kernel
theorem dX6_firstLink_62 : decode cX6_firstLink 62 = .ok (.iload_n 1, 1) := by decide +kernel
theorem dX6_firstLink_63 : decode cX6_firstLink 63 = .ok (.iaload, 1) := by decide +kernel
theorem dX6_firstLink_64 : decode cX6_firstLink 64 = .ok (.if_icmp .ne 26, 3) := by decide +kernel
theorem dX6_firstLink_67 : decode cX6_firstLink 67 = .ok (.iload_n 2, 1) := by decide +kernel
theorem dX6_firstLink_68 : decode cX6_firstLink 68 = .ok (.bipush (-9), 2) := by decide +kernel
theorem dX6_firstLink_70 : decode cX6_firstLink 70 = .ok (.if_icmp .eq 14, 3) := by decide +kernel
theorem dX6_firstLink_73 : decode cX6_firstLink 73 = .ok (.iload 4, 2) := by decide +kernel
theorem dX6_firstLink_75 : decode cX6_firstLink 75 = .ok (.aload_n 0, 1) := by decide +kernel
theorem dX6_firstLink_76 : decode cX6_firstLink 76 = .ok (.iload_n 2, 1) := by decide +kernel
theorem dX6_firstLink_77 : decode cX6_firstLink 77 = .ok (.iload_n 1, 1) := by decide +kernel
theorem dX6_firstLink_78 : decode cX6_firstLink 78 = .ok (.invokevirtual 113, 3) := by decide +kernel
theorem dX6_firstLink_81 : decode cX6_firstLink 81 = .ok (.if_icmp .ge 7, 3) := by decide +kernel
theorem dX6_firstLink_84 : decode cX6_firstLink 84 = .ok (.iload_n 3, 1) := by decide +kernel
theorem dX6_firstLink_85 : decode cX6_firstLink 85 = .ok (.goto 4, 3) := by decide +kernel
theorem dX6_firstLink_88 : decode cX6_firstLink 88 = .ok (.iload_n 2, 1) := by decide +kernel
theorem dX6_firstLink_89 : decode cX6_firstLink 89 = .ok (.istore_n 2, 1) := by decide +kernel
theorem dX6_firstLink_90 : decode cX6_firstLink 90 = .ok (.iinc 3 1, 3) := by decide +kernel
theorem dX6_firstLink_93 : decode cX6_firstLink 93 = .ok (.goto (-88), 3) := by decide +kernel
theorem dX6_firstLink_96 : decode cX6_firstLink 96 = .ok (.iload_n 2, 1) := by decide +kernel
theorem dX6_firstLink_97 : decode cX6_firstLink 97 = .ok (.ireturn, 1) := by decide +kernel
theorem dX6_layTrue_0 : decode cX6_layTrue 0 = .ok (.iconst 0, 1) := by decide +kernel
theorem dX6_layTrue_1 : decode cX6_layTrue 1 = .ok (.istore_n 3, 1) := by decide +kernel
theorem dX6_layTrue_2 : decode cX6_layTrue 2 = .ok (.iload_n 3, 1) := by decide +kernel
theorem dX6_layTrue_3 : decode cX6_layTrue 3 = .ok (.aload_n 0, 1) := by decide +kernel
theorem dX6_layTrue_4 : decode cX6_layTrue 4 = .ok (.getfield 7, 3) := by decide +kernel
theorem dX6_layTrue_7 : decode cX6_layTrue 7 = .ok (.iconst 1, 1) := by decide +kernel
theorem dX6_layTrue_8 : decode cX6_layTrue 8 = .ok (.iaload, 1) := by decide +kernel
theorem dX6_layTrue_9 : decode cX6_layTrue 9 = .ok (.if_icmp .ge 35, 3) := by decide +kernel
theorem dX6_layTrue_12 : decode cX6_layTrue 12 = .ok (.aload_n 0, 1) := by decide +kernel
theorem dX6_layTrue_13 : decode cX6_layTrue 13 = .ok (.getfield 22, 3) := by decide +kernel
theorem dX6_layTrue_16 : decode cX6_layTrue 16 = .ok (.iload_n 3, 1) := by decide +kernel
theorem dX6_layTrue_17 : decode cX6_layTrue 17 = .ok (.aload_n 0, 1) := by decide +kernel
theorem dX6_layTrue_18 : decode cX6_layTrue 18 = .ok (.iload_n 3, 1) := by decide +kernel
theorem dX6_layTrue_19 : decode cX6_layTrue 19 = .ok (.iconst 3, 1) := by decide +kernel
theorem dX6_layTrue_20 : decode cX6_layTrue 20 = .ok (.invokevirtual 74, 3) := by decide +kernel
theorem dX6_layTrue_23 : decode cX6_layTrue 23 = .ok (.iconst 1, 1) := by decide +kernel
theorem dX6_layTrue_24 : decode cX6_layTrue 24 = .ok (.if_icmp .ne 12, 3) := by decide +kernel
theorem dX6_layTrue_27 : decode cX6_layTrue 27 = .ok (.iload_n 3, 1) := by decide +kernel
theorem dX6_layTrue_28 : decode cX6_layTrue 28 = .ok (.iload_n 2, 1) := by decide +kernel
theorem dX6_layTrue_29 : decode cX6_layTrue 29 = .ok (.if_icmp .eq 7, 3) := by decide +kernel
theorem dX6_layTrue_32 : decode cX6_layTrue 32 = .ok (.iconst 1, 1) := by decide +kernel
theorem dX6_layTrue_33 : decode cX6_layTrue 33 = .ok (.goto 4, 3) := by decide +kernel
theorem dX6_layTrue_36 : decode cX6_layTrue 36 = .ok (.iconst 0, 1) := by decide +kernel
theorem dX6_layTrue_37 : decode cX6_layTrue 37 = .ok (.bastore, 1) := by decide +kernel
theorem dX6_layTrue_38 : decode cX6_layTrue 38 = .ok (.iinc 3 1, 3) := by decide +kernel
theorem dX6_layTrue_41 : decode cX6_layTrue 41 = .ok (.goto (-39), 3) := by decide +kernel
theorem dX6_layTrue_44 : decode cX6_layTrue 44 = .ok (.aload_n 0, 1) := by decide +kernel
theorem dX6_layTrue_45 : decode cX6_layTrue 45 = .ok (.iload_n 1, 1) := by decide +kernel
theorem dX6_layTrue_46 : decode cX6_layTrue 46 = .ok (.invokevirtual 116, 3) := by decide +kernel
theorem dX6_layTrue_49 : decode cX6_layTrue 49 = .ok (.return_, 1) := by decide +kernel
theorem dX6_parts_0 : decode cX6_parts 0 = .ok (.iconst 0, 1) := by decide +kernel
theorem dX6_parts_1 : decode cX6_parts 1 = .ok (.istore_n 1, 1) := by decide +kernel
theorem dX6_parts_2 : decode cX6_parts 2 = .ok (.iconst 0, 1) := by decide +kernel
theorem dX6_parts_3 : decode cX6_parts 3 = .ok (.istore_n 2, 1) := by decide +kernel
theorem dX6_parts_4 : decode cX6_parts 4 = .ok (.iload_n 2, 1) := by decide +kernel
theorem dX6_parts_5 : decode cX6_parts 5 = .ok (.aload_n 0, 1) := by decide +kernel
theorem dX6_parts_6 : decode cX6_parts 6 = .ok (.getfield 7, 3) := by decide +kernel
theorem dX6_parts_9 : decode cX6_parts 9 = .ok (.iconst 0, 1) := by decide +kernel
theorem dX6_parts_10 : decode cX6_parts 10 = .ok (.iaload, 1) := by decide +kernel
theorem dX6_parts_11 : decode cX6_parts 11 = .ok (.if_icmp .ge 65, 3) := by decide +kernel
theorem dX6_parts_14 : decode cX6_parts 14 = .ok (.aload_n 0, 1) := by decide +kernel
theorem dX6_parts_15 : decode cX6_parts 15 = .ok (.iload_n 2, 1) := by decide +kernel
theorem dX6_parts_16 : decode cX6_parts 16 = .ok (.bipush (-9), 2) := by decide +kernel
theorem dX6_parts_18 : decode cX6_parts 18 = .ok (.invokevirtual 120, 3) := by decide +kernel
theorem dX6_parts_21 : decode cX6_parts 21 = .ok (.iconst 1, 1) := by decide +kernel
theorem dX6_parts_22 : decode cX6_parts 22 = .ok (.istore_n 3, 1) := by decide +kernel
theorem dX6_parts_23 : decode cX6_parts 23 = .ok (.iconst 0, 1) := by decide +kernel
theorem dX6_parts_24 : decode cX6_parts 24 = .ok (.istore 4, 2) := by decide +kernel
theorem dX6_parts_26 : decode cX6_parts 26 = .ok (.iload 4, 2) := by decide +kernel
theorem dX6_parts_28 : decode cX6_parts 28 = .ok (.iload_n 2, 1) := by decide +kernel
theorem dX6_parts_29 : decode cX6_parts 29 = .ok (.if_icmp .ge 29, 3) := by decide +kernel
theorem dX6_parts_32 : decode cX6_parts 32 = .ok (.iload_n 3, 1) := by decide +kernel
theorem dX6_parts_33 : decode cX6_parts 33 = .ok (.aload_n 0, 1) := by decide +kernel
theorem dX6_parts_34 : decode cX6_parts 34 = .ok (.getfield 26, 3) := by decide +kernel
theorem dX6_parts_37 : decode cX6_parts 37 = .ok (.iload 4, 2) := by decide +kernel
theorem dX6_parts_39 : decode cX6_parts 39 = .ok (.iaload, 1) := by decide +kernel
theorem dX6_parts_40 : decode cX6_parts 40 = .ok (.ldc 112, 2) := by decide +kernel
theorem dX6_parts_42 : decode cX6_parts 42 = .ok (.if_icmp .ne 7, 3) := by decide +kernel
theorem dX6_parts_45 : decode cX6_parts 45 = .ok (.iconst 1, 1) := by decide +kernel
theorem dX6_parts_46 : decode cX6_parts 46 = .ok (.goto 4, 3) := by decide +kernel
theorem dX6_parts_49 : decode cX6_parts 49 = .ok (.iconst 0, 1) := by decide +kernel
theorem dX6_parts_50 : decode cX6_parts 50 = .ok (.iand, 1) := by decide +kernel
theorem dX6_parts_51 : decode cX6_parts 51 = .ok (.istore_n 3, 1) := by decide +kernel
theorem dX6_parts_52 : decode cX6_parts 52 = .ok (.iinc 4 1, 3) := by decide +kernel
theorem dX6_parts_55 : decode cX6_parts 55 = .ok (.goto (-29), 3) := by decide +kernel
theorem dX6_parts_58 : decode cX6_parts 58 = .ok (.iload_n 1, 1) := by decide +kernel
theorem dX6_parts_59 : decode cX6_parts 59 = .ok (.iload_n 3, 1) := by decide +kernel
theorem dX6_parts_60 : decode cX6_parts 60 = .ok (.ifCond .eq 7, 3) := by decide +kernel
theorem dX6_parts_63 : decode cX6_parts 63 = .ok (.iconst 1, 1) := by decide +kernel
theorem dX6_parts_64 : decode cX6_parts 64 = .ok (.goto 4, 3) := by decide +kernel
theorem dX6_parts_67 : decode cX6_parts 67 = .ok (.iconst 0, 1) := by decide +kernel
theorem dX6_parts_68 : decode cX6_parts 68 = .ok (.iadd, 1) := by decide +kernel
theorem dX6_parts_69 : decode cX6_parts 69 = .ok (.istore_n 1, 1) := by decide +kernel
theorem dX6_parts_70 : decode cX6_parts 70 = .ok (.iinc 2 1, 3) := by decide +kernel
theorem dX6_parts_73 : decode cX6_parts 73 = .ok (.goto (-69), 3) := by decide +kernel
theorem dX6_parts_76 : decode cX6_parts 76 = .ok (.iload_n 1, 1) := by decide +kernel
theorem dX6_parts_77 : decode cX6_parts 77 = .ok (.ireturn, 1) := by decide +kernel
theorem dX6_pairsWith_0 : decode cX6_pairsWith 0 = .ok (.iconst 0, 1) := by decide +kernel
theorem dX6_pairsWith_1 : decode cX6_pairsWith 1 = .ok (.istore_n 2, 1) := by decide +kernel
theorem dX6_pairsWith_2 : decode cX6_pairsWith 2 = .ok (.iconst 0, 1) := by decide +kernel
theorem dX6_pairsWith_3 : decode cX6_pairsWith 3 = .ok (.istore_n 3, 1) := by decide +kernel
theorem dX6_pairsWith_4 : decode cX6_pairsWith 4 = .ok (.iload_n 3, 1) := by decide +kernel
theorem dX6_pairsWith_5 : decode cX6_pairsWith 5 = .ok (.aload_n 0, 1) := by decide +kernel
theorem dX6_pairsWith_6 : decode cX6_pairsWith 6 = .ok (.getfield 7, 3) := by decide +kernel
theorem dX6_pairsWith_9 : decode cX6_pairsWith 9 = .ok (.iconst 0, 1) := by decide +kernel
theorem dX6_pairsWith_10 : decode cX6_pairsWith 10 = .ok (.iaload, 1) := by decide +kernel
theorem dX6_pairsWith_11 : decode cX6_pairsWith 11 = .ok (.if_icmp .ge 61, 3) := by decide +kernel
theorem dX6_pairsWith_14 : decode cX6_pairsWith 14 = .ok (.aload_n 0, 1) := by decide +kernel
theorem dX6_pairsWith_15 : decode cX6_pairsWith 15 = .ok (.iload_n 3, 1) := by decide +kernel
theorem dX6_pairsWith_16 : decode cX6_pairsWith 16 = .ok (.iload_n 1, 1) := by decide +kernel
theorem dX6_pairsWith_17 : decode cX6_pairsWith 17 = .ok (.invokevirtual 120, 3) := by decide +kernel
theorem dX6_pairsWith_20 : decode cX6_pairsWith 20 = .ok (.iconst 0, 1) := by decide +kernel
theorem dX6_pairsWith_21 : decode cX6_pairsWith 21 = .ok (.istore 4, 2) := by decide +kernel
theorem dX6_pairsWith_23 : decode cX6_pairsWith 23 = .ok (.iload 4, 2) := by decide +kernel
theorem dX6_pairsWith_25 : decode cX6_pairsWith 25 = .ok (.aload_n 0, 1) := by decide +kernel
theorem dX6_pairsWith_26 : decode cX6_pairsWith 26 = .ok (.getfield 7, 3) := by decide +kernel
theorem dX6_pairsWith_29 : decode cX6_pairsWith 29 = .ok (.iconst 0, 1) := by decide +kernel
theorem dX6_pairsWith_30 : decode cX6_pairsWith 30 = .ok (.iaload, 1) := by decide +kernel
theorem dX6_pairsWith_31 : decode cX6_pairsWith 31 = .ok (.if_icmp .ge 35, 3) := by decide +kernel
theorem dX6_pairsWith_34 : decode cX6_pairsWith 34 = .ok (.iload_n 2, 1) := by decide +kernel
theorem dX6_pairsWith_35 : decode cX6_pairsWith 35 = .ok (.iload 4, 2) := by decide +kernel
theorem dX6_pairsWith_37 : decode cX6_pairsWith 37 = .ok (.iload_n 3, 1) := by decide +kernel
theorem dX6_pairsWith_38 : decode cX6_pairsWith 38 = .ok (.if_icmp .eq 19, 3) := by decide +kernel
theorem dX6_pairsWith_41 : decode cX6_pairsWith 41 = .ok (.aload_n 0, 1) := by decide +kernel
theorem dX6_pairsWith_42 : decode cX6_pairsWith 42 = .ok (.getfield 26, 3) := by decide +kernel
theorem dX6_pairsWith_45 : decode cX6_pairsWith 45 = .ok (.iload 4, 2) := by decide +kernel
theorem dX6_pairsWith_47 : decode cX6_pairsWith 47 = .ok (.iaload, 1) := by decide +kernel
theorem dX6_pairsWith_48 : decode cX6_pairsWith 48 = .ok (.ldc 112, 2) := by decide +kernel
theorem dX6_pairsWith_50 : decode cX6_pairsWith 50 = .ok (.if_icmp .ge 7, 3) := by decide +kernel
theorem dX6_pairsWith_53 : decode cX6_pairsWith 53 = .ok (.iconst 1, 1) := by decide +kernel
theorem dX6_pairsWith_54 : decode cX6_pairsWith 54 = .ok (.goto 4, 3) := by decide +kernel
theorem dX6_pairsWith_57 : decode cX6_pairsWith 57 = .ok (.iconst 0, 1) := by decide +kernel
theorem dX6_pairsWith_58 : decode cX6_pairsWith 58 = .ok (.iadd, 1) := by decide +kernel
theorem dX6_pairsWith_59 : decode cX6_pairsWith 59 = .ok (.istore_n 2, 1) := by decide +kernel
theorem dX6_pairsWith_60 : decode cX6_pairsWith 60 = .ok (.iinc 4 1, 3) := by decide +kernel
theorem dX6_pairsWith_63 : decode cX6_pairsWith 63 = .ok (.goto (-40), 3) := by decide +kernel
theorem dX6_pairsWith_66 : decode cX6_pairsWith 66 = .ok (.iinc 3 1, 3) := by decide +kernel
theorem dX6_pairsWith_69 : decode cX6_pairsWith 69 = .ok (.goto (-65), 3) := by decide +kernel
theorem dX6_pairsWith_72 : decode cX6_pairsWith 72 = .ok (.iload_n 2, 1) := by decide +kernel
theorem dX6_pairsWith_73 : decode cX6_pairsWith 73 = .ok (.ireturn, 1) := by decide +kernel
theorem dX6_count_0 : decode cX6_count 0 = .ok (.iconst 0, 1) := by decide +kernel
theorem dX6_count_1 : decode cX6_count 1 = .ok (.istore_n 3, 1) := by decide +kernel
theorem dX6_count_2 : decode cX6_count 2 = .ok (.iconst 0, 1) := by decide +kernel
theorem dX6_count_3 : decode cX6_count 3 = .ok (.istore 4, 2) := by decide +kernel
theorem dX6_count_5 : decode cX6_count 5 = .ok (.iload 4, 2) := by decide +kernel
theorem dX6_count_7 : decode cX6_count 7 = .ok (.aload_n 0, 1) := by decide +kernel
theorem dX6_count_8 : decode cX6_count 8 = .ok (.getfield 7, 3) := by decide +kernel
theorem dX6_count_11 : decode cX6_count 11 = .ok (.iconst 1, 1) := by decide +kernel
theorem dX6_count_12 : decode cX6_count 12 = .ok (.iaload, 1) := by decide +kernel
theorem dX6_count_13 : decode cX6_count 13 = .ok (.if_icmp .ge 28, 3) := by decide +kernel
theorem dX6_count_16 : decode cX6_count 16 = .ok (.iload_n 3, 1) := by decide +kernel
theorem dX6_count_17 : decode cX6_count 17 = .ok (.aload_n 0, 1) := by decide +kernel
theorem dX6_count_18 : decode cX6_count 18 = .ok (.iload 4, 2) := by decide +kernel
theorem dX6_count_20 : decode cX6_count 20 = .ok (.iload_n 1, 1) := by decide +kernel
theorem dX6_count_21 : decode cX6_count 21 = .ok (.invokevirtual 74, 3) := by decide +kernel
theorem dX6_count_24 : decode cX6_count 24 = .ok (.iload_n 2, 1) := by decide +kernel
theorem dX6_count_25 : decode cX6_count 25 = .ok (.if_icmp .ne 7, 3) := by decide +kernel
theorem dX6_count_28 : decode cX6_count 28 = .ok (.iconst 1, 1) := by decide +kernel
theorem dX6_count_29 : decode cX6_count 29 = .ok (.goto 4, 3) := by decide +kernel
theorem dX6_count_32 : decode cX6_count 32 = .ok (.iconst 0, 1) := by decide +kernel
theorem dX6_count_33 : decode cX6_count 33 = .ok (.iadd, 1) := by decide +kernel
theorem dX6_count_34 : decode cX6_count 34 = .ok (.istore_n 3, 1) := by decide +kernel
theorem dX6_count_35 : decode cX6_count 35 = .ok (.iinc 4 1, 3) := by decide +kernel
theorem dX6_count_38 : decode cX6_count 38 = .ok (.goto (-33), 3) := by decide +kernel
theorem dX6_count_41 : decode cX6_count 41 = .ok (.iload_n 3, 1) := by decide +kernel
theorem dX6_count_42 : decode cX6_count 42 = .ok (.ireturn, 1) := by decide +kernel
theorem dX6_wrong_0 : decode cX6_wrong 0 = .ok (.iconst 0, 1) := by decide +kernel
theorem dX6_wrong_1 : decode cX6_wrong 1 = .ok (.istore_n 1, 1) := by decide +kernel
theorem dX6_wrong_2 : decode cX6_wrong 2 = .ok (.iconst 0, 1) := by decide +kernel
theorem dX6_wrong_3 : decode cX6_wrong 3 = .ok (.istore_n 2, 1) := by decide +kernel
theorem dX6_wrong_4 : decode cX6_wrong 4 = .ok (.iload_n 2, 1) := by decide +kernel
theorem dX6_wrong_5 : decode cX6_wrong 5 = .ok (.aload_n 0, 1) := by decide +kernel
theorem dX6_wrong_6 : decode cX6_wrong 6 = .ok (.getfield 7, 3) := by decide +kernel
theorem dX6_wrong_9 : decode cX6_wrong 9 = .ok (.iconst 1, 1) := by decide +kernel
theorem dX6_wrong_10 : decode cX6_wrong 10 = .ok (.iaload, 1) := by decide +kernel
theorem dX6_wrong_11 : decode cX6_wrong 11 = .ok (.if_icmp .ge 32, 3) := by decide +kernel
theorem dX6_wrong_14 : decode cX6_wrong 14 = .ok (.iload_n 1, 1) := by decide +kernel
theorem dX6_wrong_15 : decode cX6_wrong 15 = .ok (.aload_n 0, 1) := by decide +kernel
theorem dX6_wrong_16 : decode cX6_wrong 16 = .ok (.iload_n 2, 1) := by decide +kernel
theorem dX6_wrong_17 : decode cX6_wrong 17 = .ok (.iconst 3, 1) := by decide +kernel
theorem dX6_wrong_18 : decode cX6_wrong 18 = .ok (.invokevirtual 74, 3) := by decide +kernel
theorem dX6_wrong_21 : decode cX6_wrong 21 = .ok (.aload_n 0, 1) := by decide +kernel
theorem dX6_wrong_22 : decode cX6_wrong 22 = .ok (.iload_n 2, 1) := by decide +kernel
theorem dX6_wrong_23 : decode cX6_wrong 23 = .ok (.iconst 4, 1) := by decide +kernel
theorem dX6_wrong_24 : decode cX6_wrong 24 = .ok (.invokevirtual 74, 3) := by decide +kernel
theorem dX6_wrong_27 : decode cX6_wrong 27 = .ok (.if_icmp .eq 7, 3) := by decide +kernel
theorem dX6_wrong_30 : decode cX6_wrong 30 = .ok (.iconst 1, 1) := by decide +kernel
theorem dX6_wrong_31 : decode cX6_wrong 31 = .ok (.goto 4, 3) := by decide +kernel
theorem dX6_wrong_34 : decode cX6_wrong 34 = .ok (.iconst 0, 1) := by decide +kernel
theorem dX6_wrong_35 : decode cX6_wrong 35 = .ok (.iadd, 1) := by decide +kernel
theorem dX6_wrong_36 : decode cX6_wrong 36 = .ok (.istore_n 1, 1) := by decide +kernel
theorem dX6_wrong_37 : decode cX6_wrong 37 = .ok (.iinc 2 1, 3) := by decide +kernel
theorem dX6_wrong_40 : decode cX6_wrong 40 = .ok (.goto (-36), 3) := by decide +kernel
theorem dX6_wrong_43 : decode cX6_wrong 43 = .ok (.iload_n 1, 1) := by decide +kernel
theorem dX6_wrong_44 : decode cX6_wrong 44 = .ok (.ireturn, 1) := by decide +kernel
theorem dX6_told_0 : decode cX6_told 0 = .ok (.iload_n 1, 1) := by decide +kernel
theorem dX6_told_1 : decode cX6_told 1 = .ok (.tableswitch 106 0 8 #[51, 58, 65, 72, 79, 84, 91, 96, 101], 51) := by decide +kernel
theorem dX6_told_52 : decode cX6_told 52 = .ok (.aload_n 0, 1) := by decide +kernel
theorem dX6_told_53 : decode cX6_told 53 = .ok (.getfield 7, 3) := by decide +kernel
theorem dX6_told_56 : decode cX6_told 56 = .ok (.iconst 0, 1) := by decide +kernel
theorem dX6_told_57 : decode cX6_told 57 = .ok (.iaload, 1) := by decide +kernel
theorem dX6_told_58 : decode cX6_told 58 = .ok (.ireturn, 1) := by decide +kernel
theorem dX6_told_59 : decode cX6_told 59 = .ok (.aload_n 0, 1) := by decide +kernel
theorem dX6_told_60 : decode cX6_told 60 = .ok (.getfield 7, 3) := by decide +kernel
theorem dX6_told_63 : decode cX6_told 63 = .ok (.iconst 1, 1) := by decide +kernel
theorem dX6_told_64 : decode cX6_told 64 = .ok (.iaload, 1) := by decide +kernel
theorem dX6_told_65 : decode cX6_told 65 = .ok (.ireturn, 1) := by decide +kernel
theorem dX6_told_66 : decode cX6_told 66 = .ok (.aload_n 0, 1) := by decide +kernel
theorem dX6_told_67 : decode cX6_told 67 = .ok (.iconst 3, 1) := by decide +kernel
theorem dX6_told_68 : decode cX6_told 68 = .ok (.iconst 1, 1) := by decide +kernel
theorem dX6_told_69 : decode cX6_told 69 = .ok (.invokevirtual 124, 3) := by decide +kernel
theorem dX6_told_72 : decode cX6_told 72 = .ok (.ireturn, 1) := by decide +kernel
theorem dX6_told_73 : decode cX6_told 73 = .ok (.aload_n 0, 1) := by decide +kernel
theorem dX6_told_74 : decode cX6_told 74 = .ok (.iconst 4, 1) := by decide +kernel
theorem dX6_told_75 : decode cX6_told 75 = .ok (.iconst 1, 1) := by decide +kernel
theorem dX6_told_76 : decode cX6_told 76 = .ok (.invokevirtual 124, 3) := by decide +kernel
theorem dX6_told_79 : decode cX6_told 79 = .ok (.ireturn, 1) := by decide +kernel
theorem dX6_told_80 : decode cX6_told 80 = .ok (.aload_n 0, 1) := by decide +kernel
theorem dX6_told_81 : decode cX6_told 81 = .ok (.invokevirtual 127, 3) := by decide +kernel
theorem dX6_told_84 : decode cX6_told 84 = .ok (.ireturn, 1) := by decide +kernel
theorem dX6_told_85 : decode cX6_told 85 = .ok (.aload_n 0, 1) := by decide +kernel
theorem dX6_told_86 : decode cX6_told 86 = .ok (.getfield 7, 3) := by decide +kernel
theorem dX6_told_89 : decode cX6_told 89 = .ok (.iconst 2, 1) := by decide +kernel
theorem dX6_told_90 : decode cX6_told 90 = .ok (.iaload, 1) := by decide +kernel
theorem dX6_told_91 : decode cX6_told 91 = .ok (.ireturn, 1) := by decide +kernel
theorem dX6_told_92 : decode cX6_told 92 = .ok (.aload_n 0, 1) := by decide +kernel
theorem dX6_told_93 : decode cX6_told 93 = .ok (.getfield 131, 3) := by decide +kernel
theorem dX6_told_96 : decode cX6_told 96 = .ok (.ireturn, 1) := by decide +kernel
theorem dX6_told_97 : decode cX6_told 97 = .ok (.aload_n 0, 1) := by decide +kernel
theorem dX6_told_98 : decode cX6_told 98 = .ok (.getfield 66, 3) := by decide +kernel
theorem dX6_told_101 : decode cX6_told 101 = .ok (.ireturn, 1) := by decide +kernel
theorem dX6_told_102 : decode cX6_told 102 = .ok (.aload_n 0, 1) := by decide +kernel
theorem dX6_told_103 : decode cX6_told 103 = .ok (.invokevirtual 134, 3) := by decide +kernel
theorem dX6_told_106 : decode cX6_told 106 = .ok (.ireturn, 1) := by decide +kernel
theorem dX6_told_107 : decode cX6_told 107 = .ok (.iconst (-1), 1) := by decide +kernel
theorem dX6_told_108 : decode cX6_told 108 = .ok (.ireturn, 1) := by decide +kernel
theorem dX6_link_0 : decode cX6_link 0 = .ok (.aload_n 0, 1) := by decide +kernel
theorem dX6_link_1 : decode cX6_link 1 = .ok (.iload_n 1, 1) := by decide +kernel
theorem dX6_link_2 : decode cX6_link 2 = .ok (.invokevirtual 100, 3) := by decide +kernel
theorem dX6_link_5 : decode cX6_link 5 = .ok (.ifCond .eq 12, 3) := by decide +kernel
theorem dX6_link_8 : decode cX6_link 8 = .ok (.iload_n 2, 1) := by decide +kernel
theorem dX6_link_9 : decode cX6_link 9 = .ok (.iconst 0, 1) := by decide +kernel
theorem dX6_link_10 : decode cX6_link 10 = .ok (.iconst 5, 1) := by decide +kernel
theorem dX6_link_11 : decode cX6_link 11 = .ok (.invokestatic 62, 3) := by decide +kernel
theorem dX6_link_14 : decode cX6_link 14 = .ok (.ifCond .ne 5, 3) := by decide +kernel
theorem dX6_link_17 : decode cX6_link 17 = .ok (.iconst (-1), 1) := by decide +kernel
theorem dX6_link_18 : decode cX6_link 18 = .ok (.ireturn, 1) := by decide +kernel
theorem dX6_link_19 : decode cX6_link 19 = .ok (.iload_n 2, 1) := by decide +kernel
theorem dX6_link_20 : decode cX6_link 20 = .ok (.iconst 5, 1) := by decide +kernel
theorem dX6_link_21 : decode cX6_link 21 = .ok (.if_icmp .ge 12, 3) := by decide +kernel
theorem dX6_link_24 : decode cX6_link 24 = .ok (.aload_n 0, 1) := by decide +kernel
theorem dX6_link_25 : decode cX6_link 25 = .ok (.iload_n 1, 1) := by decide +kernel
theorem dX6_link_26 : decode cX6_link 26 = .ok (.iload_n 2, 1) := by decide +kernel
theorem dX6_link_27 : decode cX6_link 27 = .ok (.invokevirtual 74, 3) := by decide +kernel
theorem dX6_link_30 : decode cX6_link 30 = .ok (.goto 15, 3) := by decide +kernel
theorem dX6_link_33 : decode cX6_link 33 = .ok (.aload_n 0, 1) := by decide +kernel
theorem dX6_link_34 : decode cX6_link 34 = .ok (.bipush (-9), 2) := by decide +kernel
theorem dX6_link_36 : decode cX6_link 36 = .ok (.invokevirtual 137, 3) := by decide +kernel
theorem dX6_link_39 : decode cX6_link 39 = .ok (.aload_n 0, 1) := by decide +kernel
theorem dX6_link_40 : decode cX6_link 40 = .ok (.iload_n 1, 1) := by decide +kernel
theorem dX6_link_41 : decode cX6_link 41 = .ok (.invokevirtual 137, 3) := by decide +kernel
theorem dX6_link_44 : decode cX6_link 44 = .ok (.isub, 1) := by decide +kernel
theorem dX6_link_45 : decode cX6_link 45 = .ok (.ireturn, 1) := by decide +kernel
theorem dX6_between_0 : decode cX6_between 0 = .ok (.aload_n 0, 1) := by decide +kernel
theorem dX6_between_1 : decode cX6_between 1 = .ok (.iload_n 1, 1) := by decide +kernel
theorem dX6_between_2 : decode cX6_between 2 = .ok (.invokevirtual 78, 3) := by decide +kernel
theorem dX6_between_5 : decode cX6_between 5 = .ok (.ifCond .eq 25, 3) := by decide +kernel
theorem dX6_between_8 : decode cX6_between 8 = .ok (.aload_n 0, 1) := by decide +kernel
theorem dX6_between_9 : decode cX6_between 9 = .ok (.iload_n 2, 1) := by decide +kernel
theorem dX6_between_10 : decode cX6_between 10 = .ok (.invokevirtual 78, 3) := by decide +kernel
theorem dX6_between_13 : decode cX6_between 13 = .ok (.ifCond .eq 17, 3) := by decide +kernel
theorem dX6_between_16 : decode cX6_between 16 = .ok (.iload_n 1, 1) := by decide +kernel
theorem dX6_between_17 : decode cX6_between 17 = .ok (.iload_n 2, 1) := by decide +kernel
theorem dX6_between_18 : decode cX6_between 18 = .ok (.if_icmp .eq 12, 3) := by decide +kernel
theorem dX6_between_21 : decode cX6_between 21 = .ok (.aload_n 0, 1) := by decide +kernel
theorem dX6_between_22 : decode cX6_between 22 = .ok (.iload_n 1, 1) := by decide +kernel
theorem dX6_between_23 : decode cX6_between 23 = .ok (.iload_n 2, 1) := by decide +kernel
theorem dX6_between_24 : decode cX6_between 24 = .ok (.invokevirtual 82, 3) := by decide +kernel
theorem dX6_between_27 : decode cX6_between 27 = .ok (.goto 4, 3) := by decide +kernel
theorem dX6_between_30 : decode cX6_between 30 = .ok (.iconst (-1), 1) := by decide +kernel
theorem dX6_between_31 : decode cX6_between 31 = .ok (.ireturn, 1) := by decide +kernel
theorem dX6_way_0 : decode cX6_way 0 = .ok (.aload_n 0, 1) := by decide +kernel
theorem dX6_way_1 : decode cX6_way 1 = .ok (.iload_n 1, 1) := by decide +kernel
theorem dX6_way_2 : decode cX6_way 2 = .ok (.invokevirtual 78, 3) := by decide +kernel
theorem dX6_way_5 : decode cX6_way 5 = .ok (.ifCond .eq 17, 3) := by decide +kernel
theorem dX6_way_8 : decode cX6_way 8 = .ok (.aload_n 0, 1) := by decide +kernel
theorem dX6_way_9 : decode cX6_way 9 = .ok (.iload_n 2, 1) := by decide +kernel
theorem dX6_way_10 : decode cX6_way 10 = .ok (.invokevirtual 78, 3) := by decide +kernel
theorem dX6_way_13 : decode cX6_way 13 = .ok (.ifCond .eq 9, 3) := by decide +kernel
theorem dX6_way_16 : decode cX6_way 16 = .ok (.iload_n 3, 1) := by decide +kernel
theorem dX6_way_17 : decode cX6_way 17 = .ok (.bipush (-2), 2) := by decide +kernel
theorem dX6_way_19 : decode cX6_way 19 = .ok (.if_icmp .ge 5, 3) := by decide +kernel
theorem dX6_way_22 : decode cX6_way 22 = .ok (.iconst (-1), 1) := by decide +kernel
theorem dX6_way_23 : decode cX6_way 23 = .ok (.ireturn, 1) := by decide +kernel
theorem dX6_way_24 : decode cX6_way 24 = .ok (.aload_n 0, 1) := by decide +kernel
theorem dX6_way_25 : decode cX6_way 25 = .ok (.iload_n 2, 1) := by decide +kernel
theorem dX6_way_26 : decode cX6_way 26 = .ok (.bipush (-9), 2) := by decide +kernel
theorem dX6_way_28 : decode cX6_way 28 = .ok (.invokevirtual 120, 3) := by decide +kernel
theorem dX6_way_31 : decode cX6_way 31 = .ok (.aload_n 0, 1) := by decide +kernel
theorem dX6_way_32 : decode cX6_way 32 = .ok (.getfield 26, 3) := by decide +kernel
theorem dX6_way_35 : decode cX6_way 35 = .ok (.iload_n 1, 1) := by decide +kernel
theorem dX6_way_36 : decode cX6_way 36 = .ok (.iaload, 1) := by decide +kernel
theorem dX6_way_37 : decode cX6_way 37 = .ok (.ldc 112, 2) := by decide +kernel
theorem dX6_way_39 : decode cX6_way 39 = .ok (.if_icmp .ne 6, 3) := by decide +kernel
theorem dX6_way_42 : decode cX6_way 42 = .ok (.bipush (-9), 2) := by decide +kernel
theorem dX6_way_44 : decode cX6_way 44 = .ok (.ireturn, 1) := by decide +kernel
theorem dX6_way_45 : decode cX6_way 45 = .ok (.iload_n 3, 1) := by decide +kernel
theorem dX6_way_46 : decode cX6_way 46 = .ok (.ifCond .ge 30, 3) := by decide +kernel
theorem dX6_way_49 : decode cX6_way 49 = .ok (.iload_n 3, 1) := by decide +kernel
theorem dX6_way_50 : decode cX6_way 50 = .ok (.iconst (-1), 1) := by decide +kernel
theorem dX6_way_51 : decode cX6_way 51 = .ok (.if_icmp .ne 15, 3) := by decide +kernel
theorem dX6_way_54 : decode cX6_way 54 = .ok (.aload_n 0, 1) := by decide +kernel
theorem dX6_way_55 : decode cX6_way 55 = .ok (.getfield 26, 3) := by decide +kernel
theorem dX6_way_58 : decode cX6_way 58 = .ok (.iload_n 1, 1) := by decide +kernel
theorem dX6_way_59 : decode cX6_way 59 = .ok (.iaload, 1) := by decide +kernel
theorem dX6_way_60 : decode cX6_way 60 = .ok (.bipush 16, 2) := by decide +kernel
theorem dX6_way_62 : decode cX6_way 62 = .ok (.idiv, 1) := by decide +kernel
theorem dX6_way_63 : decode cX6_way 63 = .ok (.goto 12, 3) := by decide +kernel
theorem dX6_way_66 : decode cX6_way 66 = .ok (.aload_n 0, 1) := by decide +kernel
theorem dX6_way_67 : decode cX6_way 67 = .ok (.getfield 26, 3) := by decide +kernel
theorem dX6_way_70 : decode cX6_way 70 = .ok (.iload_n 1, 1) := by decide +kernel
theorem dX6_way_71 : decode cX6_way 71 = .ok (.iaload, 1) := by decide +kernel
theorem dX6_way_72 : decode cX6_way 72 = .ok (.bipush 16, 2) := by decide +kernel
theorem dX6_way_74 : decode cX6_way 74 = .ok (.irem, 1) := by decide +kernel
theorem dX6_way_75 : decode cX6_way 75 = .ok (.ireturn, 1) := by decide +kernel
theorem dX6_way_76 : decode cX6_way 76 = .ok (.iload_n 3, 1) := by decide +kernel
theorem dX6_way_77 : decode cX6_way 77 = .ok (.aload_n 0, 1) := by decide +kernel
theorem dX6_way_78 : decode cX6_way 78 = .ok (.getfield 26, 3) := by decide +kernel
theorem dX6_way_81 : decode cX6_way 81 = .ok (.iload_n 1, 1) := by decide +kernel
theorem dX6_way_82 : decode cX6_way 82 = .ok (.iaload, 1) := by decide +kernel
theorem dX6_way_83 : decode cX6_way 83 = .ok (.bipush 16, 2) := by decide +kernel
theorem dX6_way_85 : decode cX6_way 85 = .ok (.irem, 1) := by decide +kernel
theorem dX6_way_86 : decode cX6_way 86 = .ok (.if_icmp .le 6, 3) := by decide +kernel
theorem dX6_way_89 : decode cX6_way 89 = .ok (.bipush (-9), 2) := by decide +kernel
theorem dX6_way_91 : decode cX6_way 91 = .ok (.ireturn, 1) := by decide +kernel
theorem dX6_way_92 : decode cX6_way 92 = .ok (.iload_n 1, 1) := by decide +kernel
theorem dX6_way_93 : decode cX6_way 93 = .ok (.istore 4, 2) := by decide +kernel
theorem dX6_way_95 : decode cX6_way 95 = .ok (.iconst 0, 1) := by decide +kernel
theorem dX6_way_96 : decode cX6_way 96 = .ok (.istore 5, 2) := by decide +kernel
theorem dX6_way_98 : decode cX6_way 98 = .ok (.iload 5, 2) := by decide +kernel
theorem dX6_way_100 : decode cX6_way 100 = .ok (.iload_n 3, 1) := by decide +kernel
theorem dX6_way_101 : decode cX6_way 101 = .ok (.if_icmp .ge 23, 3) := by decide +kernel
theorem dX6_way_104 : decode cX6_way 104 = .ok (.aload_n 0, 1) := by decide +kernel
theorem dX6_way_105 : decode cX6_way 105 = .ok (.aload_n 0, 1) := by decide +kernel
theorem dX6_way_106 : decode cX6_way 106 = .ok (.iload 4, 2) := by decide +kernel
theorem dX6_way_108 : decode cX6_way 108 = .ok (.invokevirtual 141, 3) := by decide +kernel
theorem dX6_way_111 : decode cX6_way 111 = .ok (.iload 4, 2) := by decide +kernel
theorem dX6_way_113 : decode cX6_way 113 = .ok (.invokevirtual 113, 3) := by decide +kernel
theorem dX6_way_116 : decode cX6_way 116 = .ok (.istore 4, 2) := by decide +kernel
theorem dX6_way_118 : decode cX6_way 118 = .ok (.iinc 5 1, 3) := by decide +kernel
theorem dX6_way_121 : decode cX6_way 121 = .ok (.goto (-23), 3) := by decide +kernel
theorem dX6_way_124 : decode cX6_way 124 = .ok (.iload 4, 2) := by decide +kernel
theorem dX6_way_126 : decode cX6_way 126 = .ok (.ireturn, 1) := by decide +kernel
theorem dX6_goOn_0 : decode cX6_goOn 0 = .ok (.iconst 0, 1) := by decide +kernel
theorem dX6_goOn_1 : decode cX6_goOn 1 = .ok (.istore 5, 2) := by decide +kernel
theorem dX6_goOn_3 : decode cX6_goOn 3 = .ok (.iload 5, 2) := by decide +kernel
theorem dX6_goOn_5 : decode cX6_goOn 5 = .ok (.aload_n 0, 1) := by decide +kernel
theorem dX6_goOn_6 : decode cX6_goOn 6 = .ok (.getfield 7, 3) := by decide +kernel
theorem dX6_goOn_9 : decode cX6_goOn 9 = .ok (.iconst 1, 1) := by decide +kernel
theorem dX6_goOn_10 : decode cX6_goOn 10 = .ok (.iaload, 1) := by decide +kernel
theorem dX6_goOn_11 : decode cX6_goOn 11 = .ok (.if_icmp .ge 83, 3) := by decide +kernel
theorem dX6_goOn_14 : decode cX6_goOn 14 = .ok (.aload_n 0, 1) := by decide +kernel
theorem dX6_goOn_15 : decode cX6_goOn 15 = .ok (.iload 5, 2) := by decide +kernel
theorem dX6_goOn_17 : decode cX6_goOn 17 = .ok (.iconst 3, 1) := by decide +kernel
theorem dX6_goOn_18 : decode cX6_goOn 18 = .ok (.invokevirtual 74, 3) := by decide +kernel
theorem dX6_goOn_21 : decode cX6_goOn 21 = .ok (.ifCond .ne 19, 3) := by decide +kernel
theorem dX6_goOn_24 : decode cX6_goOn 24 = .ok (.aload_n 0, 1) := by decide +kernel
theorem dX6_goOn_25 : decode cX6_goOn 25 = .ok (.iload 5, 2) := by decide +kernel
theorem dX6_goOn_27 : decode cX6_goOn 27 = .ok (.iload_n 1, 1) := by decide +kernel
theorem dX6_goOn_28 : decode cX6_goOn 28 = .ok (.invokevirtual 113, 3) := by decide +kernel
theorem dX6_goOn_31 : decode cX6_goOn 31 = .ok (.bipush (-9), 2) := by decide +kernel
theorem dX6_goOn_33 : decode cX6_goOn 33 = .ok (.if_icmp .eq 7, 3) := by decide +kernel
theorem dX6_goOn_36 : decode cX6_goOn 36 = .ok (.iconst 1, 1) := by decide +kernel
theorem dX6_goOn_37 : decode cX6_goOn 37 = .ok (.goto 4, 3) := by decide +kernel
theorem dX6_goOn_40 : decode cX6_goOn 40 = .ok (.iconst 0, 1) := by decide +kernel
theorem dX6_goOn_41 : decode cX6_goOn 41 = .ok (.istore 6, 2) := by decide +kernel
theorem dX6_goOn_43 : decode cX6_goOn 43 = .ok (.aload_n 0, 1) := by decide +kernel
theorem dX6_goOn_44 : decode cX6_goOn 44 = .ok (.getfield 22, 3) := by decide +kernel
theorem dX6_goOn_47 : decode cX6_goOn 47 = .ok (.iload 5, 2) := by decide +kernel
theorem dX6_goOn_49 : decode cX6_goOn 49 = .ok (.aload_n 0, 1) := by decide +kernel
theorem dX6_goOn_50 : decode cX6_goOn 50 = .ok (.iload 5, 2) := by decide +kernel
theorem dX6_goOn_52 : decode cX6_goOn 52 = .ok (.iconst 4, 1) := by decide +kernel
theorem dX6_goOn_53 : decode cX6_goOn 53 = .ok (.invokevirtual 74, 3) := by decide +kernel
theorem dX6_goOn_56 : decode cX6_goOn 56 = .ok (.iconst 1, 1) := by decide +kernel
theorem dX6_goOn_57 : decode cX6_goOn 57 = .ok (.if_icmp .ne 29, 3) := by decide +kernel
theorem dX6_goOn_60 : decode cX6_goOn 60 = .ok (.iload_n 3, 1) := by decide +kernel
theorem dX6_goOn_61 : decode cX6_goOn 61 = .ok (.ifCond .eq 11, 3) := by decide +kernel
theorem dX6_goOn_64 : decode cX6_goOn 64 = .ok (.iload 6, 2) := by decide +kernel
theorem dX6_goOn_66 : decode cX6_goOn 66 = .ok (.ifCond .eq 16, 3) := by decide +kernel
theorem dX6_goOn_69 : decode cX6_goOn 69 = .ok (.goto 17, 3) := by decide +kernel
theorem dX6_goOn_72 : decode cX6_goOn 72 = .ok (.aload_n 0, 1) := by decide +kernel
theorem dX6_goOn_73 : decode cX6_goOn 73 = .ok (.getfield 29, 3) := by decide +kernel
theorem dX6_goOn_76 : decode cX6_goOn 76 = .ok (.iload 5, 2) := by decide +kernel
theorem dX6_goOn_78 : decode cX6_goOn 78 = .ok (.baload, 1) := by decide +kernel
theorem dX6_goOn_79 : decode cX6_goOn 79 = .ok (.ifCond .ne 7, 3) := by decide +kernel
theorem dX6_goOn_82 : decode cX6_goOn 82 = .ok (.iconst 1, 1) := by decide +kernel
theorem dX6_goOn_83 : decode cX6_goOn 83 = .ok (.goto 4, 3) := by decide +kernel
theorem dX6_goOn_86 : decode cX6_goOn 86 = .ok (.iconst 0, 1) := by decide +kernel
theorem dX6_goOn_87 : decode cX6_goOn 87 = .ok (.bastore, 1) := by decide +kernel
theorem dX6_goOn_88 : decode cX6_goOn 88 = .ok (.iinc 5 1, 3) := by decide +kernel
theorem dX6_goOn_91 : decode cX6_goOn 91 = .ok (.goto (-88), 3) := by decide +kernel
theorem dX6_goOn_94 : decode cX6_goOn 94 = .ok (.aload_n 0, 1) := by decide +kernel
theorem dX6_goOn_95 : decode cX6_goOn 95 = .ok (.iload_n 2, 1) := by decide +kernel
theorem dX6_goOn_96 : decode cX6_goOn 96 = .ok (.invokevirtual 116, 3) := by decide +kernel
theorem dX6_goOn_99 : decode cX6_goOn 99 = .ok (.aload_n 0, 1) := by decide +kernel
theorem dX6_goOn_100 : decode cX6_goOn 100 = .ok (.dup, 1) := by decide +kernel
theorem dX6_goOn_101 : decode cX6_goOn 101 = .ok (.getfield 144, 3) := by decide +kernel
theorem dX6_goOn_104 : decode cX6_goOn 104 = .ok (.iconst 1, 1) := by decide +kernel
theorem dX6_goOn_105 : decode cX6_goOn 105 = .ok (.iadd, 1) := by decide +kernel
theorem dX6_goOn_106 : decode cX6_goOn 106 = .ok (.putfield 144, 3) := by decide +kernel
theorem dX6_goOn_109 : decode cX6_goOn 109 = .ok (.aload_n 0, 1) := by decide +kernel
theorem dX6_goOn_110 : decode cX6_goOn 110 = .ok (.getfield 26, 3) := by decide +kernel
theorem dX6_goOn_113 : decode cX6_goOn 113 = .ok (.iload_n 1, 1) := by decide +kernel
theorem dX6_goOn_114 : decode cX6_goOn 114 = .ok (.iaload, 1) := by decide +kernel
theorem dX6_goOn_115 : decode cX6_goOn 115 = .ok (.ldc 112, 2) := by decide +kernel
theorem dX6_goOn_117 : decode cX6_goOn 117 = .ok (.if_icmp .ne 11, 3) := by decide +kernel
theorem dX6_goOn_120 : decode cX6_goOn 120 = .ok (.aload_n 0, 1) := by decide +kernel
theorem dX6_goOn_121 : decode cX6_goOn 121 = .ok (.iconst 1, 1) := by decide +kernel
theorem dX6_goOn_122 : decode cX6_goOn 122 = .ok (.putfield 147, 3) := by decide +kernel
theorem dX6_goOn_125 : decode cX6_goOn 125 = .ok (.bipush (-9), 2) := by decide +kernel
theorem dX6_goOn_127 : decode cX6_goOn 127 = .ok (.ireturn, 1) := by decide +kernel
theorem dX6_goOn_128 : decode cX6_goOn 128 = .ok (.aload_n 0, 1) := by decide +kernel
theorem dX6_goOn_129 : decode cX6_goOn 129 = .ok (.iload_n 1, 1) := by decide +kernel
theorem dX6_goOn_130 : decode cX6_goOn 130 = .ok (.invokevirtual 141, 3) := by decide +kernel
theorem dX6_goOn_133 : decode cX6_goOn 133 = .ok (.istore 5, 2) := by decide +kernel
theorem dX6_goOn_135 : decode cX6_goOn 135 = .ok (.aload_n 0, 1) := by decide +kernel
theorem dX6_goOn_136 : decode cX6_goOn 136 = .ok (.iload 5, 2) := by decide +kernel
theorem dX6_goOn_138 : decode cX6_goOn 138 = .ok (.iconst 3, 1) := by decide +kernel
theorem dX6_goOn_139 : decode cX6_goOn 139 = .ok (.invokevirtual 74, 3) := by decide +kernel
theorem dX6_goOn_142 : decode cX6_goOn 142 = .ok (.iconst 1, 1) := by decide +kernel
theorem dX6_goOn_143 : decode cX6_goOn 143 = .ok (.if_icmp .ne 6, 3) := by decide +kernel
theorem dX6_goOn_146 : decode cX6_goOn 146 = .ok (.iload 5, 2) := by decide +kernel
theorem dX6_goOn_148 : decode cX6_goOn 148 = .ok (.ireturn, 1) := by decide +kernel
theorem dX6_goOn_149 : decode cX6_goOn 149 = .ok (.aload_n 0, 1) := by decide +kernel
theorem dX6_goOn_150 : decode cX6_goOn 150 = .ok (.getfield 150, 3) := by decide +kernel
theorem dX6_goOn_153 : decode cX6_goOn 153 = .ok (.iload 4, 2) := by decide +kernel
theorem dX6_goOn_155 : decode cX6_goOn 155 = .ok (.if_icmp .ne 11, 3) := by decide +kernel
theorem dX6_goOn_158 : decode cX6_goOn 158 = .ok (.aload_n 0, 1) := by decide +kernel
theorem dX6_goOn_159 : decode cX6_goOn 159 = .ok (.iconst 2, 1) := by decide +kernel
theorem dX6_goOn_160 : decode cX6_goOn 160 = .ok (.putfield 147, 3) := by decide +kernel
theorem dX6_goOn_163 : decode cX6_goOn 163 = .ok (.bipush (-9), 2) := by decide +kernel
theorem dX6_goOn_165 : decode cX6_goOn 165 = .ok (.ireturn, 1) := by decide +kernel
theorem dX6_goOn_166 : decode cX6_goOn 166 = .ok (.aload_n 0, 1) := by decide +kernel
theorem dX6_goOn_167 : decode cX6_goOn 167 = .ok (.getfield 29, 3) := by decide +kernel
theorem dX6_goOn_170 : decode cX6_goOn 170 = .ok (.iload 5, 2) := by decide +kernel
theorem dX6_goOn_172 : decode cX6_goOn 172 = .ok (.iconst 1, 1) := by decide +kernel
theorem dX6_goOn_173 : decode cX6_goOn 173 = .ok (.bastore, 1) := by decide +kernel
theorem dX6_goOn_174 : decode cX6_goOn 174 = .ok (.aload_n 0, 1) := by decide +kernel
theorem dX6_goOn_175 : decode cX6_goOn 175 = .ok (.getfield 32, 3) := by decide +kernel
theorem dX6_goOn_178 : decode cX6_goOn 178 = .ok (.aload_n 0, 1) := by decide +kernel
theorem dX6_goOn_179 : decode cX6_goOn 179 = .ok (.getfield 150, 3) := by decide +kernel
theorem dX6_goOn_182 : decode cX6_goOn 182 = .ok (.iload 5, 2) := by decide +kernel
theorem dX6_goOn_184 : decode cX6_goOn 184 = .ok (.iastore, 1) := by decide +kernel
theorem dX6_goOn_185 : decode cX6_goOn 185 = .ok (.aload_n 0, 1) := by decide +kernel
theorem dX6_goOn_186 : decode cX6_goOn 186 = .ok (.dup, 1) := by decide +kernel
theorem dX6_goOn_187 : decode cX6_goOn 187 = .ok (.getfield 150, 3) := by decide +kernel
theorem dX6_goOn_190 : decode cX6_goOn 190 = .ok (.iconst 1, 1) := by decide +kernel
theorem dX6_goOn_191 : decode cX6_goOn 191 = .ok (.iadd, 1) := by decide +kernel
theorem dX6_goOn_192 : decode cX6_goOn 192 = .ok (.putfield 150, 3) := by decide +kernel
theorem dX6_goOn_195 : decode cX6_goOn 195 = .ok (.bipush (-9), 2) := by decide +kernel
theorem dX6_goOn_197 : decode cX6_goOn 197 = .ok (.ireturn, 1) := by decide +kernel
theorem dX6_runLetter_0 : decode cX6_runLetter 0 = .ok (.iconst 0, 1) := by decide +kernel
theorem dX6_runLetter_1 : decode cX6_runLetter 1 = .ok (.istore 5, 2) := by decide +kernel
theorem dX6_runLetter_3 : decode cX6_runLetter 3 = .ok (.iload 5, 2) := by decide +kernel
theorem dX6_runLetter_5 : decode cX6_runLetter 5 = .ok (.bipush 18, 2) := by decide +kernel
theorem dX6_runLetter_7 : decode cX6_runLetter 7 = .ok (.if_icmp .ge 17, 3) := by decide +kernel
theorem dX6_runLetter_10 : decode cX6_runLetter 10 = .ok (.aload_n 0, 1) := by decide +kernel
theorem dX6_runLetter_11 : decode cX6_runLetter 11 = .ok (.getfield 29, 3) := by decide +kernel
theorem dX6_runLetter_14 : decode cX6_runLetter 14 = .ok (.iload 5, 2) := by decide +kernel
theorem dX6_runLetter_16 : decode cX6_runLetter 16 = .ok (.iconst 0, 1) := by decide +kernel
theorem dX6_runLetter_17 : decode cX6_runLetter 17 = .ok (.bastore, 1) := by decide +kernel
theorem dX6_runLetter_18 : decode cX6_runLetter 18 = .ok (.iinc 5 1, 3) := by decide +kernel
theorem dX6_runLetter_21 : decode cX6_runLetter 21 = .ok (.goto (-18), 3) := by decide +kernel
theorem dX6_runLetter_24 : decode cX6_runLetter 24 = .ok (.aload_n 0, 1) := by decide +kernel
theorem dX6_runLetter_25 : decode cX6_runLetter 25 = .ok (.iconst 0, 1) := by decide +kernel
theorem dX6_runLetter_26 : decode cX6_runLetter 26 = .ok (.putfield 150, 3) := by decide +kernel
theorem dX6_runLetter_29 : decode cX6_runLetter 29 = .ok (.aload_n 0, 1) := by decide +kernel
theorem dX6_runLetter_30 : decode cX6_runLetter 30 = .ok (.iconst 0, 1) := by decide +kernel
theorem dX6_runLetter_31 : decode cX6_runLetter 31 = .ok (.putfield 153, 3) := by decide +kernel
theorem dX6_runLetter_34 : decode cX6_runLetter 34 = .ok (.aload_n 0, 1) := by decide +kernel
theorem dX6_runLetter_35 : decode cX6_runLetter 35 = .ok (.iconst 0, 1) := by decide +kernel
theorem dX6_runLetter_36 : decode cX6_runLetter 36 = .ok (.putfield 156, 3) := by decide +kernel
theorem dX6_runLetter_39 : decode cX6_runLetter 39 = .ok (.aload_n 0, 1) := by decide +kernel
theorem dX6_runLetter_40 : decode cX6_runLetter 40 = .ok (.iconst 0, 1) := by decide +kernel
theorem dX6_runLetter_41 : decode cX6_runLetter 41 = .ok (.putfield 147, 3) := by decide +kernel
theorem dX6_runLetter_44 : decode cX6_runLetter 44 = .ok (.aload_n 0, 1) := by decide +kernel
theorem dX6_runLetter_45 : decode cX6_runLetter 45 = .ok (.iconst 0, 1) := by decide +kernel
theorem dX6_runLetter_46 : decode cX6_runLetter 46 = .ok (.putfield 144, 3) := by decide +kernel
theorem dX6_runLetter_49 : decode cX6_runLetter 49 = .ok (.aload_n 0, 1) := by decide +kernel
theorem dX6_runLetter_50 : decode cX6_runLetter 50 = .ok (.getfield 35, 3) := by decide +kernel
theorem dX6_runLetter_53 : decode cX6_runLetter 53 = .ok (.iconst 0, 1) := by decide +kernel
theorem dX6_runLetter_54 : decode cX6_runLetter 54 = .ok (.iload_n 1, 1) := by decide +kernel
theorem dX6_runLetter_55 : decode cX6_runLetter 55 = .ok (.iastore, 1) := by decide +kernel
theorem dX6_runLetter_56 : decode cX6_runLetter 56 = .ok (.aload_n 0, 1) := by decide +kernel
theorem dX6_runLetter_57 : decode cX6_runLetter 57 = .ok (.getfield 35, 3) := by decide +kernel
theorem dX6_runLetter_60 : decode cX6_runLetter 60 = .ok (.aload_n 0, 1) := by decide +kernel
theorem dX6_runLetter_61 : decode cX6_runLetter 61 = .ok (.getfield 153, 3) := by decide +kernel
theorem dX6_runLetter_64 : decode cX6_runLetter 64 = .ok (.iaload, 1) := by decide +kernel
theorem dX6_runLetter_65 : decode cX6_runLetter 65 = .ok (.iload_n 2, 1) := by decide +kernel
theorem dX6_runLetter_66 : decode cX6_runLetter 66 = .ok (.if_icmp .eq 115, 3) := by decide +kernel
theorem dX6_runLetter_69 : decode cX6_runLetter 69 = .ok (.aload_n 0, 1) := by decide +kernel
theorem dX6_runLetter_70 : decode cX6_runLetter 70 = .ok (.getfield 147, 3) := by decide +kernel
theorem dX6_runLetter_73 : decode cX6_runLetter 73 = .ok (.ifCond .ne 108, 3) := by decide +kernel
theorem dX6_runLetter_76 : decode cX6_runLetter 76 = .ok (.aload_n 0, 1) := by decide +kernel
theorem dX6_runLetter_77 : decode cX6_runLetter 77 = .ok (.aload_n 0, 1) := by decide +kernel
theorem dX6_runLetter_78 : decode cX6_runLetter 78 = .ok (.getfield 35, 3) := by decide +kernel
theorem dX6_runLetter_81 : decode cX6_runLetter 81 = .ok (.aload_n 0, 1) := by decide +kernel
theorem dX6_runLetter_82 : decode cX6_runLetter 82 = .ok (.getfield 153, 3) := by decide +kernel
theorem dX6_runLetter_85 : decode cX6_runLetter 85 = .ok (.iaload, 1) := by decide +kernel
theorem dX6_runLetter_86 : decode cX6_runLetter 86 = .ok (.iload_n 2, 1) := by decide +kernel
theorem dX6_runLetter_87 : decode cX6_runLetter 87 = .ok (.iload_n 3, 1) := by decide +kernel
theorem dX6_runLetter_88 : decode cX6_runLetter 88 = .ok (.iload 4, 2) := by decide +kernel
theorem dX6_runLetter_90 : decode cX6_runLetter 90 = .ok (.invokevirtual 159, 3) := by decide +kernel
theorem dX6_runLetter_93 : decode cX6_runLetter 93 = .ok (.istore 5, 2) := by decide +kernel
theorem dX6_runLetter_95 : decode cX6_runLetter 95 = .ok (.iload 5, 2) := by decide +kernel
theorem dX6_runLetter_97 : decode cX6_runLetter 97 = .ok (.bipush (-9), 2) := by decide +kernel
theorem dX6_runLetter_99 : decode cX6_runLetter 99 = .ok (.if_icmp .eq 20, 3) := by decide +kernel
theorem dX6_runLetter_102 : decode cX6_runLetter 102 = .ok (.aload_n 0, 1) := by decide +kernel
theorem dX6_runLetter_103 : decode cX6_runLetter 103 = .ok (.getfield 153, 3) := by decide +kernel
theorem dX6_runLetter_106 : decode cX6_runLetter 106 = .ok (.bipush 40, 2) := by decide +kernel
theorem dX6_runLetter_108 : decode cX6_runLetter 108 = .ok (.if_icmp .ne 11, 3) := by decide +kernel
theorem dX6_runLetter_111 : decode cX6_runLetter 111 = .ok (.aload_n 0, 1) := by decide +kernel
theorem dX6_runLetter_112 : decode cX6_runLetter 112 = .ok (.iconst 3, 1) := by decide +kernel
theorem dX6_runLetter_113 : decode cX6_runLetter 113 = .ok (.putfield 147, 3) := by decide +kernel
theorem dX6_runLetter_116 : decode cX6_runLetter 116 = .ok (.goto 62, 3) := by decide +kernel
theorem dX6_runLetter_119 : decode cX6_runLetter 119 = .ok (.iload 5, 2) := by decide +kernel
theorem dX6_runLetter_121 : decode cX6_runLetter 121 = .ok (.bipush (-9), 2) := by decide +kernel
theorem dX6_runLetter_123 : decode cX6_runLetter 123 = .ok (.if_icmp .eq 55, 3) := by decide +kernel
theorem dX6_runLetter_126 : decode cX6_runLetter 126 = .ok (.aload_n 0, 1) := by decide +kernel
theorem dX6_runLetter_127 : decode cX6_runLetter 127 = .ok (.getfield 35, 3) := by decide +kernel
theorem dX6_runLetter_130 : decode cX6_runLetter 130 = .ok (.aload_n 0, 1) := by decide +kernel
theorem dX6_runLetter_131 : decode cX6_runLetter 131 = .ok (.getfield 153, 3) := by decide +kernel
theorem dX6_runLetter_134 : decode cX6_runLetter 134 = .ok (.iconst 1, 1) := by decide +kernel
theorem dX6_runLetter_135 : decode cX6_runLetter 135 = .ok (.iadd, 1) := by decide +kernel
theorem dX6_runLetter_136 : decode cX6_runLetter 136 = .ok (.aload_n 0, 1) := by decide +kernel
theorem dX6_runLetter_137 : decode cX6_runLetter 137 = .ok (.iload 5, 2) := by decide +kernel
theorem dX6_runLetter_139 : decode cX6_runLetter 139 = .ok (.aload_n 0, 1) := by decide +kernel
theorem dX6_runLetter_140 : decode cX6_runLetter 140 = .ok (.getfield 35, 3) := by decide +kernel
theorem dX6_runLetter_143 : decode cX6_runLetter 143 = .ok (.aload_n 0, 1) := by decide +kernel
theorem dX6_runLetter_144 : decode cX6_runLetter 144 = .ok (.getfield 153, 3) := by decide +kernel
theorem dX6_runLetter_147 : decode cX6_runLetter 147 = .ok (.iaload, 1) := by decide +kernel
theorem dX6_runLetter_148 : decode cX6_runLetter 148 = .ok (.invokevirtual 113, 3) := by decide +kernel
theorem dX6_runLetter_151 : decode cX6_runLetter 151 = .ok (.iastore, 1) := by decide +kernel
theorem dX6_runLetter_152 : decode cX6_runLetter 152 = .ok (.aload_n 0, 1) := by decide +kernel
theorem dX6_runLetter_153 : decode cX6_runLetter 153 = .ok (.dup, 1) := by decide +kernel
theorem dX6_runLetter_154 : decode cX6_runLetter 154 = .ok (.getfield 156, 3) := by decide +kernel
theorem dX6_runLetter_157 : decode cX6_runLetter 157 = .ok (.aload_n 0, 1) := by decide +kernel
theorem dX6_runLetter_158 : decode cX6_runLetter 158 = .ok (.iload 5, 2) := by decide +kernel
theorem dX6_runLetter_160 : decode cX6_runLetter 160 = .ok (.iconst 2, 1) := by decide +kernel
theorem dX6_runLetter_161 : decode cX6_runLetter 161 = .ok (.invokevirtual 74, 3) := by decide +kernel
theorem dX6_runLetter_164 : decode cX6_runLetter 164 = .ok (.iadd, 1) := by decide +kernel
theorem dX6_runLetter_165 : decode cX6_runLetter 165 = .ok (.putfield 156, 3) := by decide +kernel
theorem dX6_runLetter_168 : decode cX6_runLetter 168 = .ok (.aload_n 0, 1) := by decide +kernel
theorem dX6_runLetter_169 : decode cX6_runLetter 169 = .ok (.dup, 1) := by decide +kernel
theorem dX6_runLetter_170 : decode cX6_runLetter 170 = .ok (.getfield 153, 3) := by decide +kernel
theorem dX6_runLetter_173 : decode cX6_runLetter 173 = .ok (.iconst 1, 1) := by decide +kernel
theorem dX6_runLetter_174 : decode cX6_runLetter 174 = .ok (.iadd, 1) := by decide +kernel
theorem dX6_runLetter_175 : decode cX6_runLetter 175 = .ok (.putfield 153, 3) := by decide +kernel
theorem dX6_runLetter_178 : decode cX6_runLetter 178 = .ok (.goto (-122), 3) := by decide +kernel
theorem dX6_runLetter_181 : decode cX6_runLetter 181 = .ok (.return_, 1) := by decide +kernel
theorem dX6_send_0 : decode cX6_send 0 = .ok (.aload_n 0, 1) := by decide +kernel
theorem dX6_send_1 : decode cX6_send 1 = .ok (.iload_n 1, 1) := by decide +kernel
theorem dX6_send_2 : decode cX6_send 2 = .ok (.invokevirtual 78, 3) := by decide +kernel
theorem dX6_send_5 : decode cX6_send 5 = .ok (.ifCond .eq 20, 3) := by decide +kernel
theorem dX6_send_8 : decode cX6_send 8 = .ok (.aload_n 0, 1) := by decide +kernel
theorem dX6_send_9 : decode cX6_send 9 = .ok (.iload_n 2, 1) := by decide +kernel
theorem dX6_send_10 : decode cX6_send 10 = .ok (.invokevirtual 78, 3) := by decide +kernel
theorem dX6_send_13 : decode cX6_send 13 = .ok (.ifCond .eq 12, 3) := by decide +kernel
theorem dX6_send_16 : decode cX6_send 16 = .ok (.iload_n 3, 1) := by decide +kernel
theorem dX6_send_17 : decode cX6_send 17 = .ok (.iconst 0, 1) := by decide +kernel
theorem dX6_send_18 : decode cX6_send 18 = .ok (.iconst 1, 1) := by decide +kernel
theorem dX6_send_19 : decode cX6_send 19 = .ok (.invokestatic 62, 3) := by decide +kernel
theorem dX6_send_22 : decode cX6_send 22 = .ok (.ifCond .ne 5, 3) := by decide +kernel
theorem dX6_send_25 : decode cX6_send 25 = .ok (.iconst (-1), 1) := by decide +kernel
theorem dX6_send_26 : decode cX6_send 26 = .ok (.ireturn, 1) := by decide +kernel
theorem dX6_send_27 : decode cX6_send 27 = .ok (.aload_n 0, 1) := by decide +kernel
theorem dX6_send_28 : decode cX6_send 28 = .ok (.iload_n 1, 1) := by decide +kernel
theorem dX6_send_29 : decode cX6_send 29 = .ok (.iload_n 2, 1) := by decide +kernel
theorem dX6_send_30 : decode cX6_send 30 = .ok (.iload_n 3, 1) := by decide +kernel
theorem dX6_send_31 : decode cX6_send 31 = .ok (.iconst 1, 1) := by decide +kernel
theorem dX6_send_32 : decode cX6_send 32 = .ok (.if_icmp .ne 7, 3) := by decide +kernel
theorem dX6_send_35 : decode cX6_send 35 = .ok (.iconst 1, 1) := by decide +kernel
theorem dX6_send_36 : decode cX6_send 36 = .ok (.goto 4, 3) := by decide +kernel
theorem dX6_send_39 : decode cX6_send 39 = .ok (.iconst 0, 1) := by decide +kernel
theorem dX6_send_40 : decode cX6_send 40 = .ok (.aload_n 0, 1) := by decide +kernel
theorem dX6_send_41 : decode cX6_send 41 = .ok (.getfield 7, 3) := by decide +kernel
theorem dX6_send_44 : decode cX6_send 44 = .ok (.iconst 2, 1) := by decide +kernel
theorem dX6_send_45 : decode cX6_send 45 = .ok (.iaload, 1) := by decide +kernel
theorem dX6_send_46 : decode cX6_send 46 = .ok (.invokevirtual 163, 3) := by decide +kernel
theorem dX6_send_49 : decode cX6_send 49 = .ok (.aload_n 0, 1) := by decide +kernel
theorem dX6_send_50 : decode cX6_send 50 = .ok (.iconst 1, 1) := by decide +kernel
theorem dX6_send_51 : decode cX6_send 51 = .ok (.putfield 106, 3) := by decide +kernel
theorem dX6_send_54 : decode cX6_send 54 = .ok (.aload_n 0, 1) := by decide +kernel
theorem dX6_send_55 : decode cX6_send 55 = .ok (.iconst 0, 1) := by decide +kernel
theorem dX6_send_56 : decode cX6_send 56 = .ok (.putfield 88, 3) := by decide +kernel
theorem dX6_send_59 : decode cX6_send 59 = .ok (.aload_n 0, 1) := by decide +kernel
theorem dX6_send_60 : decode cX6_send 60 = .ok (.aload_n 0, 1) := by decide +kernel
theorem dX6_send_61 : decode cX6_send 61 = .ok (.getfield 150, 3) := by decide +kernel
theorem dX6_send_64 : decode cX6_send 64 = .ok (.putfield 109, 3) := by decide +kernel
theorem dX6_send_67 : decode cX6_send 67 = .ok (.iconst 0, 1) := by decide +kernel
theorem dX6_send_68 : decode cX6_send 68 = .ok (.istore 4, 2) := by decide +kernel
theorem dX6_send_70 : decode cX6_send 70 = .ok (.iload 4, 2) := by decide +kernel
theorem dX6_send_72 : decode cX6_send 72 = .ok (.aload_n 0, 1) := by decide +kernel
theorem dX6_send_73 : decode cX6_send 73 = .ok (.getfield 150, 3) := by decide +kernel
theorem dX6_send_76 : decode cX6_send 76 = .ok (.if_icmp .ge 61, 3) := by decide +kernel
theorem dX6_send_79 : decode cX6_send 79 = .ok (.aload_n 0, 1) := by decide +kernel
theorem dX6_send_80 : decode cX6_send 80 = .ok (.getfield 38, 3) := by decide +kernel
theorem dX6_send_83 : decode cX6_send 83 = .ok (.iload 4, 2) := by decide +kernel
theorem dX6_send_85 : decode cX6_send 85 = .ok (.aload_n 0, 1) := by decide +kernel
theorem dX6_send_86 : decode cX6_send 86 = .ok (.getfield 32, 3) := by decide +kernel
theorem dX6_send_89 : decode cX6_send 89 = .ok (.iload 4, 2) := by decide +kernel
theorem dX6_send_91 : decode cX6_send 91 = .ok (.iaload, 1) := by decide +kernel
theorem dX6_send_92 : decode cX6_send 92 = .ok (.iastore, 1) := by decide +kernel
theorem dX6_send_93 : decode cX6_send 93 = .ok (.aload_n 0, 1) := by decide +kernel
theorem dX6_send_94 : decode cX6_send 94 = .ok (.getfield 41, 3) := by decide +kernel
theorem dX6_send_97 : decode cX6_send 97 = .ok (.iload 4, 2) := by decide +kernel
theorem dX6_send_99 : decode cX6_send 99 = .ok (.aload_n 0, 1) := by decide +kernel
theorem dX6_send_100 : decode cX6_send 100 = .ok (.aload_n 0, 1) := by decide +kernel
theorem dX6_send_101 : decode cX6_send 101 = .ok (.getfield 32, 3) := by decide +kernel
theorem dX6_send_104 : decode cX6_send 104 = .ok (.iload 4, 2) := by decide +kernel
theorem dX6_send_106 : decode cX6_send 106 = .ok (.iaload, 1) := by decide +kernel
theorem dX6_send_107 : decode cX6_send 107 = .ok (.iconst 0, 1) := by decide +kernel
theorem dX6_send_108 : decode cX6_send 108 = .ok (.invokevirtual 74, 3) := by decide +kernel
theorem dX6_send_111 : decode cX6_send 111 = .ok (.iastore, 1) := by decide +kernel
theorem dX6_send_112 : decode cX6_send 112 = .ok (.aload_n 0, 1) := by decide +kernel
theorem dX6_send_113 : decode cX6_send 113 = .ok (.getfield 44, 3) := by decide +kernel
theorem dX6_send_116 : decode cX6_send 116 = .ok (.iload 4, 2) := by decide +kernel
theorem dX6_send_118 : decode cX6_send 118 = .ok (.aload_n 0, 1) := by decide +kernel
theorem dX6_send_119 : decode cX6_send 119 = .ok (.aload_n 0, 1) := by decide +kernel
theorem dX6_send_120 : decode cX6_send 120 = .ok (.getfield 32, 3) := by decide +kernel
theorem dX6_send_123 : decode cX6_send 123 = .ok (.iload 4, 2) := by decide +kernel
theorem dX6_send_125 : decode cX6_send 125 = .ok (.iaload, 1) := by decide +kernel
theorem dX6_send_126 : decode cX6_send 126 = .ok (.iconst 1, 1) := by decide +kernel
theorem dX6_send_127 : decode cX6_send 127 = .ok (.invokevirtual 74, 3) := by decide +kernel
theorem dX6_send_130 : decode cX6_send 130 = .ok (.iastore, 1) := by decide +kernel
theorem dX6_send_131 : decode cX6_send 131 = .ok (.iinc 4 1, 3) := by decide +kernel
theorem dX6_send_134 : decode cX6_send 134 = .ok (.goto (-64), 3) := by decide +kernel
theorem dX6_send_137 : decode cX6_send 137 = .ok (.iconst 0, 1) := by decide +kernel
theorem dX6_send_138 : decode cX6_send 138 = .ok (.istore 4, 2) := by decide +kernel
theorem dX6_send_140 : decode cX6_send 140 = .ok (.iload 4, 2) := by decide +kernel
theorem dX6_send_142 : decode cX6_send 142 = .ok (.aload_n 0, 1) := by decide +kernel
theorem dX6_send_143 : decode cX6_send 143 = .ok (.getfield 153, 3) := by decide +kernel
theorem dX6_send_146 : decode cX6_send 146 = .ok (.if_icmp .gt 23, 3) := by decide +kernel
theorem dX6_send_149 : decode cX6_send 149 = .ok (.aload_n 0, 1) := by decide +kernel
theorem dX6_send_150 : decode cX6_send 150 = .ok (.getfield 47, 3) := by decide +kernel
theorem dX6_send_153 : decode cX6_send 153 = .ok (.iload 4, 2) := by decide +kernel
theorem dX6_send_155 : decode cX6_send 155 = .ok (.aload_n 0, 1) := by decide +kernel
theorem dX6_send_156 : decode cX6_send 156 = .ok (.getfield 35, 3) := by decide +kernel
theorem dX6_send_159 : decode cX6_send 159 = .ok (.iload 4, 2) := by decide +kernel
theorem dX6_send_161 : decode cX6_send 161 = .ok (.iaload, 1) := by decide +kernel
theorem dX6_send_162 : decode cX6_send 162 = .ok (.iastore, 1) := by decide +kernel
theorem dX6_send_163 : decode cX6_send 163 = .ok (.iinc 4 1, 3) := by decide +kernel
theorem dX6_send_166 : decode cX6_send 166 = .ok (.goto (-26), 3) := by decide +kernel
theorem dX6_send_169 : decode cX6_send 169 = .ok (.aload_n 0, 1) := by decide +kernel
theorem dX6_send_170 : decode cX6_send 170 = .ok (.getfield 50, 3) := by decide +kernel
theorem dX6_send_173 : decode cX6_send 173 = .ok (.iconst 0, 1) := by decide +kernel
theorem dX6_send_174 : decode cX6_send 174 = .ok (.aload_n 0, 1) := by decide +kernel
theorem dX6_send_175 : decode cX6_send 175 = .ok (.getfield 153, 3) := by decide +kernel
theorem dX6_send_178 : decode cX6_send 178 = .ok (.iastore, 1) := by decide +kernel
theorem dX6_send_179 : decode cX6_send 179 = .ok (.aload_n 0, 1) := by decide +kernel
theorem dX6_send_180 : decode cX6_send 180 = .ok (.getfield 50, 3) := by decide +kernel
theorem dX6_send_183 : decode cX6_send 183 = .ok (.iconst 1, 1) := by decide +kernel
theorem dX6_send_184 : decode cX6_send 184 = .ok (.aload_n 0, 1) := by decide +kernel
theorem dX6_send_185 : decode cX6_send 185 = .ok (.getfield 156, 3) := by decide +kernel
theorem dX6_send_188 : decode cX6_send 188 = .ok (.iastore, 1) := by decide +kernel
theorem dX6_send_189 : decode cX6_send 189 = .ok (.aload_n 0, 1) := by decide +kernel
theorem dX6_send_190 : decode cX6_send 190 = .ok (.getfield 50, 3) := by decide +kernel
theorem dX6_send_193 : decode cX6_send 193 = .ok (.iconst 2, 1) := by decide +kernel
theorem dX6_send_194 : decode cX6_send 194 = .ok (.aload_n 0, 1) := by decide +kernel
theorem dX6_send_195 : decode cX6_send 195 = .ok (.getfield 150, 3) := by decide +kernel
theorem dX6_send_198 : decode cX6_send 198 = .ok (.iastore, 1) := by decide +kernel
theorem dX6_send_199 : decode cX6_send 199 = .ok (.aload_n 0, 1) := by decide +kernel
theorem dX6_send_200 : decode cX6_send 200 = .ok (.getfield 50, 3) := by decide +kernel
theorem dX6_send_203 : decode cX6_send 203 = .ok (.iconst 3, 1) := by decide +kernel
theorem dX6_send_204 : decode cX6_send 204 = .ok (.aload_n 0, 1) := by decide +kernel
theorem dX6_send_205 : decode cX6_send 205 = .ok (.getfield 147, 3) := by decide +kernel
theorem dX6_send_208 : decode cX6_send 208 = .ok (.iastore, 1) := by decide +kernel
theorem dX6_send_209 : decode cX6_send 209 = .ok (.aload_n 0, 1) := by decide +kernel
theorem dX6_send_210 : decode cX6_send 210 = .ok (.getfield 50, 3) := by decide +kernel
theorem dX6_send_213 : decode cX6_send 213 = .ok (.iconst 4, 1) := by decide +kernel
theorem dX6_send_214 : decode cX6_send 214 = .ok (.aload_n 0, 1) := by decide +kernel
theorem dX6_send_215 : decode cX6_send 215 = .ok (.getfield 35, 3) := by decide +kernel
theorem dX6_send_218 : decode cX6_send 218 = .ok (.aload_n 0, 1) := by decide +kernel
theorem dX6_send_219 : decode cX6_send 219 = .ok (.getfield 153, 3) := by decide +kernel
theorem dX6_send_222 : decode cX6_send 222 = .ok (.iaload, 1) := by decide +kernel
theorem dX6_send_223 : decode cX6_send 223 = .ok (.iastore, 1) := by decide +kernel
theorem dX6_send_224 : decode cX6_send 224 = .ok (.aload_n 0, 1) := by decide +kernel
theorem dX6_send_225 : decode cX6_send 225 = .ok (.getfield 50, 3) := by decide +kernel
theorem dX6_send_228 : decode cX6_send 228 = .ok (.iconst 5, 1) := by decide +kernel
theorem dX6_send_229 : decode cX6_send 229 = .ok (.aload_n 0, 1) := by decide +kernel
theorem dX6_send_230 : decode cX6_send 230 = .ok (.getfield 144, 3) := by decide +kernel
theorem dX6_send_233 : decode cX6_send 233 = .ok (.iastore, 1) := by decide +kernel
theorem dX6_send_234 : decode cX6_send 234 = .ok (.aload_n 0, 1) := by decide +kernel
theorem dX6_send_235 : decode cX6_send 235 = .ok (.getfield 147, 3) := by decide +kernel
theorem dX6_send_238 : decode cX6_send 238 = .ok (.ifCond .ne 10, 3) := by decide +kernel
theorem dX6_send_241 : decode cX6_send 241 = .ok (.aload_n 0, 1) := by decide +kernel
theorem dX6_send_242 : decode cX6_send 242 = .ok (.getfield 153, 3) := by decide +kernel
theorem dX6_send_245 : decode cX6_send 245 = .ok (.goto 10, 3) := by decide +kernel
theorem dX6_send_248 : decode cX6_send 248 = .ok (.bipush (-10), 2) := by decide +kernel
theorem dX6_send_250 : decode cX6_send 250 = .ok (.aload_n 0, 1) := by decide +kernel
theorem dX6_send_251 : decode cX6_send 251 = .ok (.getfield 147, 3) := by decide +kernel
theorem dX6_send_254 : decode cX6_send 254 = .ok (.isub, 1) := by decide +kernel
theorem dX6_send_255 : decode cX6_send 255 = .ok (.ireturn, 1) := by decide +kernel
theorem dX6_letter_0 : decode cX6_letter 0 = .ok (.iload_n 1, 1) := by decide +kernel
theorem dX6_letter_1 : decode cX6_letter 1 = .ok (.iconst 0, 1) := by decide +kernel
theorem dX6_letter_2 : decode cX6_letter 2 = .ok (.iconst 5, 1) := by decide +kernel
theorem dX6_letter_3 : decode cX6_letter 3 = .ok (.invokestatic 62, 3) := by decide +kernel
theorem dX6_letter_6 : decode cX6_letter 6 = .ok (.ifCond .ne 5, 3) := by decide +kernel
theorem dX6_letter_9 : decode cX6_letter 9 = .ok (.iconst (-1), 1) := by decide +kernel
theorem dX6_letter_10 : decode cX6_letter 10 = .ok (.ireturn, 1) := by decide +kernel
theorem dX6_letter_11 : decode cX6_letter 11 = .ok (.aload_n 0, 1) := by decide +kernel
theorem dX6_letter_12 : decode cX6_letter 12 = .ok (.getfield 106, 3) := by decide +kernel
theorem dX6_letter_15 : decode cX6_letter 15 = .ok (.ifCond .eq 12, 3) := by decide +kernel
theorem dX6_letter_18 : decode cX6_letter 18 = .ok (.aload_n 0, 1) := by decide +kernel
theorem dX6_letter_19 : decode cX6_letter 19 = .ok (.getfield 50, 3) := by decide +kernel
theorem dX6_letter_22 : decode cX6_letter 22 = .ok (.iload_n 1, 1) := by decide +kernel
theorem dX6_letter_23 : decode cX6_letter 23 = .ok (.iaload, 1) := by decide +kernel
theorem dX6_letter_24 : decode cX6_letter 24 = .ok (.goto 5, 3) := by decide +kernel
theorem dX6_letter_27 : decode cX6_letter 27 = .ok (.bipush (-2), 2) := by decide +kernel
theorem dX6_letter_29 : decode cX6_letter 29 = .ok (.ireturn, 1) := by decide +kernel
theorem dX6_passed_0 : decode cX6_passed 0 = .ok (.iload_n 1, 1) := by decide +kernel
theorem dX6_passed_1 : decode cX6_passed 1 = .ok (.ifCond .ge 5, 3) := by decide +kernel
theorem dX6_passed_4 : decode cX6_passed 4 = .ok (.iconst (-1), 1) := by decide +kernel
theorem dX6_passed_5 : decode cX6_passed 5 = .ok (.ireturn, 1) := by decide +kernel
theorem dX6_passed_6 : decode cX6_passed 6 = .ok (.aload_n 0, 1) := by decide +kernel
theorem dX6_passed_7 : decode cX6_passed 7 = .ok (.getfield 106, 3) := by decide +kernel
theorem dX6_passed_10 : decode cX6_passed 10 = .ok (.ifCond .ne 8, 3) := by decide +kernel
theorem dX6_passed_13 : decode cX6_passed 13 = .ok (.bipush (-2), 2) := by decide +kernel
theorem dX6_passed_15 : decode cX6_passed 15 = .ok (.goto 24, 3) := by decide +kernel
theorem dX6_passed_18 : decode cX6_passed 18 = .ok (.iload_n 1, 1) := by decide +kernel
theorem dX6_passed_19 : decode cX6_passed 19 = .ok (.aload_n 0, 1) := by decide +kernel
theorem dX6_passed_20 : decode cX6_passed 20 = .ok (.getfield 50, 3) := by decide +kernel
theorem dX6_passed_23 : decode cX6_passed 23 = .ok (.iconst 0, 1) := by decide +kernel
theorem dX6_passed_24 : decode cX6_passed 24 = .ok (.iaload, 1) := by decide +kernel
theorem dX6_passed_25 : decode cX6_passed 25 = .ok (.if_icmp .gt 12, 3) := by decide +kernel
theorem dX6_passed_28 : decode cX6_passed 28 = .ok (.aload_n 0, 1) := by decide +kernel
theorem dX6_passed_29 : decode cX6_passed 29 = .ok (.getfield 47, 3) := by decide +kernel
theorem dX6_passed_32 : decode cX6_passed 32 = .ok (.iload_n 1, 1) := by decide +kernel
theorem dX6_passed_33 : decode cX6_passed 33 = .ok (.iaload, 1) := by decide +kernel
theorem dX6_passed_34 : decode cX6_passed 34 = .ok (.goto 5, 3) := by decide +kernel
theorem dX6_passed_37 : decode cX6_passed 37 = .ok (.bipush (-9), 2) := by decide +kernel
theorem dX6_passed_39 : decode cX6_passed 39 = .ok (.ireturn, 1) := by decide +kernel
theorem dX6_carried_0 : decode cX6_carried 0 = .ok (.iload_n 1, 1) := by decide +kernel
theorem dX6_carried_1 : decode cX6_carried 1 = .ok (.ifCond .lt 12, 3) := by decide +kernel
theorem dX6_carried_4 : decode cX6_carried 4 = .ok (.iload_n 2, 1) := by decide +kernel
theorem dX6_carried_5 : decode cX6_carried 5 = .ok (.iconst 0, 1) := by decide +kernel
theorem dX6_carried_6 : decode cX6_carried 6 = .ok (.iconst 1, 1) := by decide +kernel
theorem dX6_carried_7 : decode cX6_carried 7 = .ok (.invokestatic 62, 3) := by decide +kernel
theorem dX6_carried_10 : decode cX6_carried 10 = .ok (.ifCond .ne 5, 3) := by decide +kernel
theorem dX6_carried_13 : decode cX6_carried 13 = .ok (.iconst (-1), 1) := by decide +kernel
theorem dX6_carried_14 : decode cX6_carried 14 = .ok (.ireturn, 1) := by decide +kernel
theorem dX6_carried_15 : decode cX6_carried 15 = .ok (.aload_n 0, 1) := by decide +kernel
theorem dX6_carried_16 : decode cX6_carried 16 = .ok (.getfield 106, 3) := by decide +kernel
theorem dX6_carried_19 : decode cX6_carried 19 = .ok (.ifCond .ne 6, 3) := by decide +kernel
theorem dX6_carried_22 : decode cX6_carried 22 = .ok (.bipush (-2), 2) := by decide +kernel
theorem dX6_carried_24 : decode cX6_carried 24 = .ok (.ireturn, 1) := by decide +kernel
theorem dX6_carried_25 : decode cX6_carried 25 = .ok (.iload_n 1, 1) := by decide +kernel
theorem dX6_carried_26 : decode cX6_carried 26 = .ok (.aload_n 0, 1) := by decide +kernel
theorem dX6_carried_27 : decode cX6_carried 27 = .ok (.getfield 109, 3) := by decide +kernel
theorem dX6_carried_30 : decode cX6_carried 30 = .ok (.if_icmp .lt 8, 3) := by decide +kernel
theorem dX6_carried_33 : decode cX6_carried 33 = .ok (.bipush (-9), 2) := by decide +kernel
theorem dX6_carried_35 : decode cX6_carried 35 = .ok (.goto 22, 3) := by decide +kernel
theorem dX6_carried_38 : decode cX6_carried 38 = .ok (.iload_n 2, 1) := by decide +kernel
theorem dX6_carried_39 : decode cX6_carried 39 = .ok (.ifCond .ne 12, 3) := by decide +kernel
theorem dX6_carried_42 : decode cX6_carried 42 = .ok (.aload_n 0, 1) := by decide +kernel
theorem dX6_carried_43 : decode cX6_carried 43 = .ok (.getfield 41, 3) := by decide +kernel
theorem dX6_carried_46 : decode cX6_carried 46 = .ok (.iload_n 1, 1) := by decide +kernel
theorem dX6_carried_47 : decode cX6_carried 47 = .ok (.iaload, 1) := by decide +kernel
theorem dX6_carried_48 : decode cX6_carried 48 = .ok (.goto 9, 3) := by decide +kernel
theorem dX6_carried_51 : decode cX6_carried 51 = .ok (.aload_n 0, 1) := by decide +kernel
theorem dX6_carried_52 : decode cX6_carried 52 = .ok (.getfield 44, 3) := by decide +kernel
theorem dX6_carried_55 : decode cX6_carried 55 = .ok (.iload_n 1, 1) := by decide +kernel
theorem dX6_carried_56 : decode cX6_carried 56 = .ok (.iaload, 1) := by decide +kernel
theorem dX6_carried_57 : decode cX6_carried 57 = .ok (.ireturn, 1) := by decide +kernel
theorem dX6_note_0 : decode cX6_note 0 = .ok (.aload_n 0, 1) := by decide +kernel
theorem dX6_note_1 : decode cX6_note 1 = .ok (.getfield 53, 3) := by decide +kernel
theorem dX6_note_4 : decode cX6_note 4 = .ok (.iload_n 1, 1) := by decide +kernel
theorem dX6_note_5 : decode cX6_note 5 = .ok (.iload_n 2, 1) := by decide +kernel
theorem dX6_note_6 : decode cX6_note 6 = .ok (.aload_n 0, 1) := by decide +kernel
theorem dX6_note_7 : decode cX6_note 7 = .ok (.getfield 53, 3) := by decide +kernel
theorem dX6_note_10 : decode cX6_note 10 = .ok (.iload_n 1, 1) := by decide +kernel
theorem dX6_note_11 : decode cX6_note 11 = .ok (.iaload, 1) := by decide +kernel
theorem dX6_note_12 : decode cX6_note 12 = .ok (.if_icmp .le 7, 3) := by decide +kernel
theorem dX6_note_15 : decode cX6_note 15 = .ok (.iload_n 2, 1) := by decide +kernel
theorem dX6_note_16 : decode cX6_note 16 = .ok (.goto 9, 3) := by decide +kernel
theorem dX6_note_19 : decode cX6_note 19 = .ok (.aload_n 0, 1) := by decide +kernel
theorem dX6_note_20 : decode cX6_note 20 = .ok (.getfield 53, 3) := by decide +kernel
theorem dX6_note_23 : decode cX6_note 23 = .ok (.iload_n 1, 1) := by decide +kernel
theorem dX6_note_24 : decode cX6_note 24 = .ok (.iaload, 1) := by decide +kernel
theorem dX6_note_25 : decode cX6_note 25 = .ok (.iastore, 1) := by decide +kernel
theorem dX6_note_26 : decode cX6_note 26 = .ok (.return_, 1) := by decide +kernel
theorem dX6_layAll_0 : decode cX6_layAll 0 = .ok (.iconst 0, 1) := by decide +kernel
theorem dX6_layAll_1 : decode cX6_layAll 1 = .ok (.istore_n 3, 1) := by decide +kernel
theorem dX6_layAll_2 : decode cX6_layAll 2 = .ok (.iload_n 3, 1) := by decide +kernel
theorem dX6_layAll_3 : decode cX6_layAll 3 = .ok (.bipush 8, 2) := by decide +kernel
theorem dX6_layAll_5 : decode cX6_layAll 5 = .ok (.if_icmp .ge 16, 3) := by decide +kernel
theorem dX6_layAll_8 : decode cX6_layAll 8 = .ok (.aload_n 0, 1) := by decide +kernel
theorem dX6_layAll_9 : decode cX6_layAll 9 = .ok (.getfield 53, 3) := by decide +kernel
theorem dX6_layAll_12 : decode cX6_layAll 12 = .ok (.iload_n 3, 1) := by decide +kernel
theorem dX6_layAll_13 : decode cX6_layAll 13 = .ok (.iconst 0, 1) := by decide +kernel
theorem dX6_layAll_14 : decode cX6_layAll 14 = .ok (.iastore, 1) := by decide +kernel
theorem dX6_layAll_15 : decode cX6_layAll 15 = .ok (.iinc 3 1, 3) := by decide +kernel
theorem dX6_layAll_18 : decode cX6_layAll 18 = .ok (.goto (-16), 3) := by decide +kernel
theorem dX6_layAll_21 : decode cX6_layAll 21 = .ok (.iconst 0, 1) := by decide +kernel
theorem dX6_layAll_22 : decode cX6_layAll 22 = .ok (.istore_n 3, 1) := by decide +kernel
theorem dX6_layAll_23 : decode cX6_layAll 23 = .ok (.iload_n 3, 1) := by decide +kernel
theorem dX6_layAll_24 : decode cX6_layAll 24 = .ok (.aload_n 0, 1) := by decide +kernel
theorem dX6_layAll_25 : decode cX6_layAll 25 = .ok (.getfield 7, 3) := by decide +kernel
theorem dX6_layAll_28 : decode cX6_layAll 28 = .ok (.iconst 0, 1) := by decide +kernel
theorem dX6_layAll_29 : decode cX6_layAll 29 = .ok (.iaload, 1) := by decide +kernel
theorem dX6_layAll_30 : decode cX6_layAll 30 = .ok (.if_icmp .ge 44, 3) := by decide +kernel
theorem dX6_layAll_33 : decode cX6_layAll 33 = .ok (.iconst 0, 1) := by decide +kernel
theorem dX6_layAll_34 : decode cX6_layAll 34 = .ok (.istore 4, 2) := by decide +kernel
theorem dX6_layAll_36 : decode cX6_layAll 36 = .ok (.iload 4, 2) := by decide +kernel
theorem dX6_layAll_38 : decode cX6_layAll 38 = .ok (.aload_n 0, 1) := by decide +kernel
theorem dX6_layAll_39 : decode cX6_layAll 39 = .ok (.getfield 7, 3) := by decide +kernel
theorem dX6_layAll_42 : decode cX6_layAll 42 = .ok (.iconst 0, 1) := by decide +kernel
theorem dX6_layAll_43 : decode cX6_layAll 43 = .ok (.iaload, 1) := by decide +kernel
theorem dX6_layAll_44 : decode cX6_layAll 44 = .ok (.if_icmp .ge 24, 3) := by decide +kernel
theorem dX6_layAll_47 : decode cX6_layAll 47 = .ok (.iload_n 3, 1) := by decide +kernel
theorem dX6_layAll_48 : decode cX6_layAll 48 = .ok (.iload 4, 2) := by decide +kernel
theorem dX6_layAll_50 : decode cX6_layAll 50 = .ok (.if_icmp .eq 12, 3) := by decide +kernel
theorem dX6_layAll_53 : decode cX6_layAll 53 = .ok (.aload_n 0, 1) := by decide +kernel
theorem dX6_layAll_54 : decode cX6_layAll 54 = .ok (.iload_n 3, 1) := by decide +kernel
theorem dX6_layAll_55 : decode cX6_layAll 55 = .ok (.iload 4, 2) := by decide +kernel
theorem dX6_layAll_57 : decode cX6_layAll 57 = .ok (.iload_n 1, 1) := by decide +kernel
theorem dX6_layAll_58 : decode cX6_layAll 58 = .ok (.iload_n 2, 1) := by decide +kernel
theorem dX6_layAll_59 : decode cX6_layAll 59 = .ok (.invokevirtual 167, 3) := by decide +kernel
theorem dX6_layAll_62 : decode cX6_layAll 62 = .ok (.iinc 4 1, 3) := by decide +kernel
theorem dX6_layAll_65 : decode cX6_layAll 65 = .ok (.goto (-29), 3) := by decide +kernel
theorem dX6_layAll_68 : decode cX6_layAll 68 = .ok (.iinc 3 1, 3) := by decide +kernel
theorem dX6_layAll_71 : decode cX6_layAll 71 = .ok (.goto (-48), 3) := by decide +kernel
theorem dX6_layAll_74 : decode cX6_layAll 74 = .ok (.return_, 1) := by decide +kernel
theorem dX6_layPair_0 : decode cX6_layPair 0 = .ok (.aload_n 0, 1) := by decide +kernel
theorem dX6_layPair_1 : decode cX6_layPair 1 = .ok (.iload_n 2, 1) := by decide +kernel
theorem dX6_layPair_2 : decode cX6_layPair 2 = .ok (.bipush (-9), 2) := by decide +kernel
theorem dX6_layPair_4 : decode cX6_layPair 4 = .ok (.invokevirtual 120, 3) := by decide +kernel
theorem dX6_layPair_7 : decode cX6_layPair 7 = .ok (.aload_n 0, 1) := by decide +kernel
theorem dX6_layPair_8 : decode cX6_layPair 8 = .ok (.getfield 26, 3) := by decide +kernel
theorem dX6_layPair_11 : decode cX6_layPair 11 = .ok (.iload_n 1, 1) := by decide +kernel
theorem dX6_layPair_12 : decode cX6_layPair 12 = .ok (.iaload, 1) := by decide +kernel
theorem dX6_layPair_13 : decode cX6_layPair 13 = .ok (.ldc 112, 2) := by decide +kernel
theorem dX6_layPair_15 : decode cX6_layPair 15 = .ok (.if_icmp .ne 8, 3) := by decide +kernel
theorem dX6_layPair_18 : decode cX6_layPair 18 = .ok (.bipush (-9), 2) := by decide +kernel
theorem dX6_layPair_20 : decode cX6_layPair 20 = .ok (.goto 12, 3) := by decide +kernel
theorem dX6_layPair_23 : decode cX6_layPair 23 = .ok (.aload_n 0, 1) := by decide +kernel
theorem dX6_layPair_24 : decode cX6_layPair 24 = .ok (.getfield 26, 3) := by decide +kernel
theorem dX6_layPair_27 : decode cX6_layPair 27 = .ok (.iload_n 1, 1) := by decide +kernel
theorem dX6_layPair_28 : decode cX6_layPair 28 = .ok (.iaload, 1) := by decide +kernel
theorem dX6_layPair_29 : decode cX6_layPair 29 = .ok (.bipush 16, 2) := by decide +kernel
theorem dX6_layPair_31 : decode cX6_layPair 31 = .ok (.idiv, 1) := by decide +kernel
theorem dX6_layPair_32 : decode cX6_layPair 32 = .ok (.istore 5, 2) := by decide +kernel
theorem dX6_layPair_34 : decode cX6_layPair 34 = .ok (.aload_n 0, 1) := by decide +kernel
theorem dX6_layPair_35 : decode cX6_layPair 35 = .ok (.iload_n 1, 1) := by decide +kernel
theorem dX6_layPair_36 : decode cX6_layPair 36 = .ok (.iload_n 2, 1) := by decide +kernel
theorem dX6_layPair_37 : decode cX6_layPair 37 = .ok (.iload_n 3, 1) := by decide +kernel
theorem dX6_layPair_38 : decode cX6_layPair 38 = .ok (.iload 4, 2) := by decide +kernel
theorem dX6_layPair_40 : decode cX6_layPair 40 = .ok (.invokevirtual 163, 3) := by decide +kernel
theorem dX6_layPair_43 : decode cX6_layPair 43 = .ok (.aload_n 0, 1) := by decide +kernel
theorem dX6_layPair_44 : decode cX6_layPair 44 = .ok (.getfield 53, 3) := by decide +kernel
theorem dX6_layPair_47 : decode cX6_layPair 47 = .ok (.iconst 0, 1) := by decide +kernel
theorem dX6_layPair_48 : decode cX6_layPair 48 = .ok (.dup2, 1) := by decide +kernel
theorem dX6_layPair_49 : decode cX6_layPair 49 = .ok (.iaload, 1) := by decide +kernel
theorem dX6_layPair_50 : decode cX6_layPair 50 = .ok (.iload 5, 2) := by decide +kernel
theorem dX6_layPair_52 : decode cX6_layPair 52 = .ok (.bipush (-9), 2) := by decide +kernel
theorem dX6_layPair_54 : decode cX6_layPair 54 = .ok (.if_icmp .eq 7, 3) := by decide +kernel
theorem dX6_layPair_57 : decode cX6_layPair 57 = .ok (.iconst 1, 1) := by decide +kernel
theorem dX6_layPair_58 : decode cX6_layPair 58 = .ok (.goto 4, 3) := by decide +kernel
theorem dX6_layPair_61 : decode cX6_layPair 61 = .ok (.iconst 0, 1) := by decide +kernel
theorem dX6_layPair_62 : decode cX6_layPair 62 = .ok (.iadd, 1) := by decide +kernel
theorem dX6_layPair_63 : decode cX6_layPair 63 = .ok (.iastore, 1) := by decide +kernel
theorem dX6_layPair_64 : decode cX6_layPair 64 = .ok (.aload_n 0, 1) := by decide +kernel
theorem dX6_layPair_65 : decode cX6_layPair 65 = .ok (.getfield 53, 3) := by decide +kernel
theorem dX6_layPair_68 : decode cX6_layPair 68 = .ok (.iconst 2, 1) := by decide +kernel
theorem dX6_layPair_69 : decode cX6_layPair 69 = .ok (.dup2, 1) := by decide +kernel
theorem dX6_layPair_70 : decode cX6_layPair 70 = .ok (.iaload, 1) := by decide +kernel
theorem dX6_layPair_71 : decode cX6_layPair 71 = .ok (.iload 5, 2) := by decide +kernel
theorem dX6_layPair_73 : decode cX6_layPair 73 = .ok (.bipush (-9), 2) := by decide +kernel
theorem dX6_layPair_75 : decode cX6_layPair 75 = .ok (.if_icmp .eq 14, 3) := by decide +kernel
theorem dX6_layPair_78 : decode cX6_layPair 78 = .ok (.aload_n 0, 1) := by decide +kernel
theorem dX6_layPair_79 : decode cX6_layPair 79 = .ok (.getfield 147, 3) := by decide +kernel
theorem dX6_layPair_82 : decode cX6_layPair 82 = .ok (.ifCond .eq 7, 3) := by decide +kernel
theorem dX6_layPair_85 : decode cX6_layPair 85 = .ok (.iconst 1, 1) := by decide +kernel
theorem dX6_layPair_86 : decode cX6_layPair 86 = .ok (.goto 4, 3) := by decide +kernel
theorem dX6_layPair_89 : decode cX6_layPair 89 = .ok (.iconst 0, 1) := by decide +kernel
theorem dX6_layPair_90 : decode cX6_layPair 90 = .ok (.iadd, 1) := by decide +kernel
theorem dX6_layPair_91 : decode cX6_layPair 91 = .ok (.iastore, 1) := by decide +kernel
theorem dX6_layPair_92 : decode cX6_layPair 92 = .ok (.aload_n 0, 1) := by decide +kernel
theorem dX6_layPair_93 : decode cX6_layPair 93 = .ok (.iconst 5, 1) := by decide +kernel
theorem dX6_layPair_94 : decode cX6_layPair 94 = .ok (.aload_n 0, 1) := by decide +kernel
theorem dX6_layPair_95 : decode cX6_layPair 95 = .ok (.getfield 150, 3) := by decide +kernel
theorem dX6_layPair_98 : decode cX6_layPair 98 = .ok (.invokevirtual 170, 3) := by decide +kernel
theorem dX6_layPair_101 : decode cX6_layPair 101 = .ok (.aload_n 0, 1) := by decide +kernel
theorem dX6_layPair_102 : decode cX6_layPair 102 = .ok (.bipush 6, 2) := by decide +kernel
theorem dX6_layPair_104 : decode cX6_layPair 104 = .ok (.aload_n 0, 1) := by decide +kernel
theorem dX6_layPair_105 : decode cX6_layPair 105 = .ok (.getfield 153, 3) := by decide +kernel
theorem dX6_layPair_108 : decode cX6_layPair 108 = .ok (.invokevirtual 170, 3) := by decide +kernel
theorem dX6_layPair_111 : decode cX6_layPair 111 = .ok (.aload_n 0, 1) := by decide +kernel
theorem dX6_layPair_112 : decode cX6_layPair 112 = .ok (.getfield 147, 3) := by decide +kernel
theorem dX6_layPair_115 : decode cX6_layPair 115 = .ok (.ifCond .ne 61, 3) := by decide +kernel
theorem dX6_layPair_118 : decode cX6_layPair 118 = .ok (.aload_n 0, 1) := by decide +kernel
theorem dX6_layPair_119 : decode cX6_layPair 119 = .ok (.getfield 53, 3) := by decide +kernel
theorem dX6_layPair_122 : decode cX6_layPair 122 = .ok (.iconst 1, 1) := by decide +kernel
theorem dX6_layPair_123 : decode cX6_layPair 123 = .ok (.dup2, 1) := by decide +kernel
theorem dX6_layPair_124 : decode cX6_layPair 124 = .ok (.iaload, 1) := by decide +kernel
theorem dX6_layPair_125 : decode cX6_layPair 125 = .ok (.iconst 1, 1) := by decide +kernel
theorem dX6_layPair_126 : decode cX6_layPair 126 = .ok (.iadd, 1) := by decide +kernel
theorem dX6_layPair_127 : decode cX6_layPair 127 = .ok (.iastore, 1) := by decide +kernel
theorem dX6_layPair_128 : decode cX6_layPair 128 = .ok (.aload_n 0, 1) := by decide +kernel
theorem dX6_layPair_129 : decode cX6_layPair 129 = .ok (.getfield 53, 3) := by decide +kernel
theorem dX6_layPair_132 : decode cX6_layPair 132 = .ok (.iconst 3, 1) := by decide +kernel
theorem dX6_layPair_133 : decode cX6_layPair 133 = .ok (.dup2, 1) := by decide +kernel
theorem dX6_layPair_134 : decode cX6_layPair 134 = .ok (.iaload, 1) := by decide +kernel
theorem dX6_layPair_135 : decode cX6_layPair 135 = .ok (.aload_n 0, 1) := by decide +kernel
theorem dX6_layPair_136 : decode cX6_layPair 136 = .ok (.getfield 156, 3) := by decide +kernel
theorem dX6_layPair_139 : decode cX6_layPair 139 = .ok (.iadd, 1) := by decide +kernel
theorem dX6_layPair_140 : decode cX6_layPair 140 = .ok (.iastore, 1) := by decide +kernel
theorem dX6_layPair_141 : decode cX6_layPair 141 = .ok (.aload_n 0, 1) := by decide +kernel
theorem dX6_layPair_142 : decode cX6_layPair 142 = .ok (.getfield 53, 3) := by decide +kernel
theorem dX6_layPair_145 : decode cX6_layPair 145 = .ok (.iconst 4, 1) := by decide +kernel
theorem dX6_layPair_146 : decode cX6_layPair 146 = .ok (.dup2, 1) := by decide +kernel
theorem dX6_layPair_147 : decode cX6_layPair 147 = .ok (.iaload, 1) := by decide +kernel
theorem dX6_layPair_148 : decode cX6_layPair 148 = .ok (.iload 5, 2) := by decide +kernel
theorem dX6_layPair_150 : decode cX6_layPair 150 = .ok (.iadd, 1) := by decide +kernel
theorem dX6_layPair_151 : decode cX6_layPair 151 = .ok (.iastore, 1) := by decide +kernel
theorem dX6_layPair_152 : decode cX6_layPair 152 = .ok (.aload_n 0, 1) := by decide +kernel
theorem dX6_layPair_153 : decode cX6_layPair 153 = .ok (.getfield 53, 3) := by decide +kernel
theorem dX6_layPair_156 : decode cX6_layPair 156 = .ok (.bipush 7, 2) := by decide +kernel
theorem dX6_layPair_158 : decode cX6_layPair 158 = .ok (.dup2, 1) := by decide +kernel
theorem dX6_layPair_159 : decode cX6_layPair 159 = .ok (.iaload, 1) := by decide +kernel
theorem dX6_layPair_160 : decode cX6_layPair 160 = .ok (.aload_n 0, 1) := by decide +kernel
theorem dX6_layPair_161 : decode cX6_layPair 161 = .ok (.getfield 156, 3) := by decide +kernel
theorem dX6_layPair_164 : decode cX6_layPair 164 = .ok (.iload 5, 2) := by decide +kernel
theorem dX6_layPair_166 : decode cX6_layPair 166 = .ok (.if_icmp .le 7, 3) := by decide +kernel
theorem dX6_layPair_169 : decode cX6_layPair 169 = .ok (.iconst 1, 1) := by decide +kernel
theorem dX6_layPair_170 : decode cX6_layPair 170 = .ok (.goto 4, 3) := by decide +kernel
theorem dX6_layPair_173 : decode cX6_layPair 173 = .ok (.iconst 0, 1) := by decide +kernel
theorem dX6_layPair_174 : decode cX6_layPair 174 = .ok (.iadd, 1) := by decide +kernel
theorem dX6_layPair_175 : decode cX6_layPair 175 = .ok (.iastore, 1) := by decide +kernel
theorem dX6_layPair_176 : decode cX6_layPair 176 = .ok (.return_, 1) := by decide +kernel
theorem dX6_all_0 : decode cX6_all 0 = .ok (.iload_n 1, 1) := by decide +kernel
theorem dX6_all_1 : decode cX6_all 1 = .ok (.iconst 0, 1) := by decide +kernel
theorem dX6_all_2 : decode cX6_all 2 = .ok (.bipush 7, 2) := by decide +kernel
theorem dX6_all_4 : decode cX6_all 4 = .ok (.invokestatic 62, 3) := by decide +kernel
theorem dX6_all_7 : decode cX6_all 7 = .ok (.ifCond .eq 12, 3) := by decide +kernel
theorem dX6_all_10 : decode cX6_all 10 = .ok (.iload_n 2, 1) := by decide +kernel
theorem dX6_all_11 : decode cX6_all 11 = .ok (.iconst 0, 1) := by decide +kernel
theorem dX6_all_12 : decode cX6_all 12 = .ok (.iconst 1, 1) := by decide +kernel
theorem dX6_all_13 : decode cX6_all 13 = .ok (.invokestatic 62, 3) := by decide +kernel
theorem dX6_all_16 : decode cX6_all 16 = .ok (.ifCond .ne 5, 3) := by decide +kernel
theorem dX6_all_19 : decode cX6_all 19 = .ok (.iconst (-1), 1) := by decide +kernel
theorem dX6_all_20 : decode cX6_all 20 = .ok (.ireturn, 1) := by decide +kernel
theorem dX6_all_21 : decode cX6_all 21 = .ok (.aload_n 0, 1) := by decide +kernel
theorem dX6_all_22 : decode cX6_all 22 = .ok (.iload_n 2, 1) := by decide +kernel
theorem dX6_all_23 : decode cX6_all 23 = .ok (.iconst 1, 1) := by decide +kernel
theorem dX6_all_24 : decode cX6_all 24 = .ok (.if_icmp .ne 7, 3) := by decide +kernel
theorem dX6_all_27 : decode cX6_all 27 = .ok (.iconst 1, 1) := by decide +kernel
theorem dX6_all_28 : decode cX6_all 28 = .ok (.goto 4, 3) := by decide +kernel
theorem dX6_all_31 : decode cX6_all 31 = .ok (.iconst 0, 1) := by decide +kernel
theorem dX6_all_32 : decode cX6_all 32 = .ok (.aload_n 0, 1) := by decide +kernel
theorem dX6_all_33 : decode cX6_all 33 = .ok (.getfield 7, 3) := by decide +kernel
theorem dX6_all_36 : decode cX6_all 36 = .ok (.iconst 2, 1) := by decide +kernel
theorem dX6_all_37 : decode cX6_all 37 = .ok (.iaload, 1) := by decide +kernel
theorem dX6_all_38 : decode cX6_all 38 = .ok (.invokevirtual 173, 3) := by decide +kernel
theorem dX6_all_41 : decode cX6_all 41 = .ok (.aload_n 0, 1) := by decide +kernel
theorem dX6_all_42 : decode cX6_all 42 = .ok (.getfield 53, 3) := by decide +kernel
theorem dX6_all_45 : decode cX6_all 45 = .ok (.iload_n 1, 1) := by decide +kernel
theorem dX6_all_46 : decode cX6_all 46 = .ok (.iaload, 1) := by decide +kernel
theorem dX6_all_47 : decode cX6_all 47 = .ok (.ireturn, 1) := by decide +kernel
theorem dX6_stretch_0 : decode cX6_stretch 0 = .ok (.iload_n 1, 1) := by decide +kernel
theorem dX6_stretch_1 : decode cX6_stretch 1 = .ok (.iconst 0, 1) := by decide +kernel
theorem dX6_stretch_2 : decode cX6_stretch 2 = .ok (.iconst 1, 1) := by decide +kernel
theorem dX6_stretch_3 : decode cX6_stretch 3 = .ok (.invokestatic 62, 3) := by decide +kernel
theorem dX6_stretch_6 : decode cX6_stretch 6 = .ok (.ifCond .ne 6, 3) := by decide +kernel
theorem dX6_stretch_9 : decode cX6_stretch 9 = .ok (.ldc 177, 2) := by decide +kernel
theorem dX6_stretch_11 : decode cX6_stretch 11 = .ok (.freturn, 1) := by decide +kernel
theorem dX6_stretch_12 : decode cX6_stretch 12 = .ok (.aload_n 0, 1) := by decide +kernel
theorem dX6_stretch_13 : decode cX6_stretch 13 = .ok (.iload_n 1, 1) := by decide +kernel
theorem dX6_stretch_14 : decode cX6_stretch 14 = .ok (.iconst 1, 1) := by decide +kernel
theorem dX6_stretch_15 : decode cX6_stretch 15 = .ok (.if_icmp .ne 7, 3) := by decide +kernel
theorem dX6_stretch_18 : decode cX6_stretch 18 = .ok (.iconst 1, 1) := by decide +kernel
theorem dX6_stretch_19 : decode cX6_stretch 19 = .ok (.goto 4, 3) := by decide +kernel
theorem dX6_stretch_22 : decode cX6_stretch 22 = .ok (.iconst 0, 1) := by decide +kernel
theorem dX6_stretch_23 : decode cX6_stretch 23 = .ok (.aload_n 0, 1) := by decide +kernel
theorem dX6_stretch_24 : decode cX6_stretch 24 = .ok (.getfield 7, 3) := by decide +kernel
theorem dX6_stretch_27 : decode cX6_stretch 27 = .ok (.iconst 2, 1) := by decide +kernel
theorem dX6_stretch_28 : decode cX6_stretch 28 = .ok (.iaload, 1) := by decide +kernel
theorem dX6_stretch_29 : decode cX6_stretch 29 = .ok (.invokevirtual 173, 3) := by decide +kernel
theorem dX6_stretch_32 : decode cX6_stretch 32 = .ok (.aload_n 0, 1) := by decide +kernel
theorem dX6_stretch_33 : decode cX6_stretch 33 = .ok (.getfield 53, 3) := by decide +kernel
theorem dX6_stretch_36 : decode cX6_stretch 36 = .ok (.iconst 1, 1) := by decide +kernel
theorem dX6_stretch_37 : decode cX6_stretch 37 = .ok (.iaload, 1) := by decide +kernel
theorem dX6_stretch_38 : decode cX6_stretch 38 = .ok (.ifCond .ne 7, 3) := by decide +kernel
theorem dX6_stretch_41 : decode cX6_stretch 41 = .ok (.fconst 0, 1) := by decide +kernel
theorem dX6_stretch_42 : decode cX6_stretch 42 = .ok (.goto 18, 3) := by decide +kernel
theorem dX6_stretch_45 : decode cX6_stretch 45 = .ok (.aload_n 0, 1) := by decide +kernel
theorem dX6_stretch_46 : decode cX6_stretch 46 = .ok (.getfield 53, 3) := by decide +kernel
theorem dX6_stretch_49 : decode cX6_stretch 49 = .ok (.iconst 3, 1) := by decide +kernel
theorem dX6_stretch_50 : decode cX6_stretch 50 = .ok (.iaload, 1) := by decide +kernel
theorem dX6_stretch_51 : decode cX6_stretch 51 = .ok (.i2f, 1) := by decide +kernel
theorem dX6_stretch_52 : decode cX6_stretch 52 = .ok (.aload_n 0, 1) := by decide +kernel
theorem dX6_stretch_53 : decode cX6_stretch 53 = .ok (.getfield 53, 3) := by decide +kernel
theorem dX6_stretch_56 : decode cX6_stretch 56 = .ok (.iconst 4, 1) := by decide +kernel
theorem dX6_stretch_57 : decode cX6_stretch 57 = .ok (.iaload, 1) := by decide +kernel
theorem dX6_stretch_58 : decode cX6_stretch 58 = .ok (.i2f, 1) := by decide +kernel
theorem dX6_stretch_59 : decode cX6_stretch 59 = .ok (.fdiv, 1) := by decide +kernel
theorem dX6_stretch_60 : decode cX6_stretch 60 = .ok (.freturn, 1) := by decide +kernel
theorem dX6_enoughRoom_0 : decode cX6_enoughRoom 0 = .ok (.aload_n 0, 1) := by decide +kernel
theorem dX6_enoughRoom_1 : decode cX6_enoughRoom 1 = .ok (.iconst 0, 1) := by decide +kernel
theorem dX6_enoughRoom_2 : decode cX6_enoughRoom 2 = .ok (.bipush 18, 2) := by decide +kernel
theorem dX6_enoughRoom_4 : decode cX6_enoughRoom 4 = .ok (.invokevirtual 173, 3) := by decide +kernel
theorem dX6_enoughRoom_7 : decode cX6_enoughRoom 7 = .ok (.aload_n 0, 1) := by decide +kernel
theorem dX6_enoughRoom_8 : decode cX6_enoughRoom 8 = .ok (.getfield 53, 3) := by decide +kernel
theorem dX6_enoughRoom_11 : decode cX6_enoughRoom 11 = .ok (.iconst 1, 1) := by decide +kernel
theorem dX6_enoughRoom_12 : decode cX6_enoughRoom 12 = .ok (.iaload, 1) := by decide +kernel
theorem dX6_enoughRoom_13 : decode cX6_enoughRoom 13 = .ok (.istore_n 1, 1) := by decide +kernel
theorem dX6_enoughRoom_14 : decode cX6_enoughRoom 14 = .ok (.iconst 0, 1) := by decide +kernel
theorem dX6_enoughRoom_15 : decode cX6_enoughRoom 15 = .ok (.istore_n 2, 1) := by decide +kernel
theorem dX6_enoughRoom_16 : decode cX6_enoughRoom 16 = .ok (.aload_n 0, 1) := by decide +kernel
theorem dX6_enoughRoom_17 : decode cX6_enoughRoom 17 = .ok (.iconst 0, 1) := by decide +kernel
theorem dX6_enoughRoom_18 : decode cX6_enoughRoom 18 = .ok (.iload_n 2, 1) := by decide +kernel
theorem dX6_enoughRoom_19 : decode cX6_enoughRoom 19 = .ok (.invokevirtual 173, 3) := by decide +kernel
theorem dX6_enoughRoom_22 : decode cX6_enoughRoom 22 = .ok (.aload_n 0, 1) := by decide +kernel
theorem dX6_enoughRoom_23 : decode cX6_enoughRoom 23 = .ok (.getfield 53, 3) := by decide +kernel
theorem dX6_enoughRoom_26 : decode cX6_enoughRoom 26 = .ok (.iconst 1, 1) := by decide +kernel
theorem dX6_enoughRoom_27 : decode cX6_enoughRoom 27 = .ok (.iaload, 1) := by decide +kernel
theorem dX6_enoughRoom_28 : decode cX6_enoughRoom 28 = .ok (.iload_n 1, 1) := by decide +kernel
theorem dX6_enoughRoom_29 : decode cX6_enoughRoom 29 = .ok (.if_icmp .eq 15, 3) := by decide +kernel
theorem dX6_enoughRoom_32 : decode cX6_enoughRoom 32 = .ok (.iinc 2 1, 3) := by decide +kernel
theorem dX6_enoughRoom_35 : decode cX6_enoughRoom 35 = .ok (.aload_n 0, 1) := by decide +kernel
theorem dX6_enoughRoom_36 : decode cX6_enoughRoom 36 = .ok (.iconst 0, 1) := by decide +kernel
theorem dX6_enoughRoom_37 : decode cX6_enoughRoom 37 = .ok (.iload_n 2, 1) := by decide +kernel
theorem dX6_enoughRoom_38 : decode cX6_enoughRoom 38 = .ok (.invokevirtual 173, 3) := by decide +kernel
theorem dX6_enoughRoom_41 : decode cX6_enoughRoom 41 = .ok (.goto (-19), 3) := by decide +kernel
theorem dX6_enoughRoom_44 : decode cX6_enoughRoom 44 = .ok (.iload_n 2, 1) := by decide +kernel
theorem dX6_enoughRoom_45 : decode cX6_enoughRoom 45 = .ok (.ireturn, 1) := by decide +kernel
theorem dX6_write_0 : decode cX6_write 0 = .ok (.iload_n 1, 1) := by decide +kernel
theorem dX6_write_1 : decode cX6_write 1 = .ok (.bipush 32, 2) := by decide +kernel
theorem dX6_write_3 : decode cX6_write 3 = .ok (.bipush 126, 2) := by decide +kernel
theorem dX6_write_5 : decode cX6_write 5 = .ok (.invokestatic 62, 3) := by decide +kernel
theorem dX6_write_8 : decode cX6_write 8 = .ok (.ifCond .ne 5, 3) := by decide +kernel
theorem dX6_write_11 : decode cX6_write 11 = .ok (.iconst (-1), 1) := by decide +kernel
theorem dX6_write_12 : decode cX6_write 12 = .ok (.ireturn, 1) := by decide +kernel
theorem dX6_write_13 : decode cX6_write 13 = .ok (.aload_n 0, 1) := by decide +kernel
theorem dX6_write_14 : decode cX6_write 14 = .ok (.getfield 131, 3) := by decide +kernel
theorem dX6_write_17 : decode cX6_write 17 = .ok (.bipush 80, 2) := by decide +kernel
theorem dX6_write_19 : decode cX6_write 19 = .ok (.if_icmp .ne 6, 3) := by decide +kernel
theorem dX6_write_22 : decode cX6_write 22 = .ok (.bipush (-3), 2) := by decide +kernel
theorem dX6_write_24 : decode cX6_write 24 = .ok (.ireturn, 1) := by decide +kernel
theorem dX6_write_25 : decode cX6_write 25 = .ok (.aload_n 0, 1) := by decide +kernel
theorem dX6_write_26 : decode cX6_write 26 = .ok (.getfield 19, 3) := by decide +kernel
theorem dX6_write_29 : decode cX6_write 29 = .ok (.aload_n 0, 1) := by decide +kernel
theorem dX6_write_30 : decode cX6_write 30 = .ok (.getfield 131, 3) := by decide +kernel
theorem dX6_write_33 : decode cX6_write 33 = .ok (.iload_n 1, 1) := by decide +kernel
theorem dX6_write_34 : decode cX6_write 34 = .ok (.iastore, 1) := by decide +kernel
theorem dX6_write_35 : decode cX6_write 35 = .ok (.aload_n 0, 1) := by decide +kernel
theorem dX6_write_36 : decode cX6_write 36 = .ok (.dup, 1) := by decide +kernel
theorem dX6_write_37 : decode cX6_write 37 = .ok (.getfield 131, 3) := by decide +kernel
theorem dX6_write_40 : decode cX6_write 40 = .ok (.iconst 1, 1) := by decide +kernel
theorem dX6_write_41 : decode cX6_write 41 = .ok (.iadd, 1) := by decide +kernel
theorem dX6_write_42 : decode cX6_write 42 = .ok (.putfield 131, 3) := by decide +kernel
theorem dX6_write_45 : decode cX6_write 45 = .ok (.aload_n 0, 1) := by decide +kernel
theorem dX6_write_46 : decode cX6_write 46 = .ok (.getfield 131, 3) := by decide +kernel
theorem dX6_write_49 : decode cX6_write 49 = .ok (.ireturn, 1) := by decide +kernel
theorem dX6_wipe_0 : decode cX6_wipe 0 = .ok (.aload_n 0, 1) := by decide +kernel
theorem dX6_wipe_1 : decode cX6_wipe 1 = .ok (.getfield 131, 3) := by decide +kernel
theorem dX6_wipe_4 : decode cX6_wipe 4 = .ok (.istore_n 1, 1) := by decide +kernel
theorem dX6_wipe_5 : decode cX6_wipe 5 = .ok (.aload_n 0, 1) := by decide +kernel
theorem dX6_wipe_6 : decode cX6_wipe 6 = .ok (.iconst 0, 1) := by decide +kernel
theorem dX6_wipe_7 : decode cX6_wipe 7 = .ok (.putfield 131, 3) := by decide +kernel
theorem dX6_wipe_10 : decode cX6_wipe 10 = .ok (.iload_n 1, 1) := by decide +kernel
theorem dX6_wipe_11 : decode cX6_wipe 11 = .ok (.ireturn, 1) := by decide +kernel
theorem dX6_kindOf_0 : decode cX6_kindOf 0 = .ok (.iload_n 2, 1) := by decide +kernel
theorem dX6_kindOf_1 : decode cX6_kindOf 1 = .ok (.iload_n 1, 1) := by decide +kernel
theorem dX6_kindOf_2 : decode cX6_kindOf 2 = .ok (.iconst 1, 1) := by decide +kernel
theorem dX6_kindOf_3 : decode cX6_kindOf 3 = .ok (.iadd, 1) := by decide +kernel
theorem dX6_kindOf_4 : decode cX6_kindOf 4 = .ok (.if_icmp .ne 48, 3) := by decide +kernel
theorem dX6_kindOf_7 : decode cX6_kindOf 7 = .ok (.aload_n 0, 1) := by decide +kernel
theorem dX6_kindOf_8 : decode cX6_kindOf 8 = .ok (.getfield 19, 3) := by decide +kernel
theorem dX6_kindOf_11 : decode cX6_kindOf 11 = .ok (.iload_n 1, 1) := by decide +kernel
theorem dX6_kindOf_12 : decode cX6_kindOf 12 = .ok (.iaload, 1) := by decide +kernel
theorem dX6_kindOf_13 : decode cX6_kindOf 13 = .ok (.bipush 97, 2) := by decide +kernel
theorem dX6_kindOf_15 : decode cX6_kindOf 15 = .ok (.bipush 105, 2) := by decide +kernel
theorem dX6_kindOf_17 : decode cX6_kindOf 17 = .ok (.invokestatic 62, 3) := by decide +kernel
theorem dX6_kindOf_20 : decode cX6_kindOf 20 = .ok (.ifCond .eq 8, 3) := by decide +kernel
theorem dX6_kindOf_23 : decode cX6_kindOf 23 = .ok (.bipush 20, 2) := by decide +kernel
theorem dX6_kindOf_25 : decode cX6_kindOf 25 = .ok (.goto 26, 3) := by decide +kernel
theorem dX6_kindOf_28 : decode cX6_kindOf 28 = .ok (.aload_n 0, 1) := by decide +kernel
theorem dX6_kindOf_29 : decode cX6_kindOf 29 = .ok (.getfield 19, 3) := by decide +kernel
theorem dX6_kindOf_32 : decode cX6_kindOf 32 = .ok (.iload_n 1, 1) := by decide +kernel
theorem dX6_kindOf_33 : decode cX6_kindOf 33 = .ok (.iaload, 1) := by decide +kernel
theorem dX6_kindOf_34 : decode cX6_kindOf 34 = .ok (.bipush 49, 2) := by decide +kernel
theorem dX6_kindOf_36 : decode cX6_kindOf 36 = .ok (.bipush 57, 2) := by decide +kernel
theorem dX6_kindOf_38 : decode cX6_kindOf 38 = .ok (.invokestatic 62, 3) := by decide +kernel
theorem dX6_kindOf_41 : decode cX6_kindOf 41 = .ok (.ifCond .eq 8, 3) := by decide +kernel
theorem dX6_kindOf_44 : decode cX6_kindOf 44 = .ok (.bipush 21, 2) := by decide +kernel
theorem dX6_kindOf_46 : decode cX6_kindOf 46 = .ok (.goto 5, 3) := by decide +kernel
theorem dX6_kindOf_49 : decode cX6_kindOf 49 = .ok (.bipush (-9), 2) := by decide +kernel
theorem dX6_kindOf_51 : decode cX6_kindOf 51 = .ok (.ireturn, 1) := by decide +kernel
theorem dX6_kindOf_52 : decode cX6_kindOf 52 = .ok (.iload_n 2, 1) := by decide +kernel
theorem dX6_kindOf_53 : decode cX6_kindOf 53 = .ok (.iload_n 1, 1) := by decide +kernel
theorem dX6_kindOf_54 : decode cX6_kindOf 54 = .ok (.isub, 1) := by decide +kernel
theorem dX6_kindOf_55 : decode cX6_kindOf 55 = .ok (.istore_n 3, 1) := by decide +kernel
theorem dX6_kindOf_56 : decode cX6_kindOf 56 = .ok (.iload_n 3, 1) := by decide +kernel
theorem dX6_kindOf_57 : decode cX6_kindOf 57 = .ok (.iconst 3, 1) := by decide +kernel
theorem dX6_kindOf_58 : decode cX6_kindOf 58 = .ok (.if_icmp .ne 42, 3) := by decide +kernel
theorem dX6_kindOf_61 : decode cX6_kindOf 61 = .ok (.aload_n 0, 1) := by decide +kernel
theorem dX6_kindOf_62 : decode cX6_kindOf 62 = .ok (.iload_n 1, 1) := by decide +kernel
theorem dX6_kindOf_63 : decode cX6_kindOf 63 = .ok (.bipush 99, 2) := by decide +kernel
theorem dX6_kindOf_65 : decode cX6_kindOf 65 = .ok (.bipush 117, 2) := by decide +kernel
theorem dX6_kindOf_67 : decode cX6_kindOf 67 = .ok (.bipush 116, 2) := by decide +kernel
theorem dX6_kindOf_69 : decode cX6_kindOf 69 = .ok (.invokevirtual 178, 3) := by decide +kernel
theorem dX6_kindOf_72 : decode cX6_kindOf 72 = .ok (.ifCond .eq 7, 3) := by decide +kernel
theorem dX6_kindOf_75 : decode cX6_kindOf 75 = .ok (.iconst 1, 1) := by decide +kernel
theorem dX6_kindOf_76 : decode cX6_kindOf 76 = .ok (.goto 23, 3) := by decide +kernel
theorem dX6_kindOf_79 : decode cX6_kindOf 79 = .ok (.aload_n 0, 1) := by decide +kernel
theorem dX6_kindOf_80 : decode cX6_kindOf 80 = .ok (.iload_n 1, 1) := by decide +kernel
theorem dX6_kindOf_81 : decode cX6_kindOf 81 = .ok (.bipush 102, 2) := by decide +kernel
theorem dX6_kindOf_83 : decode cX6_kindOf 83 = .ok (.bipush 105, 2) := by decide +kernel
theorem dX6_kindOf_85 : decode cX6_kindOf 85 = .ok (.bipush 120, 2) := by decide +kernel
theorem dX6_kindOf_87 : decode cX6_kindOf 87 = .ok (.invokevirtual 178, 3) := by decide +kernel
theorem dX6_kindOf_90 : decode cX6_kindOf 90 = .ok (.ifCond .eq 7, 3) := by decide +kernel
theorem dX6_kindOf_93 : decode cX6_kindOf 93 = .ok (.iconst 2, 1) := by decide +kernel
theorem dX6_kindOf_94 : decode cX6_kindOf 94 = .ok (.goto 5, 3) := by decide +kernel
theorem dX6_kindOf_97 : decode cX6_kindOf 97 = .ok (.bipush (-9), 2) := by decide +kernel
theorem dX6_kindOf_99 : decode cX6_kindOf 99 = .ok (.ireturn, 1) := by decide +kernel
theorem dX6_kindOf_100 : decode cX6_kindOf 100 = .ok (.iload_n 3, 1) := by decide +kernel
theorem dX6_kindOf_101 : decode cX6_kindOf 101 = .ok (.iconst 4, 1) := by decide +kernel
theorem dX6_kindOf_102 : decode cX6_kindOf 102 = .ok (.if_icmp .ne 68, 3) := by decide +kernel
theorem dX6_kindOf_105 : decode cX6_kindOf 105 = .ok (.aload_n 0, 1) := by decide +kernel
theorem dX6_kindOf_106 : decode cX6_kindOf 106 = .ok (.iload_n 1, 1) := by decide +kernel
theorem dX6_kindOf_107 : decode cX6_kindOf 107 = .ok (.bipush 108, 2) := by decide +kernel
theorem dX6_kindOf_109 : decode cX6_kindOf 109 = .ok (.bipush 105, 2) := by decide +kernel
theorem dX6_kindOf_111 : decode cX6_kindOf 111 = .ok (.bipush 110, 2) := by decide +kernel
theorem dX6_kindOf_113 : decode cX6_kindOf 113 = .ok (.invokevirtual 178, 3) := by decide +kernel
theorem dX6_kindOf_116 : decode cX6_kindOf 116 = .ok (.ifCond .eq 20, 3) := by decide +kernel
theorem dX6_kindOf_119 : decode cX6_kindOf 119 = .ok (.aload_n 0, 1) := by decide +kernel
theorem dX6_kindOf_120 : decode cX6_kindOf 120 = .ok (.getfield 19, 3) := by decide +kernel
theorem dX6_kindOf_123 : decode cX6_kindOf 123 = .ok (.iload_n 1, 1) := by decide +kernel
theorem dX6_kindOf_124 : decode cX6_kindOf 124 = .ok (.iconst 3, 1) := by decide +kernel
theorem dX6_kindOf_125 : decode cX6_kindOf 125 = .ok (.iadd, 1) := by decide +kernel
theorem dX6_kindOf_126 : decode cX6_kindOf 126 = .ok (.iaload, 1) := by decide +kernel
theorem dX6_kindOf_127 : decode cX6_kindOf 127 = .ok (.bipush 107, 2) := by decide +kernel
theorem dX6_kindOf_129 : decode cX6_kindOf 129 = .ok (.if_icmp .ne 7, 3) := by decide +kernel
theorem dX6_kindOf_132 : decode cX6_kindOf 132 = .ok (.iconst 0, 1) := by decide +kernel
theorem dX6_kindOf_133 : decode cX6_kindOf 133 = .ok (.goto 36, 3) := by decide +kernel
theorem dX6_kindOf_136 : decode cX6_kindOf 136 = .ok (.aload_n 0, 1) := by decide +kernel
theorem dX6_kindOf_137 : decode cX6_kindOf 137 = .ok (.iload_n 1, 1) := by decide +kernel
theorem dX6_kindOf_138 : decode cX6_kindOf 138 = .ok (.bipush 115, 2) := by decide +kernel
theorem dX6_kindOf_140 : decode cX6_kindOf 140 = .ok (.bipush 105, 2) := by decide +kernel
theorem dX6_kindOf_142 : decode cX6_kindOf 142 = .ok (.bipush 122, 2) := by decide +kernel
theorem dX6_kindOf_144 : decode cX6_kindOf 144 = .ok (.invokevirtual 178, 3) := by decide +kernel
theorem dX6_kindOf_147 : decode cX6_kindOf 147 = .ok (.ifCond .eq 20, 3) := by decide +kernel
theorem dX6_kindOf_150 : decode cX6_kindOf 150 = .ok (.aload_n 0, 1) := by decide +kernel
theorem dX6_kindOf_151 : decode cX6_kindOf 151 = .ok (.getfield 19, 3) := by decide +kernel
theorem dX6_kindOf_154 : decode cX6_kindOf 154 = .ok (.iload_n 1, 1) := by decide +kernel
theorem dX6_kindOf_155 : decode cX6_kindOf 155 = .ok (.iconst 3, 1) := by decide +kernel
theorem dX6_kindOf_156 : decode cX6_kindOf 156 = .ok (.iadd, 1) := by decide +kernel
theorem dX6_kindOf_157 : decode cX6_kindOf 157 = .ok (.iaload, 1) := by decide +kernel
theorem dX6_kindOf_158 : decode cX6_kindOf 158 = .ok (.bipush 101, 2) := by decide +kernel
theorem dX6_kindOf_160 : decode cX6_kindOf 160 = .ok (.if_icmp .ne 7, 3) := by decide +kernel
theorem dX6_kindOf_163 : decode cX6_kindOf 163 = .ok (.iconst 4, 1) := by decide +kernel
theorem dX6_kindOf_164 : decode cX6_kindOf 164 = .ok (.goto 5, 3) := by decide +kernel
theorem dX6_kindOf_167 : decode cX6_kindOf 167 = .ok (.bipush (-9), 2) := by decide +kernel
theorem dX6_kindOf_169 : decode cX6_kindOf 169 = .ok (.ireturn, 1) := by decide +kernel
theorem dX6_kindOf_170 : decode cX6_kindOf 170 = .ok (.iload_n 3, 1) := by decide +kernel
theorem dX6_kindOf_171 : decode cX6_kindOf 171 = .ok (.iconst 5, 1) := by decide +kernel
theorem dX6_kindOf_172 : decode cX6_kindOf 172 = .ok (.if_icmp .ne 47, 3) := by decide +kernel
theorem dX6_kindOf_175 : decode cX6_kindOf 175 = .ok (.aload_n 0, 1) := by decide +kernel
theorem dX6_kindOf_176 : decode cX6_kindOf 176 = .ok (.iload_n 1, 1) := by decide +kernel
theorem dX6_kindOf_177 : decode cX6_kindOf 177 = .ok (.bipush 108, 2) := by decide +kernel
theorem dX6_kindOf_179 : decode cX6_kindOf 179 = .ok (.bipush 101, 2) := by decide +kernel
theorem dX6_kindOf_181 : decode cX6_kindOf 181 = .ok (.bipush 97, 2) := by decide +kernel
theorem dX6_kindOf_183 : decode cX6_kindOf 183 = .ok (.invokevirtual 178, 3) := by decide +kernel
theorem dX6_kindOf_186 : decode cX6_kindOf 186 = .ok (.ifCond .eq 33, 3) := by decide +kernel
theorem dX6_kindOf_189 : decode cX6_kindOf 189 = .ok (.aload_n 0, 1) := by decide +kernel
theorem dX6_kindOf_190 : decode cX6_kindOf 190 = .ok (.getfield 19, 3) := by decide +kernel
theorem dX6_kindOf_193 : decode cX6_kindOf 193 = .ok (.iload_n 1, 1) := by decide +kernel
theorem dX6_kindOf_194 : decode cX6_kindOf 194 = .ok (.iconst 3, 1) := by decide +kernel
theorem dX6_kindOf_195 : decode cX6_kindOf 195 = .ok (.iadd, 1) := by decide +kernel
theorem dX6_kindOf_196 : decode cX6_kindOf 196 = .ok (.iaload, 1) := by decide +kernel
theorem dX6_kindOf_197 : decode cX6_kindOf 197 = .ok (.bipush 114, 2) := by decide +kernel
theorem dX6_kindOf_199 : decode cX6_kindOf 199 = .ok (.if_icmp .ne 20, 3) := by decide +kernel
theorem dX6_kindOf_202 : decode cX6_kindOf 202 = .ok (.aload_n 0, 1) := by decide +kernel
theorem dX6_kindOf_203 : decode cX6_kindOf 203 = .ok (.getfield 19, 3) := by decide +kernel
theorem dX6_kindOf_206 : decode cX6_kindOf 206 = .ok (.iload_n 1, 1) := by decide +kernel
theorem dX6_kindOf_207 : decode cX6_kindOf 207 = .ok (.iconst 4, 1) := by decide +kernel
theorem dX6_kindOf_208 : decode cX6_kindOf 208 = .ok (.iadd, 1) := by decide +kernel
theorem dX6_kindOf_209 : decode cX6_kindOf 209 = .ok (.iaload, 1) := by decide +kernel
theorem dX6_kindOf_210 : decode cX6_kindOf 210 = .ok (.bipush 110, 2) := by decide +kernel
theorem dX6_kindOf_212 : decode cX6_kindOf 212 = .ok (.if_icmp .ne 7, 3) := by decide +kernel
theorem dX6_kindOf_215 : decode cX6_kindOf 215 = .ok (.iconst 3, 1) := by decide +kernel
theorem dX6_kindOf_216 : decode cX6_kindOf 216 = .ok (.goto 5, 3) := by decide +kernel
theorem dX6_kindOf_219 : decode cX6_kindOf 219 = .ok (.bipush (-9), 2) := by decide +kernel
theorem dX6_kindOf_221 : decode cX6_kindOf 221 = .ok (.ireturn, 1) := by decide +kernel
theorem dX6_is_0 : decode cX6_is 0 = .ok (.aload_n 0, 1) := by decide +kernel
theorem dX6_is_1 : decode cX6_is 1 = .ok (.getfield 19, 3) := by decide +kernel
theorem dX6_is_4 : decode cX6_is 4 = .ok (.iload_n 1, 1) := by decide +kernel
theorem dX6_is_5 : decode cX6_is 5 = .ok (.iaload, 1) := by decide +kernel
theorem dX6_is_6 : decode cX6_is 6 = .ok (.iload_n 2, 1) := by decide +kernel
theorem dX6_is_7 : decode cX6_is 7 = .ok (.if_icmp .ne 32, 3) := by decide +kernel
theorem dX6_is_10 : decode cX6_is 10 = .ok (.aload_n 0, 1) := by decide +kernel
theorem dX6_is_11 : decode cX6_is 11 = .ok (.getfield 19, 3) := by decide +kernel
theorem dX6_is_14 : decode cX6_is 14 = .ok (.iload_n 1, 1) := by decide +kernel
theorem dX6_is_15 : decode cX6_is 15 = .ok (.iconst 1, 1) := by decide +kernel
theorem dX6_is_16 : decode cX6_is 16 = .ok (.iadd, 1) := by decide +kernel
theorem dX6_is_17 : decode cX6_is 17 = .ok (.iaload, 1) := by decide +kernel
theorem dX6_is_18 : decode cX6_is 18 = .ok (.iload_n 3, 1) := by decide +kernel
theorem dX6_is_19 : decode cX6_is 19 = .ok (.if_icmp .ne 20, 3) := by decide +kernel
theorem dX6_is_22 : decode cX6_is 22 = .ok (.aload_n 0, 1) := by decide +kernel
theorem dX6_is_23 : decode cX6_is 23 = .ok (.getfield 19, 3) := by decide +kernel
theorem dX6_is_26 : decode cX6_is 26 = .ok (.iload_n 1, 1) := by decide +kernel
theorem dX6_is_27 : decode cX6_is 27 = .ok (.iconst 2, 1) := by decide +kernel
theorem dX6_is_28 : decode cX6_is 28 = .ok (.iadd, 1) := by decide +kernel
theorem dX6_is_29 : decode cX6_is 29 = .ok (.iaload, 1) := by decide +kernel
theorem dX6_is_30 : decode cX6_is 30 = .ok (.iload 4, 2) := by decide +kernel
theorem dX6_is_32 : decode cX6_is 32 = .ok (.if_icmp .ne 7, 3) := by decide +kernel
theorem dX6_is_35 : decode cX6_is 35 = .ok (.iconst 1, 1) := by decide +kernel
theorem dX6_is_36 : decode cX6_is 36 = .ok (.goto 4, 3) := by decide +kernel
theorem dX6_is_39 : decode cX6_is 39 = .ok (.iconst 0, 1) := by decide +kernel
theorem dX6_is_40 : decode cX6_is 40 = .ok (.ireturn, 1) := by decide +kernel
theorem dX6_read_0 : decode cX6_read 0 = .ok (.aload_n 0, 1) := by decide +kernel
theorem dX6_read_1 : decode cX6_read 1 = .ok (.iconst 0, 1) := by decide +kernel
theorem dX6_read_2 : decode cX6_read 2 = .ok (.putfield 182, 3) := by decide +kernel
theorem dX6_read_5 : decode cX6_read 5 = .ok (.iconst 0, 1) := by decide +kernel
theorem dX6_read_6 : decode cX6_read 6 = .ok (.istore_n 1, 1) := by decide +kernel
theorem dX6_read_7 : decode cX6_read 7 = .ok (.bipush (-9), 2) := by decide +kernel
theorem dX6_read_9 : decode cX6_read 9 = .ok (.istore_n 2, 1) := by decide +kernel
theorem dX6_read_10 : decode cX6_read 10 = .ok (.iconst 0, 1) := by decide +kernel
theorem dX6_read_11 : decode cX6_read 11 = .ok (.istore_n 3, 1) := by decide +kernel
theorem dX6_read_12 : decode cX6_read 12 = .ok (.iload_n 3, 1) := by decide +kernel
theorem dX6_read_13 : decode cX6_read 13 = .ok (.aload_n 0, 1) := by decide +kernel
theorem dX6_read_14 : decode cX6_read 14 = .ok (.getfield 131, 3) := by decide +kernel
theorem dX6_read_17 : decode cX6_read 17 = .ok (.if_icmp .ge 207, 3) := by decide +kernel
theorem dX6_read_20 : decode cX6_read 20 = .ok (.iload_n 3, 1) := by decide +kernel
theorem dX6_read_21 : decode cX6_read 21 = .ok (.istore 4, 2) := by decide +kernel
theorem dX6_read_23 : decode cX6_read 23 = .ok (.iload_n 3, 1) := by decide +kernel
theorem dX6_read_24 : decode cX6_read 24 = .ok (.aload_n 0, 1) := by decide +kernel
theorem dX6_read_25 : decode cX6_read 25 = .ok (.getfield 131, 3) := by decide +kernel
theorem dX6_read_28 : decode cX6_read 28 = .ok (.if_icmp .ge 20, 3) := by decide +kernel
theorem dX6_read_31 : decode cX6_read 31 = .ok (.aload_n 0, 1) := by decide +kernel
theorem dX6_read_32 : decode cX6_read 32 = .ok (.getfield 19, 3) := by decide +kernel
theorem dX6_read_35 : decode cX6_read 35 = .ok (.iload_n 3, 1) := by decide +kernel
theorem dX6_read_36 : decode cX6_read 36 = .ok (.iaload, 1) := by decide +kernel
theorem dX6_read_37 : decode cX6_read 37 = .ok (.bipush 32, 2) := by decide +kernel
theorem dX6_read_39 : decode cX6_read 39 = .ok (.if_icmp .eq 9, 3) := by decide +kernel
theorem dX6_read_42 : decode cX6_read 42 = .ok (.iinc 3 1, 3) := by decide +kernel
theorem dX6_read_45 : decode cX6_read 45 = .ok (.goto (-22), 3) := by decide +kernel
theorem dX6_read_48 : decode cX6_read 48 = .ok (.iload_n 3, 1) := by decide +kernel
theorem dX6_read_49 : decode cX6_read 49 = .ok (.iload 4, 2) := by decide +kernel
theorem dX6_read_51 : decode cX6_read 51 = .ok (.if_icmp .le 154, 3) := by decide +kernel
theorem dX6_read_54 : decode cX6_read 54 = .ok (.aload_n 0, 1) := by decide +kernel
theorem dX6_read_55 : decode cX6_read 55 = .ok (.iload 4, 2) := by decide +kernel
theorem dX6_read_57 : decode cX6_read 57 = .ok (.iload_n 3, 1) := by decide +kernel
theorem dX6_read_58 : decode cX6_read 58 = .ok (.invokevirtual 185, 3) := by decide +kernel
theorem dX6_read_61 : decode cX6_read 61 = .ok (.istore 5, 2) := by decide +kernel
theorem dX6_read_63 : decode cX6_read 63 = .ok (.iload_n 1, 1) := by decide +kernel
theorem dX6_read_64 : decode cX6_read 64 = .ok (.ifCond .ne 13, 3) := by decide +kernel
theorem dX6_read_67 : decode cX6_read 67 = .ok (.iload 5, 2) := by decide +kernel
theorem dX6_read_69 : decode cX6_read 69 = .ok (.iconst 0, 1) := by decide +kernel
theorem dX6_read_70 : decode cX6_read 70 = .ok (.iconst 4, 1) := by decide +kernel
theorem dX6_read_71 : decode cX6_read 71 = .ok (.invokestatic 62, 3) := by decide +kernel
theorem dX6_read_74 : decode cX6_read 74 = .ok (.goto 35, 3) := by decide +kernel
theorem dX6_read_77 : decode cX6_read 77 = .ok (.iload 5, 2) := by decide +kernel
theorem dX6_read_79 : decode cX6_read 79 = .ok (.iload_n 2, 1) := by decide +kernel
theorem dX6_read_80 : decode cX6_read 80 = .ok (.iload_n 1, 1) := by decide +kernel
theorem dX6_read_81 : decode cX6_read 81 = .ok (.invokestatic 188, 3) := by decide +kernel
theorem dX6_read_84 : decode cX6_read 84 = .ok (.if_icmp .ne 24, 3) := by decide +kernel
theorem dX6_read_87 : decode cX6_read 87 = .ok (.iload_n 2, 1) := by decide +kernel
theorem dX6_read_88 : decode cX6_read 88 = .ok (.iconst 4, 1) := by decide +kernel
theorem dX6_read_89 : decode cX6_read 89 = .ok (.if_icmp .ne 15, 3) := by decide +kernel
theorem dX6_read_92 : decode cX6_read 92 = .ok (.aload_n 0, 1) := by decide +kernel
theorem dX6_read_93 : decode cX6_read 93 = .ok (.getfield 19, 3) := by decide +kernel
theorem dX6_read_96 : decode cX6_read 96 = .ok (.iload 4, 2) := by decide +kernel
theorem dX6_read_98 : decode cX6_read 98 = .ok (.iaload, 1) := by decide +kernel
theorem dX6_read_99 : decode cX6_read 99 = .ok (.bipush 49, 2) := by decide +kernel
theorem dX6_read_101 : decode cX6_read 101 = .ok (.if_icmp .eq 7, 3) := by decide +kernel
theorem dX6_read_104 : decode cX6_read 104 = .ok (.iconst 1, 1) := by decide +kernel
theorem dX6_read_105 : decode cX6_read 105 = .ok (.goto 4, 3) := by decide +kernel
theorem dX6_read_108 : decode cX6_read 108 = .ok (.iconst 0, 1) := by decide +kernel
theorem dX6_read_109 : decode cX6_read 109 = .ok (.istore 6, 2) := by decide +kernel
theorem dX6_read_111 : decode cX6_read 111 = .ok (.iload 6, 2) := by decide +kernel
theorem dX6_read_113 : decode cX6_read 113 = .ok (.ifCond .ne 6, 3) := by decide +kernel
theorem dX6_read_116 : decode cX6_read 116 = .ok (.iload 4, 2) := by decide +kernel
theorem dX6_read_118 : decode cX6_read 118 = .ok (.ireturn, 1) := by decide +kernel
theorem dX6_read_119 : decode cX6_read 119 = .ok (.iload_n 1, 1) := by decide +kernel
theorem dX6_read_120 : decode cX6_read 120 = .ok (.ifCond .ne 8, 3) := by decide +kernel
theorem dX6_read_123 : decode cX6_read 123 = .ok (.iload 5, 2) := by decide +kernel
theorem dX6_read_125 : decode cX6_read 125 = .ok (.goto 4, 3) := by decide +kernel
theorem dX6_read_128 : decode cX6_read 128 = .ok (.iload_n 2, 1) := by decide +kernel
theorem dX6_read_129 : decode cX6_read 129 = .ok (.istore_n 2, 1) := by decide +kernel
theorem dX6_read_130 : decode cX6_read 130 = .ok (.aload_n 0, 1) := by decide +kernel
theorem dX6_read_131 : decode cX6_read 131 = .ok (.getfield 56, 3) := by decide +kernel
theorem dX6_read_134 : decode cX6_read 134 = .ok (.iconst 4, 1) := by decide +kernel
theorem dX6_read_135 : decode cX6_read 135 = .ok (.aload_n 0, 1) := by decide +kernel
theorem dX6_read_136 : decode cX6_read 136 = .ok (.getfield 182, 3) := by decide +kernel
theorem dX6_read_139 : decode cX6_read 139 = .ok (.imul, 1) := by decide +kernel
theorem dX6_read_140 : decode cX6_read 140 = .ok (.iload_n 1, 1) := by decide +kernel
theorem dX6_read_141 : decode cX6_read 141 = .ok (.iadd, 1) := by decide +kernel
theorem dX6_read_142 : decode cX6_read 142 = .ok (.iload_n 1, 1) := by decide +kernel
theorem dX6_read_143 : decode cX6_read 143 = .ok (.ifCond .ne 8, 3) := by decide +kernel
theorem dX6_read_146 : decode cX6_read 146 = .ok (.iload 5, 2) := by decide +kernel
theorem dX6_read_148 : decode cX6_read 148 = .ok (.goto 33, 3) := by decide +kernel
theorem dX6_read_151 : decode cX6_read 151 = .ok (.iload 5, 2) := by decide +kernel
theorem dX6_read_153 : decode cX6_read 153 = .ok (.bipush 20, 2) := by decide +kernel
theorem dX6_read_155 : decode cX6_read 155 = .ok (.if_icmp .ne 16, 3) := by decide +kernel
theorem dX6_read_158 : decode cX6_read 158 = .ok (.aload_n 0, 1) := by decide +kernel
theorem dX6_read_159 : decode cX6_read 159 = .ok (.getfield 19, 3) := by decide +kernel
theorem dX6_read_162 : decode cX6_read 162 = .ok (.iload 4, 2) := by decide +kernel
theorem dX6_read_164 : decode cX6_read 164 = .ok (.iaload, 1) := by decide +kernel
theorem dX6_read_165 : decode cX6_read 165 = .ok (.bipush 97, 2) := by decide +kernel
theorem dX6_read_167 : decode cX6_read 167 = .ok (.isub, 1) := by decide +kernel
theorem dX6_read_168 : decode cX6_read 168 = .ok (.goto 13, 3) := by decide +kernel
theorem dX6_read_171 : decode cX6_read 171 = .ok (.aload_n 0, 1) := by decide +kernel
theorem dX6_read_172 : decode cX6_read 172 = .ok (.getfield 19, 3) := by decide +kernel
theorem dX6_read_175 : decode cX6_read 175 = .ok (.iload 4, 2) := by decide +kernel
theorem dX6_read_177 : decode cX6_read 177 = .ok (.iaload, 1) := by decide +kernel
theorem dX6_read_178 : decode cX6_read 178 = .ok (.bipush 48, 2) := by decide +kernel
theorem dX6_read_180 : decode cX6_read 180 = .ok (.isub, 1) := by decide +kernel
theorem dX6_read_181 : decode cX6_read 181 = .ok (.iastore, 1) := by decide +kernel
theorem dX6_read_182 : decode cX6_read 182 = .ok (.iinc 1 1, 3) := by decide +kernel
theorem dX6_read_185 : decode cX6_read 185 = .ok (.iload_n 1, 1) := by decide +kernel
theorem dX6_read_186 : decode cX6_read 186 = .ok (.iload_n 2, 1) := by decide +kernel
theorem dX6_read_187 : decode cX6_read 187 = .ok (.invokestatic 191, 3) := by decide +kernel
theorem dX6_read_190 : decode cX6_read 190 = .ok (.if_icmp .ne 15, 3) := by decide +kernel
theorem dX6_read_193 : decode cX6_read 193 = .ok (.aload_n 0, 1) := by decide +kernel
theorem dX6_read_194 : decode cX6_read 194 = .ok (.dup, 1) := by decide +kernel
theorem dX6_read_195 : decode cX6_read 195 = .ok (.getfield 182, 3) := by decide +kernel
theorem dX6_read_198 : decode cX6_read 198 = .ok (.iconst 1, 1) := by decide +kernel
theorem dX6_read_199 : decode cX6_read 199 = .ok (.iadd, 1) := by decide +kernel
theorem dX6_read_200 : decode cX6_read 200 = .ok (.putfield 182, 3) := by decide +kernel
theorem dX6_read_203 : decode cX6_read 203 = .ok (.iconst 0, 1) := by decide +kernel
theorem dX6_read_204 : decode cX6_read 204 = .ok (.istore_n 1, 1) := by decide +kernel
theorem dX6_read_205 : decode cX6_read 205 = .ok (.iload_n 3, 1) := by decide +kernel
theorem dX6_read_206 : decode cX6_read 206 = .ok (.iload_n 3, 1) := by decide +kernel
theorem dX6_read_207 : decode cX6_read 207 = .ok (.aload_n 0, 1) := by decide +kernel
theorem dX6_read_208 : decode cX6_read 208 = .ok (.getfield 131, 3) := by decide +kernel
theorem dX6_read_211 : decode cX6_read 211 = .ok (.if_icmp .ge 7, 3) := by decide +kernel
theorem dX6_read_214 : decode cX6_read 214 = .ok (.iconst 1, 1) := by decide +kernel
theorem dX6_read_215 : decode cX6_read 215 = .ok (.goto 4, 3) := by decide +kernel
theorem dX6_read_218 : decode cX6_read 218 = .ok (.iconst 0, 1) := by decide +kernel
theorem dX6_read_219 : decode cX6_read 219 = .ok (.iadd, 1) := by decide +kernel
theorem dX6_read_220 : decode cX6_read 220 = .ok (.istore_n 3, 1) := by decide +kernel
theorem dX6_read_221 : decode cX6_read 221 = .ok (.goto (-209), 3) := by decide +kernel
theorem dX6_read_224 : decode cX6_read 224 = .ok (.iload_n 1, 1) := by decide +kernel
theorem dX6_read_225 : decode cX6_read 225 = .ok (.ifCond .ne 8, 3) := by decide +kernel
theorem dX6_read_228 : decode cX6_read 228 = .ok (.bipush (-9), 2) := by decide +kernel
theorem dX6_read_230 : decode cX6_read 230 = .ok (.goto 7, 3) := by decide +kernel
theorem dX6_read_233 : decode cX6_read 233 = .ok (.aload_n 0, 1) := by decide +kernel
theorem dX6_read_234 : decode cX6_read 234 = .ok (.getfield 131, 3) := by decide +kernel
theorem dX6_read_237 : decode cX6_read 237 = .ok (.ireturn, 1) := by decide +kernel
theorem dX6_partsOf_0 : decode cX6_partsOf 0 = .ok (.iload_n 0, 1) := by decide +kernel
theorem dX6_partsOf_1 : decode cX6_partsOf 1 = .ok (.ifCond .ne 7, 3) := by decide +kernel
theorem dX6_partsOf_4 : decode cX6_partsOf 4 = .ok (.iconst 4, 1) := by decide +kernel
theorem dX6_partsOf_5 : decode cX6_partsOf 5 = .ok (.goto 13, 3) := by decide +kernel
theorem dX6_partsOf_8 : decode cX6_partsOf 8 = .ok (.iload_n 0, 1) := by decide +kernel
theorem dX6_partsOf_9 : decode cX6_partsOf 9 = .ok (.iconst 4, 1) := by decide +kernel
theorem dX6_partsOf_10 : decode cX6_partsOf 10 = .ok (.if_icmp .ne 7, 3) := by decide +kernel
theorem dX6_partsOf_13 : decode cX6_partsOf 13 = .ok (.iconst 2, 1) := by decide +kernel
theorem dX6_partsOf_14 : decode cX6_partsOf 14 = .ok (.goto 4, 3) := by decide +kernel
theorem dX6_partsOf_17 : decode cX6_partsOf 17 = .ok (.iconst 3, 1) := by decide +kernel
theorem dX6_partsOf_18 : decode cX6_partsOf 18 = .ok (.ireturn, 1) := by decide +kernel
theorem dX6_wanted_0 : decode cX6_wanted 0 = .ok (.iload_n 0, 1) := by decide +kernel
theorem dX6_wanted_1 : decode cX6_wanted 1 = .ok (.iconst 4, 1) := by decide +kernel
theorem dX6_wanted_2 : decode cX6_wanted 2 = .ok (.if_icmp .eq 8, 3) := by decide +kernel
theorem dX6_wanted_5 : decode cX6_wanted 5 = .ok (.iload_n 1, 1) := by decide +kernel
theorem dX6_wanted_6 : decode cX6_wanted 6 = .ok (.iconst 3, 1) := by decide +kernel
theorem dX6_wanted_7 : decode cX6_wanted 7 = .ok (.if_icmp .ne 8, 3) := by decide +kernel
theorem dX6_wanted_10 : decode cX6_wanted 10 = .ok (.bipush 21, 2) := by decide +kernel
theorem dX6_wanted_12 : decode cX6_wanted 12 = .ok (.goto 5, 3) := by decide +kernel
theorem dX6_wanted_15 : decode cX6_wanted 15 = .ok (.bipush 20, 2) := by decide +kernel
theorem dX6_wanted_17 : decode cX6_wanted 17 = .ok (.ireturn, 1) := by decide +kernel
theorem dX6_fault_0 : decode cX6_fault 0 = .ok (.aload_n 0, 1) := by decide +kernel
theorem dX6_fault_1 : decode cX6_fault 1 = .ok (.invokevirtual 194, 3) := by decide +kernel
theorem dX6_fault_4 : decode cX6_fault 4 = .ok (.ireturn, 1) := by decide +kernel
theorem dX6_carriesOut_0 : decode cX6_carriesOut 0 = .ok (.aload_n 0, 1) := by decide +kernel
theorem dX6_carriesOut_1 : decode cX6_carriesOut 1 = .ok (.getfield 56, 3) := by decide +kernel
theorem dX6_carriesOut_4 : decode cX6_carriesOut 4 = .ok (.iconst 4, 1) := by decide +kernel
theorem dX6_carriesOut_5 : decode cX6_carriesOut 5 = .ok (.iload_n 1, 1) := by decide +kernel
theorem dX6_carriesOut_6 : decode cX6_carriesOut 6 = .ok (.imul, 1) := by decide +kernel
theorem dX6_carriesOut_7 : decode cX6_carriesOut 7 = .ok (.iconst 1, 1) := by decide +kernel
theorem dX6_carriesOut_8 : decode cX6_carriesOut 8 = .ok (.iadd, 1) := by decide +kernel
theorem dX6_carriesOut_9 : decode cX6_carriesOut 9 = .ok (.iaload, 1) := by decide +kernel
theorem dX6_carriesOut_10 : decode cX6_carriesOut 10 = .ok (.istore_n 2, 1) := by decide +kernel
theorem dX6_carriesOut_11 : decode cX6_carriesOut 11 = .ok (.aload_n 0, 1) := by decide +kernel
theorem dX6_carriesOut_12 : decode cX6_carriesOut 12 = .ok (.getfield 56, 3) := by decide +kernel
theorem dX6_carriesOut_15 : decode cX6_carriesOut 15 = .ok (.iconst 4, 1) := by decide +kernel
theorem dX6_carriesOut_16 : decode cX6_carriesOut 16 = .ok (.iload_n 1, 1) := by decide +kernel
theorem dX6_carriesOut_17 : decode cX6_carriesOut 17 = .ok (.imul, 1) := by decide +kernel
theorem dX6_carriesOut_18 : decode cX6_carriesOut 18 = .ok (.iconst 2, 1) := by decide +kernel
theorem dX6_carriesOut_19 : decode cX6_carriesOut 19 = .ok (.iadd, 1) := by decide +kernel
theorem dX6_carriesOut_20 : decode cX6_carriesOut 20 = .ok (.iaload, 1) := by decide +kernel
theorem dX6_carriesOut_21 : decode cX6_carriesOut 21 = .ok (.istore_n 3, 1) := by decide +kernel
theorem dX6_carriesOut_22 : decode cX6_carriesOut 22 = .ok (.aload_n 0, 1) := by decide +kernel
theorem dX6_carriesOut_23 : decode cX6_carriesOut 23 = .ok (.getfield 56, 3) := by decide +kernel
theorem dX6_carriesOut_26 : decode cX6_carriesOut 26 = .ok (.iconst 4, 1) := by decide +kernel
theorem dX6_carriesOut_27 : decode cX6_carriesOut 27 = .ok (.iload_n 1, 1) := by decide +kernel
theorem dX6_carriesOut_28 : decode cX6_carriesOut 28 = .ok (.imul, 1) := by decide +kernel
theorem dX6_carriesOut_29 : decode cX6_carriesOut 29 = .ok (.iaload, 1) := by decide +kernel
theorem dX6_carriesOut_30 : decode cX6_carriesOut 30 = .ok (.ifCond .ne 53, 3) := by decide +kernel
theorem dX6_carriesOut_33 : decode cX6_carriesOut 33 = .ok (.aload_n 0, 1) := by decide +kernel
theorem dX6_carriesOut_34 : decode cX6_carriesOut 34 = .ok (.iload_n 2, 1) := by decide +kernel
theorem dX6_carriesOut_35 : decode cX6_carriesOut 35 = .ok (.iload_n 3, 1) := by decide +kernel
theorem dX6_carriesOut_36 : decode cX6_carriesOut 36 = .ok (.aload_n 0, 1) := by decide +kernel
theorem dX6_carriesOut_37 : decode cX6_carriesOut 37 = .ok (.getfield 56, 3) := by decide +kernel
theorem dX6_carriesOut_40 : decode cX6_carriesOut 40 = .ok (.iconst 4, 1) := by decide +kernel
theorem dX6_carriesOut_41 : decode cX6_carriesOut 41 = .ok (.iload_n 1, 1) := by decide +kernel
theorem dX6_carriesOut_42 : decode cX6_carriesOut 42 = .ok (.imul, 1) := by decide +kernel
theorem dX6_carriesOut_43 : decode cX6_carriesOut 43 = .ok (.iconst 3, 1) := by decide +kernel
theorem dX6_carriesOut_44 : decode cX6_carriesOut 44 = .ok (.iadd, 1) := by decide +kernel
theorem dX6_carriesOut_45 : decode cX6_carriesOut 45 = .ok (.iaload, 1) := by decide +kernel
theorem dX6_carriesOut_46 : decode cX6_carriesOut 46 = .ok (.invokevirtual 92, 3) := by decide +kernel
theorem dX6_carriesOut_49 : decode cX6_carriesOut 49 = .ok (.ifCond .ne 7, 3) := by decide +kernel
theorem dX6_carriesOut_52 : decode cX6_carriesOut 52 = .ok (.iconst 1, 1) := by decide +kernel
theorem dX6_carriesOut_53 : decode cX6_carriesOut 53 = .ok (.goto 4, 3) := by decide +kernel
theorem dX6_carriesOut_56 : decode cX6_carriesOut 56 = .ok (.iconst 0, 1) := by decide +kernel
theorem dX6_carriesOut_57 : decode cX6_carriesOut 57 = .ok (.istore 4, 2) := by decide +kernel
theorem dX6_carriesOut_59 : decode cX6_carriesOut 59 = .ok (.iload 4, 2) := by decide +kernel
theorem dX6_carriesOut_61 : decode cX6_carriesOut 61 = .ok (.ifCond .eq 19, 3) := by decide +kernel
theorem dX6_carriesOut_64 : decode cX6_carriesOut 64 = .ok (.aload_n 0, 1) := by decide +kernel
theorem dX6_carriesOut_65 : decode cX6_carriesOut 65 = .ok (.iload_n 2, 1) := by decide +kernel
theorem dX6_carriesOut_66 : decode cX6_carriesOut 66 = .ok (.iload_n 3, 1) := by decide +kernel
theorem dX6_carriesOut_67 : decode cX6_carriesOut 67 = .ok (.aload_n 0, 1) := by decide +kernel
theorem dX6_carriesOut_68 : decode cX6_carriesOut 68 = .ok (.getfield 56, 3) := by decide +kernel
theorem dX6_carriesOut_71 : decode cX6_carriesOut 71 = .ok (.iconst 4, 1) := by decide +kernel
theorem dX6_carriesOut_72 : decode cX6_carriesOut 72 = .ok (.iload_n 1, 1) := by decide +kernel
theorem dX6_carriesOut_73 : decode cX6_carriesOut 73 = .ok (.imul, 1) := by decide +kernel
theorem dX6_carriesOut_74 : decode cX6_carriesOut 74 = .ok (.iconst 3, 1) := by decide +kernel
theorem dX6_carriesOut_75 : decode cX6_carriesOut 75 = .ok (.iadd, 1) := by decide +kernel
theorem dX6_carriesOut_76 : decode cX6_carriesOut 76 = .ok (.iaload, 1) := by decide +kernel
theorem dX6_carriesOut_77 : decode cX6_carriesOut 77 = .ok (.invokevirtual 96, 3) := by decide +kernel
theorem dX6_carriesOut_80 : decode cX6_carriesOut 80 = .ok (.iload 4, 2) := by decide +kernel
theorem dX6_carriesOut_82 : decode cX6_carriesOut 82 = .ok (.ireturn, 1) := by decide +kernel
theorem dX6_carriesOut_83 : decode cX6_carriesOut 83 = .ok (.aload_n 0, 1) := by decide +kernel
theorem dX6_carriesOut_84 : decode cX6_carriesOut 84 = .ok (.getfield 56, 3) := by decide +kernel
theorem dX6_carriesOut_87 : decode cX6_carriesOut 87 = .ok (.iconst 4, 1) := by decide +kernel
theorem dX6_carriesOut_88 : decode cX6_carriesOut 88 = .ok (.iload_n 1, 1) := by decide +kernel
theorem dX6_carriesOut_89 : decode cX6_carriesOut 89 = .ok (.imul, 1) := by decide +kernel
theorem dX6_carriesOut_90 : decode cX6_carriesOut 90 = .ok (.iaload, 1) := by decide +kernel
theorem dX6_carriesOut_91 : decode cX6_carriesOut 91 = .ok (.iconst 4, 1) := by decide +kernel
theorem dX6_carriesOut_92 : decode cX6_carriesOut 92 = .ok (.if_icmp .ne 19, 3) := by decide +kernel
theorem dX6_carriesOut_95 : decode cX6_carriesOut 95 = .ok (.aload_n 0, 1) := by decide +kernel
theorem dX6_carriesOut_96 : decode cX6_carriesOut 96 = .ok (.getfield 7, 3) := by decide +kernel
theorem dX6_carriesOut_99 : decode cX6_carriesOut 99 = .ok (.iconst 0, 1) := by decide +kernel
theorem dX6_carriesOut_100 : decode cX6_carriesOut 100 = .ok (.iload_n 2, 1) := by decide +kernel
theorem dX6_carriesOut_101 : decode cX6_carriesOut 101 = .ok (.iastore, 1) := by decide +kernel
theorem dX6_carriesOut_102 : decode cX6_carriesOut 102 = .ok (.aload_n 0, 1) := by decide +kernel
theorem dX6_carriesOut_103 : decode cX6_carriesOut 103 = .ok (.getfield 7, 3) := by decide +kernel
theorem dX6_carriesOut_106 : decode cX6_carriesOut 106 = .ok (.iconst 1, 1) := by decide +kernel
theorem dX6_carriesOut_107 : decode cX6_carriesOut 107 = .ok (.iconst 0, 1) := by decide +kernel
theorem dX6_carriesOut_108 : decode cX6_carriesOut 108 = .ok (.iastore, 1) := by decide +kernel
theorem dX6_carriesOut_109 : decode cX6_carriesOut 109 = .ok (.iconst 1, 1) := by decide +kernel
theorem dX6_carriesOut_110 : decode cX6_carriesOut 110 = .ok (.ireturn, 1) := by decide +kernel
theorem dX6_carriesOut_111 : decode cX6_carriesOut 111 = .ok (.aload_n 0, 1) := by decide +kernel
theorem dX6_carriesOut_112 : decode cX6_carriesOut 112 = .ok (.iload_n 2, 1) := by decide +kernel
theorem dX6_carriesOut_113 : decode cX6_carriesOut 113 = .ok (.invokevirtual 78, 3) := by decide +kernel
theorem dX6_carriesOut_116 : decode cX6_carriesOut 116 = .ok (.ifCond .eq 20, 3) := by decide +kernel
theorem dX6_carriesOut_119 : decode cX6_carriesOut 119 = .ok (.aload_n 0, 1) := by decide +kernel
theorem dX6_carriesOut_120 : decode cX6_carriesOut 120 = .ok (.iload_n 3, 1) := by decide +kernel
theorem dX6_carriesOut_121 : decode cX6_carriesOut 121 = .ok (.invokevirtual 78, 3) := by decide +kernel
theorem dX6_carriesOut_124 : decode cX6_carriesOut 124 = .ok (.ifCond .eq 12, 3) := by decide +kernel
theorem dX6_carriesOut_127 : decode cX6_carriesOut 127 = .ok (.aload_n 0, 1) := by decide +kernel
theorem dX6_carriesOut_128 : decode cX6_carriesOut 128 = .ok (.iload_n 2, 1) := by decide +kernel
theorem dX6_carriesOut_129 : decode cX6_carriesOut 129 = .ok (.iload_n 3, 1) := by decide +kernel
theorem dX6_carriesOut_130 : decode cX6_carriesOut 130 = .ok (.invokevirtual 82, 3) := by decide +kernel
theorem dX6_carriesOut_133 : decode cX6_carriesOut 133 = .ok (.goto 5, 3) := by decide +kernel
theorem dX6_carriesOut_136 : decode cX6_carriesOut 136 = .ok (.bipush (-9), 2) := by decide +kernel
theorem dX6_carriesOut_138 : decode cX6_carriesOut 138 = .ok (.istore 4, 2) := by decide +kernel
theorem dX6_carriesOut_140 : decode cX6_carriesOut 140 = .ok (.iload 4, 2) := by decide +kernel
theorem dX6_carriesOut_142 : decode cX6_carriesOut 142 = .ok (.bipush (-9), 2) := by decide +kernel
theorem dX6_carriesOut_144 : decode cX6_carriesOut 144 = .ok (.if_icmp .ne 5, 3) := by decide +kernel
theorem dX6_carriesOut_147 : decode cX6_carriesOut 147 = .ok (.iconst 0, 1) := by decide +kernel
theorem dX6_carriesOut_148 : decode cX6_carriesOut 148 = .ok (.ireturn, 1) := by decide +kernel
theorem dX6_carriesOut_149 : decode cX6_carriesOut 149 = .ok (.iconst 3, 1) := by decide +kernel
theorem dX6_carriesOut_150 : decode cX6_carriesOut 150 = .ok (.iconst 5, 1) := by decide +kernel
theorem dX6_carriesOut_151 : decode cX6_carriesOut 151 = .ok (.iload 4, 2) := by decide +kernel
theorem dX6_carriesOut_153 : decode cX6_carriesOut 153 = .ok (.imul, 1) := by decide +kernel
theorem dX6_carriesOut_154 : decode cX6_carriesOut 154 = .ok (.iadd, 1) := by decide +kernel
theorem dX6_carriesOut_155 : decode cX6_carriesOut 155 = .ok (.istore 5, 2) := by decide +kernel
theorem dX6_carriesOut_157 : decode cX6_carriesOut 157 = .ok (.aload_n 0, 1) := by decide +kernel
theorem dX6_carriesOut_158 : decode cX6_carriesOut 158 = .ok (.getfield 56, 3) := by decide +kernel
theorem dX6_carriesOut_161 : decode cX6_carriesOut 161 = .ok (.iconst 4, 1) := by decide +kernel
theorem dX6_carriesOut_162 : decode cX6_carriesOut 162 = .ok (.iload_n 1, 1) := by decide +kernel
theorem dX6_carriesOut_163 : decode cX6_carriesOut 163 = .ok (.imul, 1) := by decide +kernel
theorem dX6_carriesOut_164 : decode cX6_carriesOut 164 = .ok (.iaload, 1) := by decide +kernel
theorem dX6_carriesOut_165 : decode cX6_carriesOut 165 = .ok (.iconst 3, 1) := by decide +kernel
theorem dX6_carriesOut_166 : decode cX6_carriesOut 166 = .ok (.if_icmp .ne 24, 3) := by decide +kernel
theorem dX6_carriesOut_169 : decode cX6_carriesOut 169 = .ok (.aload_n 0, 1) := by decide +kernel
theorem dX6_carriesOut_170 : decode cX6_carriesOut 170 = .ok (.getfield 7, 3) := by decide +kernel
theorem dX6_carriesOut_173 : decode cX6_carriesOut 173 = .ok (.iload 5, 2) := by decide +kernel
theorem dX6_carriesOut_175 : decode cX6_carriesOut 175 = .ok (.iconst 4, 1) := by decide +kernel
theorem dX6_carriesOut_176 : decode cX6_carriesOut 176 = .ok (.iadd, 1) := by decide +kernel
theorem dX6_carriesOut_177 : decode cX6_carriesOut 177 = .ok (.aload_n 0, 1) := by decide +kernel
theorem dX6_carriesOut_178 : decode cX6_carriesOut 178 = .ok (.getfield 7, 3) := by decide +kernel
theorem dX6_carriesOut_181 : decode cX6_carriesOut 181 = .ok (.iload 5, 2) := by decide +kernel
theorem dX6_carriesOut_183 : decode cX6_carriesOut 183 = .ok (.iconst 3, 1) := by decide +kernel
theorem dX6_carriesOut_184 : decode cX6_carriesOut 184 = .ok (.iadd, 1) := by decide +kernel
theorem dX6_carriesOut_185 : decode cX6_carriesOut 185 = .ok (.iaload, 1) := by decide +kernel
theorem dX6_carriesOut_186 : decode cX6_carriesOut 186 = .ok (.iastore, 1) := by decide +kernel
theorem dX6_carriesOut_187 : decode cX6_carriesOut 187 = .ok (.goto 29, 3) := by decide +kernel
theorem dX6_carriesOut_190 : decode cX6_carriesOut 190 = .ok (.aload_n 0, 1) := by decide +kernel
theorem dX6_carriesOut_191 : decode cX6_carriesOut 191 = .ok (.getfield 7, 3) := by decide +kernel
theorem dX6_carriesOut_194 : decode cX6_carriesOut 194 = .ok (.iload 5, 2) := by decide +kernel
theorem dX6_carriesOut_196 : decode cX6_carriesOut 196 = .ok (.iconst 3, 1) := by decide +kernel
theorem dX6_carriesOut_197 : decode cX6_carriesOut 197 = .ok (.iadd, 1) := by decide +kernel
theorem dX6_carriesOut_198 : decode cX6_carriesOut 198 = .ok (.aload_n 0, 1) := by decide +kernel
theorem dX6_carriesOut_199 : decode cX6_carriesOut 199 = .ok (.getfield 56, 3) := by decide +kernel
theorem dX6_carriesOut_202 : decode cX6_carriesOut 202 = .ok (.iconst 4, 1) := by decide +kernel
theorem dX6_carriesOut_203 : decode cX6_carriesOut 203 = .ok (.iload_n 1, 1) := by decide +kernel
theorem dX6_carriesOut_204 : decode cX6_carriesOut 204 = .ok (.imul, 1) := by decide +kernel
theorem dX6_carriesOut_205 : decode cX6_carriesOut 205 = .ok (.iaload, 1) := by decide +kernel
theorem dX6_carriesOut_206 : decode cX6_carriesOut 206 = .ok (.iconst 2, 1) := by decide +kernel
theorem dX6_carriesOut_207 : decode cX6_carriesOut 207 = .ok (.if_icmp .ne 7, 3) := by decide +kernel
theorem dX6_carriesOut_210 : decode cX6_carriesOut 210 = .ok (.iconst 1, 1) := by decide +kernel
theorem dX6_carriesOut_211 : decode cX6_carriesOut 211 = .ok (.goto 4, 3) := by decide +kernel
theorem dX6_carriesOut_214 : decode cX6_carriesOut 214 = .ok (.iconst 0, 1) := by decide +kernel
theorem dX6_carriesOut_215 : decode cX6_carriesOut 215 = .ok (.iastore, 1) := by decide +kernel
theorem dX6_carriesOut_216 : decode cX6_carriesOut 216 = .ok (.iconst 1, 1) := by decide +kernel
theorem dX6_carriesOut_217 : decode cX6_carriesOut 217 = .ok (.ireturn, 1) := by decide +kernel
theorem dX6_execute_0 : decode cX6_execute 0 = .ok (.aload_n 0, 1) := by decide +kernel
theorem dX6_execute_1 : decode cX6_execute 1 = .ok (.invokevirtual 194, 3) := by decide +kernel
theorem dX6_execute_4 : decode cX6_execute 4 = .ok (.bipush (-9), 2) := by decide +kernel
theorem dX6_execute_6 : decode cX6_execute 6 = .ok (.if_icmp .eq 6, 3) := by decide +kernel
theorem dX6_execute_9 : decode cX6_execute 9 = .ok (.bipush (-2), 2) := by decide +kernel
theorem dX6_execute_11 : decode cX6_execute 11 = .ok (.ireturn, 1) := by decide +kernel
theorem dX6_execute_12 : decode cX6_execute 12 = .ok (.iconst 0, 1) := by decide +kernel
theorem dX6_execute_13 : decode cX6_execute 13 = .ok (.istore_n 1, 1) := by decide +kernel
theorem dX6_execute_14 : decode cX6_execute 14 = .ok (.iload_n 1, 1) := by decide +kernel
theorem dX6_execute_15 : decode cX6_execute 15 = .ok (.bipush 93, 2) := by decide +kernel
theorem dX6_execute_17 : decode cX6_execute 17 = .ok (.if_icmp .ge 21, 3) := by decide +kernel
theorem dX6_execute_20 : decode cX6_execute 20 = .ok (.aload_n 0, 1) := by decide +kernel
theorem dX6_execute_21 : decode cX6_execute 21 = .ok (.getfield 59, 3) := by decide +kernel
theorem dX6_execute_24 : decode cX6_execute 24 = .ok (.iload_n 1, 1) := by decide +kernel
theorem dX6_execute_25 : decode cX6_execute 25 = .ok (.aload_n 0, 1) := by decide +kernel
theorem dX6_execute_26 : decode cX6_execute 26 = .ok (.getfield 7, 3) := by decide +kernel
theorem dX6_execute_29 : decode cX6_execute 29 = .ok (.iload_n 1, 1) := by decide +kernel
theorem dX6_execute_30 : decode cX6_execute 30 = .ok (.iaload, 1) := by decide +kernel
theorem dX6_execute_31 : decode cX6_execute 31 = .ok (.iastore, 1) := by decide +kernel
theorem dX6_execute_32 : decode cX6_execute 32 = .ok (.iinc 1 1, 3) := by decide +kernel
theorem dX6_execute_35 : decode cX6_execute 35 = .ok (.goto (-21), 3) := by decide +kernel
theorem dX6_execute_38 : decode cX6_execute 38 = .ok (.iconst 0, 1) := by decide +kernel
theorem dX6_execute_39 : decode cX6_execute 39 = .ok (.istore_n 1, 1) := by decide +kernel
theorem dX6_execute_40 : decode cX6_execute 40 = .ok (.iload_n 1, 1) := by decide +kernel
theorem dX6_execute_41 : decode cX6_execute 41 = .ok (.aload_n 0, 1) := by decide +kernel
theorem dX6_execute_42 : decode cX6_execute 42 = .ok (.getfield 182, 3) := by decide +kernel
theorem dX6_execute_45 : decode cX6_execute 45 = .ok (.if_icmp .ge 48, 3) := by decide +kernel
theorem dX6_execute_48 : decode cX6_execute 48 = .ok (.aload_n 0, 1) := by decide +kernel
theorem dX6_execute_49 : decode cX6_execute 49 = .ok (.iload_n 1, 1) := by decide +kernel
theorem dX6_execute_50 : decode cX6_execute 50 = .ok (.invokevirtual 197, 3) := by decide +kernel
theorem dX6_execute_53 : decode cX6_execute 53 = .ok (.ifCond .ne 34, 3) := by decide +kernel
theorem dX6_execute_56 : decode cX6_execute 56 = .ok (.iconst 0, 1) := by decide +kernel
theorem dX6_execute_57 : decode cX6_execute 57 = .ok (.istore_n 2, 1) := by decide +kernel
theorem dX6_execute_58 : decode cX6_execute 58 = .ok (.iload_n 2, 1) := by decide +kernel
theorem dX6_execute_59 : decode cX6_execute 59 = .ok (.bipush 93, 2) := by decide +kernel
theorem dX6_execute_61 : decode cX6_execute 61 = .ok (.if_icmp .ge 21, 3) := by decide +kernel
theorem dX6_execute_64 : decode cX6_execute 64 = .ok (.aload_n 0, 1) := by decide +kernel
theorem dX6_execute_65 : decode cX6_execute 65 = .ok (.getfield 7, 3) := by decide +kernel
theorem dX6_execute_68 : decode cX6_execute 68 = .ok (.iload_n 2, 1) := by decide +kernel
theorem dX6_execute_69 : decode cX6_execute 69 = .ok (.aload_n 0, 1) := by decide +kernel
theorem dX6_execute_70 : decode cX6_execute 70 = .ok (.getfield 59, 3) := by decide +kernel
theorem dX6_execute_73 : decode cX6_execute 73 = .ok (.iload_n 2, 1) := by decide +kernel
theorem dX6_execute_74 : decode cX6_execute 74 = .ok (.iaload, 1) := by decide +kernel
theorem dX6_execute_75 : decode cX6_execute 75 = .ok (.iastore, 1) := by decide +kernel
theorem dX6_execute_76 : decode cX6_execute 76 = .ok (.iinc 2 1, 3) := by decide +kernel
theorem dX6_execute_79 : decode cX6_execute 79 = .ok (.goto (-21), 3) := by decide +kernel
theorem dX6_execute_82 : decode cX6_execute 82 = .ok (.bipush (-100), 2) := by decide +kernel
theorem dX6_execute_84 : decode cX6_execute 84 = .ok (.iload_n 1, 1) := by decide +kernel
theorem dX6_execute_85 : decode cX6_execute 85 = .ok (.isub, 1) := by decide +kernel
theorem dX6_execute_86 : decode cX6_execute 86 = .ok (.ireturn, 1) := by decide +kernel
theorem dX6_execute_87 : decode cX6_execute 87 = .ok (.iinc 1 1, 3) := by decide +kernel
theorem dX6_execute_90 : decode cX6_execute 90 = .ok (.goto (-50), 3) := by decide +kernel
theorem dX6_execute_93 : decode cX6_execute 93 = .ok (.aload_n 0, 1) := by decide +kernel
theorem dX6_execute_94 : decode cX6_execute 94 = .ok (.aload_n 0, 1) := by decide +kernel
theorem dX6_execute_95 : decode cX6_execute 95 = .ok (.getfield 59, 3) := by decide +kernel
theorem dX6_execute_98 : decode cX6_execute 98 = .ok (.invokevirtual 70, 3) := by decide +kernel
theorem dX6_execute_101 : decode cX6_execute 101 = .ok (.aload_n 0, 1) := by decide +kernel
theorem dX6_execute_102 : decode cX6_execute 102 = .ok (.iconst 1, 1) := by decide +kernel
theorem dX6_execute_103 : decode cX6_execute 103 = .ok (.putfield 88, 3) := by decide +kernel
theorem dX6_execute_106 : decode cX6_execute 106 = .ok (.aload_n 0, 1) := by decide +kernel
theorem dX6_execute_107 : decode cX6_execute 107 = .ok (.getfield 182, 3) := by decide +kernel
theorem dX6_execute_110 : decode cX6_execute 110 = .ok (.ireturn, 1) := by decide +kernel
theorem dX6_isImage_0 : decode cX6_isImage 0 = .ok (.iload_n 0, 1) := by decide +kernel
theorem dX6_isImage_1 : decode cX6_isImage 1 = .ok (.iconst 0, 1) := by decide +kernel
theorem dX6_isImage_2 : decode cX6_isImage 2 = .ok (.iconst 1, 1) := by decide +kernel
theorem dX6_isImage_3 : decode cX6_isImage 3 = .ok (.invokestatic 62, 3) := by decide +kernel
theorem dX6_isImage_6 : decode cX6_isImage 6 = .ok (.ireturn, 1) := by decide +kernel
theorem dX6_keep_0 : decode cX6_keep 0 = .ok (.iload_n 1, 1) := by decide +kernel
theorem dX6_keep_1 : decode cX6_keep 1 = .ok (.invokestatic 200, 3) := by decide +kernel
theorem dX6_keep_4 : decode cX6_keep 4 = .ok (.ifCond .ne 5, 3) := by decide +kernel
theorem dX6_keep_7 : decode cX6_keep 7 = .ok (.iconst (-1), 1) := by decide +kernel
theorem dX6_keep_8 : decode cX6_keep 8 = .ok (.ireturn, 1) := by decide +kernel
theorem dX6_keep_9 : decode cX6_keep 9 = .ok (.iconst 0, 1) := by decide +kernel
theorem dX6_keep_10 : decode cX6_keep 10 = .ok (.istore_n 2, 1) := by decide +kernel
theorem dX6_keep_11 : decode cX6_keep 11 = .ok (.iload_n 2, 1) := by decide +kernel
theorem dX6_keep_12 : decode cX6_keep 12 = .ok (.bipush 93, 2) := by decide +kernel
theorem dX6_keep_14 : decode cX6_keep 14 = .ok (.if_icmp .ge 26, 3) := by decide +kernel
theorem dX6_keep_17 : decode cX6_keep 17 = .ok (.aload_n 0, 1) := by decide +kernel
theorem dX6_keep_18 : decode cX6_keep 18 = .ok (.getfield 16, 3) := by decide +kernel
theorem dX6_keep_21 : decode cX6_keep 21 = .ok (.bipush 93, 2) := by decide +kernel
theorem dX6_keep_23 : decode cX6_keep 23 = .ok (.iload_n 1, 1) := by decide +kernel
theorem dX6_keep_24 : decode cX6_keep 24 = .ok (.imul, 1) := by decide +kernel
theorem dX6_keep_25 : decode cX6_keep 25 = .ok (.iload_n 2, 1) := by decide +kernel
theorem dX6_keep_26 : decode cX6_keep 26 = .ok (.iadd, 1) := by decide +kernel
theorem dX6_keep_27 : decode cX6_keep 27 = .ok (.aload_n 0, 1) := by decide +kernel
theorem dX6_keep_28 : decode cX6_keep 28 = .ok (.getfield 7, 3) := by decide +kernel
theorem dX6_keep_31 : decode cX6_keep 31 = .ok (.iload_n 2, 1) := by decide +kernel
theorem dX6_keep_32 : decode cX6_keep 32 = .ok (.iaload, 1) := by decide +kernel
theorem dX6_keep_33 : decode cX6_keep 33 = .ok (.iastore, 1) := by decide +kernel
theorem dX6_keep_34 : decode cX6_keep 34 = .ok (.iinc 2 1, 3) := by decide +kernel
theorem dX6_keep_37 : decode cX6_keep 37 = .ok (.goto (-26), 3) := by decide +kernel
theorem dX6_keep_40 : decode cX6_keep 40 = .ok (.aload_n 0, 1) := by decide +kernel
theorem dX6_keep_41 : decode cX6_keep 41 = .ok (.dup, 1) := by decide +kernel
theorem dX6_keep_42 : decode cX6_keep 42 = .ok (.getfield 203, 3) := by decide +kernel
theorem dX6_keep_45 : decode cX6_keep 45 = .ok (.iconst 1, 1) := by decide +kernel
theorem dX6_keep_46 : decode cX6_keep 46 = .ok (.iload_n 1, 1) := by decide +kernel
theorem dX6_keep_47 : decode cX6_keep 47 = .ok (.ishl, 1) := by decide +kernel
theorem dX6_keep_48 : decode cX6_keep 48 = .ok (.ior, 1) := by decide +kernel
theorem dX6_keep_49 : decode cX6_keep 49 = .ok (.putfield 203, 3) := by decide +kernel
theorem dX6_keep_52 : decode cX6_keep 52 = .ok (.aload_n 0, 1) := by decide +kernel
theorem dX6_keep_53 : decode cX6_keep 53 = .ok (.getfield 7, 3) := by decide +kernel
theorem dX6_keep_56 : decode cX6_keep 56 = .ok (.iconst 1, 1) := by decide +kernel
theorem dX6_keep_57 : decode cX6_keep 57 = .ok (.iaload, 1) := by decide +kernel
theorem dX6_keep_58 : decode cX6_keep 58 = .ok (.ireturn, 1) := by decide +kernel
theorem dX6_back_0 : decode cX6_back 0 = .ok (.iload_n 1, 1) := by decide +kernel
theorem dX6_back_1 : decode cX6_back 1 = .ok (.invokestatic 200, 3) := by decide +kernel
theorem dX6_back_4 : decode cX6_back 4 = .ok (.ifCond .ne 5, 3) := by decide +kernel
theorem dX6_back_7 : decode cX6_back 7 = .ok (.iconst (-1), 1) := by decide +kernel
theorem dX6_back_8 : decode cX6_back 8 = .ok (.ireturn, 1) := by decide +kernel
theorem dX6_back_9 : decode cX6_back 9 = .ok (.aload_n 0, 1) := by decide +kernel
theorem dX6_back_10 : decode cX6_back 10 = .ok (.getfield 203, 3) := by decide +kernel
theorem dX6_back_13 : decode cX6_back 13 = .ok (.iload_n 1, 1) := by decide +kernel
theorem dX6_back_14 : decode cX6_back 14 = .ok (.ishr, 1) := by decide +kernel
theorem dX6_back_15 : decode cX6_back 15 = .ok (.iconst 1, 1) := by decide +kernel
theorem dX6_back_16 : decode cX6_back 16 = .ok (.iand, 1) := by decide +kernel
theorem dX6_back_17 : decode cX6_back 17 = .ok (.ifCond .ne 6, 3) := by decide +kernel
theorem dX6_back_20 : decode cX6_back 20 = .ok (.bipush (-2), 2) := by decide +kernel
theorem dX6_back_22 : decode cX6_back 22 = .ok (.ireturn, 1) := by decide +kernel
theorem dX6_back_23 : decode cX6_back 23 = .ok (.aload_n 0, 1) := by decide +kernel
theorem dX6_back_24 : decode cX6_back 24 = .ok (.invokevirtual 85, 3) := by decide +kernel
theorem dX6_back_27 : decode cX6_back 27 = .ok (.iconst 0, 1) := by decide +kernel
theorem dX6_back_28 : decode cX6_back 28 = .ok (.istore_n 2, 1) := by decide +kernel
theorem dX6_back_29 : decode cX6_back 29 = .ok (.iload_n 2, 1) := by decide +kernel
theorem dX6_back_30 : decode cX6_back 30 = .ok (.bipush 93, 2) := by decide +kernel
theorem dX6_back_32 : decode cX6_back 32 = .ok (.if_icmp .ge 26, 3) := by decide +kernel
theorem dX6_back_35 : decode cX6_back 35 = .ok (.aload_n 0, 1) := by decide +kernel
theorem dX6_back_36 : decode cX6_back 36 = .ok (.getfield 7, 3) := by decide +kernel
theorem dX6_back_39 : decode cX6_back 39 = .ok (.iload_n 2, 1) := by decide +kernel
theorem dX6_back_40 : decode cX6_back 40 = .ok (.aload_n 0, 1) := by decide +kernel
theorem dX6_back_41 : decode cX6_back 41 = .ok (.getfield 16, 3) := by decide +kernel
theorem dX6_back_44 : decode cX6_back 44 = .ok (.bipush 93, 2) := by decide +kernel
theorem dX6_back_46 : decode cX6_back 46 = .ok (.iload_n 1, 1) := by decide +kernel
theorem dX6_back_47 : decode cX6_back 47 = .ok (.imul, 1) := by decide +kernel
theorem dX6_back_48 : decode cX6_back 48 = .ok (.iload_n 2, 1) := by decide +kernel
theorem dX6_back_49 : decode cX6_back 49 = .ok (.iadd, 1) := by decide +kernel
theorem dX6_back_50 : decode cX6_back 50 = .ok (.iaload, 1) := by decide +kernel
theorem dX6_back_51 : decode cX6_back 51 = .ok (.iastore, 1) := by decide +kernel
theorem dX6_back_52 : decode cX6_back 52 = .ok (.iinc 2 1, 3) := by decide +kernel
theorem dX6_back_55 : decode cX6_back 55 = .ok (.goto (-26), 3) := by decide +kernel
theorem dX6_back_58 : decode cX6_back 58 = .ok (.aload_n 0, 1) := by decide +kernel
theorem dX6_back_59 : decode cX6_back 59 = .ok (.iconst 1, 1) := by decide +kernel
theorem dX6_back_60 : decode cX6_back 60 = .ok (.putfield 88, 3) := by decide +kernel
theorem dX6_back_63 : decode cX6_back 63 = .ok (.aload_n 0, 1) := by decide +kernel
theorem dX6_back_64 : decode cX6_back 64 = .ok (.getfield 7, 3) := by decide +kernel
theorem dX6_back_67 : decode cX6_back 67 = .ok (.iconst 1, 1) := by decide +kernel
theorem dX6_back_68 : decode cX6_back 68 = .ok (.iaload, 1) := by decide +kernel
theorem dX6_back_69 : decode cX6_back 69 = .ok (.ireturn, 1) := by decide +kernel
