theorem dX5_init_0 : decode cX5_init 0 = .ok (.aload_n 0, 1) := by decide +kernel
theorem dX5_init_1 : decode cX5_init 1 = .ok (.invokespecial 1, 3) := by decide +kernel
theorem dX5_init_4 : decode cX5_init 4 = .ok (.new 7, 3) := by decide +kernel
theorem dX5_init_7 : decode cX5_init 7 = .ok (.dup, 1) := by decide +kernel
theorem dX5_init_8 : decode cX5_init 8 = .ok (.invokespecial 9, 3) := by decide +kernel
theorem dX5_init_11 : decode cX5_init 11 = .ok (.astore_n 1, 1) := by decide +kernel
theorem dX5_init_12 : decode cX5_init 12 = .ok (.new 10, 3) := by decide +kernel
theorem dX5_init_15 : decode cX5_init 15 = .ok (.dup, 1) := by decide +kernel
theorem dX5_init_16 : decode cX5_init 16 = .ok (.aload_n 1, 1) := by decide +kernel
theorem dX5_init_17 : decode cX5_init 17 = .ok (.invokespecial 12, 3) := by decide +kernel
theorem dX5_init_20 : decode cX5_init 20 = .ok (.astore_n 2, 1) := by decide +kernel
theorem dX5_init_21 : decode cX5_init 21 = .ok (.aload_n 0, 1) := by decide +kernel
theorem dX5_init_22 : decode cX5_init 22 = .ok (.aload_n 1, 1) := by decide +kernel
theorem dX5_init_23 : decode cX5_init 23 = .ok (.putfield 15, 3) := by decide +kernel
theorem dX5_init_26 : decode cX5_init 26 = .ok (.aload_n 0, 1) := by decide +kernel
theorem dX5_init_27 : decode cX5_init 27 = .ok (.aload_n 2, 1) := by decide +kernel
theorem dX5_init_28 : decode cX5_init 28 = .ok (.putfield 21, 3) := by decide +kernel
theorem dX5_init_31 : decode cX5_init 31 = .ok (.aload_n 0, 1) := by decide +kernel
theorem dX5_init_32 : decode cX5_init 32 = .ok (.new 7, 3) := by decide +kernel
theorem dX5_init_35 : decode cX5_init 35 = .ok (.dup, 1) := by decide +kernel
theorem dX5_init_36 : decode cX5_init 36 = .ok (.invokespecial 9, 3) := by decide +kernel
theorem dX5_init_39 : decode cX5_init 39 = .ok (.putfield 25, 3) := by decide +kernel
theorem dX5_init_42 : decode cX5_init 42 = .ok (.aload_n 0, 1) := by decide +kernel
theorem dX5_init_43 : decode cX5_init 43 = .ok (.bipush 8, 2) := by decide +kernel
theorem dX5_init_45 : decode cX5_init 45 = .ok (.anewarray 7, 3) := by decide +kernel
theorem dX5_init_48 : decode cX5_init 48 = .ok (.putfield 28, 3) := by decide +kernel
theorem dX5_init_51 : decode cX5_init 51 = .ok (.iconst 0, 1) := by decide +kernel
theorem dX5_init_52 : decode cX5_init 52 = .ok (.istore_n 3, 1) := by decide +kernel
theorem dX5_init_53 : decode cX5_init 53 = .ok (.iload_n 3, 1) := by decide +kernel
theorem dX5_init_54 : decode cX5_init 54 = .ok (.bipush 8, 2) := by decide +kernel
theorem dX5_init_56 : decode cX5_init 56 = .ok (.if_icmp .ge 22, 3) := by decide +kernel
theorem dX5_init_59 : decode cX5_init 59 = .ok (.aload_n 0, 1) := by decide +kernel
theorem dX5_init_60 : decode cX5_init 60 = .ok (.getfield 28, 3) := by decide +kernel
theorem dX5_init_63 : decode cX5_init 63 = .ok (.iload_n 3, 1) := by decide +kernel
theorem dX5_init_64 : decode cX5_init 64 = .ok (.new 7, 3) := by decide +kernel
theorem dX5_init_67 : decode cX5_init 67 = .ok (.dup, 1) := by decide +kernel
theorem dX5_init_68 : decode cX5_init 68 = .ok (.invokespecial 9, 3) := by decide +kernel
theorem dX5_init_71 : decode cX5_init 71 = .ok (.aastore, 1) := by decide +kernel
theorem dX5_init_72 : decode cX5_init 72 = .ok (.iinc 3 1, 3) := by decide +kernel
theorem dX5_init_75 : decode cX5_init 75 = .ok (.goto (-22), 3) := by decide +kernel
theorem dX5_init_78 : decode cX5_init 78 = .ok (.aload_n 0, 1) := by decide +kernel
theorem dX5_init_79 : decode cX5_init 79 = .ok (.iconst 0, 1) := by decide +kernel
theorem dX5_init_80 : decode cX5_init 80 = .ok (.putfield 32, 3) := by decide +kernel
theorem dX5_init_83 : decode cX5_init 83 = .ok (.aload_n 0, 1) := by decide +kernel
theorem dX5_init_84 : decode cX5_init 84 = .ok (.iconst 2, 1) := by decide +kernel
theorem dX5_init_85 : decode cX5_init 85 = .ok (.anewarray 7, 3) := by decide +kernel
theorem dX5_init_88 : decode cX5_init 88 = .ok (.putfield 36, 3) := by decide +kernel
theorem dX5_init_91 : decode cX5_init 91 = .ok (.iconst 0, 1) := by decide +kernel
theorem dX5_init_92 : decode cX5_init 92 = .ok (.istore_n 3, 1) := by decide +kernel
theorem dX5_init_93 : decode cX5_init 93 = .ok (.iload_n 3, 1) := by decide +kernel
theorem dX5_init_94 : decode cX5_init 94 = .ok (.iconst 2, 1) := by decide +kernel
theorem dX5_init_95 : decode cX5_init 95 = .ok (.if_icmp .ge 22, 3) := by decide +kernel
theorem dX5_init_98 : decode cX5_init 98 = .ok (.aload_n 0, 1) := by decide +kernel
theorem dX5_init_99 : decode cX5_init 99 = .ok (.getfield 36, 3) := by decide +kernel
theorem dX5_init_102 : decode cX5_init 102 = .ok (.iload_n 3, 1) := by decide +kernel
theorem dX5_init_103 : decode cX5_init 103 = .ok (.new 7, 3) := by decide +kernel
theorem dX5_init_106 : decode cX5_init 106 = .ok (.dup, 1) := by decide +kernel
theorem dX5_init_107 : decode cX5_init 107 = .ok (.invokespecial 9, 3) := by decide +kernel
theorem dX5_init_110 : decode cX5_init 110 = .ok (.aastore, 1) := by decide +kernel
theorem dX5_init_111 : decode cX5_init 111 = .ok (.iinc 3 1, 3) := by decide +kernel
theorem dX5_init_114 : decode cX5_init 114 = .ok (.goto (-21), 3) := by decide +kernel
theorem dX5_init_117 : decode cX5_init 117 = .ok (.aload_n 0, 1) := by decide +kernel
theorem dX5_init_118 : decode cX5_init 118 = .ok (.iconst 2, 1) := by decide +kernel
theorem dX5_init_119 : decode cX5_init 119 = .ok (.newarray .boolean, 2) := by decide +kernel
theorem dX5_init_121 : decode cX5_init 121 = .ok (.putfield 39, 3) := by decide +kernel
theorem dX5_init_124 : decode cX5_init 124 = .ok (.aload_n 0, 1) := by decide +kernel
theorem dX5_init_125 : decode cX5_init 125 = .ok (.new 43, 3) := by decide +kernel
theorem dX5_init_128 : decode cX5_init 128 = .ok (.dup, 1) := by decide +kernel
theorem dX5_init_129 : decode cX5_init 129 = .ok (.aload_n 1, 1) := by decide +kernel
theorem dX5_init_130 : decode cX5_init 130 = .ok (.aload_n 2, 1) := by decide +kernel
theorem dX5_init_131 : decode cX5_init 131 = .ok (.invokespecial 45, 3) := by decide +kernel
theorem dX5_init_134 : decode cX5_init 134 = .ok (.putfield 48, 3) := by decide +kernel
theorem dX5_init_137 : decode cX5_init 137 = .ok (.aload_n 0, 1) := by decide +kernel
theorem dX5_init_138 : decode cX5_init 138 = .ok (.iconst 0, 1) := by decide +kernel
theorem dX5_init_139 : decode cX5_init 139 = .ok (.putfield 52, 3) := by decide +kernel
theorem dX5_init_142 : decode cX5_init 142 = .ok (.aload_n 0, 1) := by decide +kernel
theorem dX5_init_143 : decode cX5_init 143 = .ok (.iconst 0, 1) := by decide +kernel
theorem dX5_init_144 : decode cX5_init 144 = .ok (.putfield 56, 3) := by decide +kernel
theorem dX5_init_147 : decode cX5_init 147 = .ok (.aload_n 0, 1) := by decide +kernel
theorem dX5_init_148 : decode cX5_init 148 = .ok (.new 59, 3) := by decide +kernel
theorem dX5_init_151 : decode cX5_init 151 = .ok (.dup, 1) := by decide +kernel
theorem dX5_init_152 : decode cX5_init 152 = .ok (.aload_n 1, 1) := by decide +kernel
theorem dX5_init_153 : decode cX5_init 153 = .ok (.aload_n 2, 1) := by decide +kernel
theorem dX5_init_154 : decode cX5_init 154 = .ok (.new 43, 3) := by decide +kernel
theorem dX5_init_157 : decode cX5_init 157 = .ok (.dup, 1) := by decide +kernel
theorem dX5_init_158 : decode cX5_init 158 = .ok (.aload_n 1, 1) := by decide +kernel
theorem dX5_init_159 : decode cX5_init 159 = .ok (.aload_n 2, 1) := by decide +kernel
theorem dX5_init_160 : decode cX5_init 160 = .ok (.invokespecial 45, 3) := by decide +kernel
theorem dX5_init_163 : decode cX5_init 163 = .ok (.invokespecial 61, 3) := by decide +kernel
theorem dX5_init_166 : decode cX5_init 166 = .ok (.putfield 64, 3) := by decide +kernel
theorem dX5_init_169 : decode cX5_init 169 = .ok (.aload_n 0, 1) := by decide +kernel
theorem dX5_init_170 : decode cX5_init 170 = .ok (.new 68, 3) := by decide +kernel
theorem dX5_init_173 : decode cX5_init 173 = .ok (.dup, 1) := by decide +kernel
theorem dX5_init_174 : decode cX5_init 174 = .ok (.invokespecial 70, 3) := by decide +kernel
theorem dX5_init_177 : decode cX5_init 177 = .ok (.putfield 71, 3) := by decide +kernel
theorem dX5_init_180 : decode cX5_init 180 = .ok (.return_, 1) := by decide +kernel
theorem dX5_begin_0 : decode cX5_begin 0 = .ok (.iload_n 1, 1) := by decide +kernel
theorem dX5_begin_1 : decode cX5_begin 1 = .ok (.iconst 2, 1) := by decide +kernel
theorem dX5_begin_2 : decode cX5_begin 2 = .ok (.if_icmp .lt 9, 3) := by decide +kernel
theorem dX5_begin_5 : decode cX5_begin 5 = .ok (.iload_n 1, 1) := by decide +kernel
theorem dX5_begin_6 : decode cX5_begin 6 = .ok (.bipush 9, 2) := by decide +kernel
theorem dX5_begin_8 : decode cX5_begin 8 = .ok (.if_icmp .le 5, 3) := by decide +kernel
theorem dX5_begin_11 : decode cX5_begin 11 = .ok (.iconst (-1), 1) := by decide +kernel
theorem dX5_begin_12 : decode cX5_begin 12 = .ok (.ireturn, 1) := by decide +kernel
theorem dX5_begin_13 : decode cX5_begin 13 = .ok (.aload_n 0, 1) := by decide +kernel
theorem dX5_begin_14 : decode cX5_begin 14 = .ok (.getfield 15, 3) := by decide +kernel
theorem dX5_begin_17 : decode cX5_begin 17 = .ok (.getfield 75, 3) := by decide +kernel
theorem dX5_begin_20 : decode cX5_begin 20 = .ok (.istore_n 2, 1) := by decide +kernel
theorem dX5_begin_21 : decode cX5_begin 21 = .ok (.aload_n 0, 1) := by decide +kernel
theorem dX5_begin_22 : decode cX5_begin 22 = .ok (.invokevirtual 78, 3) := by decide +kernel
theorem dX5_begin_25 : decode cX5_begin 25 = .ok (.aload_n 0, 1) := by decide +kernel
theorem dX5_begin_26 : decode cX5_begin 26 = .ok (.iconst 0, 1) := by decide +kernel
theorem dX5_begin_27 : decode cX5_begin 27 = .ok (.putfield 56, 3) := by decide +kernel
theorem dX5_begin_30 : decode cX5_begin 30 = .ok (.aload_n 0, 1) := by decide +kernel
theorem dX5_begin_31 : decode cX5_begin 31 = .ok (.getfield 15, 3) := by decide +kernel
theorem dX5_begin_34 : decode cX5_begin 34 = .ok (.iload_n 1, 1) := by decide +kernel
theorem dX5_begin_35 : decode cX5_begin 35 = .ok (.invokevirtual 81, 3) := by decide +kernel
theorem dX5_begin_38 : decode cX5_begin 38 = .ok (.iload_n 2, 1) := by decide +kernel
theorem dX5_begin_39 : decode cX5_begin 39 = .ok (.ireturn, 1) := by decide +kernel
theorem dX5_add_0 : decode cX5_add 0 = .ok (.aload_n 0, 1) := by decide +kernel
theorem dX5_add_1 : decode cX5_add 1 = .ok (.getfield 15, 3) := by decide +kernel
theorem dX5_add_4 : decode cX5_add 4 = .ok (.iload_n 1, 1) := by decide +kernel
theorem dX5_add_5 : decode cX5_add 5 = .ok (.iload_n 2, 1) := by decide +kernel
theorem dX5_add_6 : decode cX5_add 6 = .ok (.iload_n 3, 1) := by decide +kernel
theorem dX5_add_7 : decode cX5_add 7 = .ok (.invokevirtual 85, 3) := by decide +kernel
theorem dX5_add_10 : decode cX5_add 10 = .ok (.istore 4, 2) := by decide +kernel
theorem dX5_add_12 : decode cX5_add 12 = .ok (.iload 4, 2) := by decide +kernel
theorem dX5_add_14 : decode cX5_add 14 = .ok (.ifCond .eq 6, 3) := by decide +kernel
theorem dX5_add_17 : decode cX5_add 17 = .ok (.iload 4, 2) := by decide +kernel
theorem dX5_add_19 : decode cX5_add 19 = .ok (.ireturn, 1) := by decide +kernel
theorem dX5_add_20 : decode cX5_add 20 = .ok (.aload_n 0, 1) := by decide +kernel
theorem dX5_add_21 : decode cX5_add 21 = .ok (.invokevirtual 78, 3) := by decide +kernel
theorem dX5_add_24 : decode cX5_add 24 = .ok (.aload_n 0, 1) := by decide +kernel
theorem dX5_add_25 : decode cX5_add 25 = .ok (.iconst 0, 1) := by decide +kernel
theorem dX5_add_26 : decode cX5_add 26 = .ok (.putfield 56, 3) := by decide +kernel
theorem dX5_add_29 : decode cX5_add 29 = .ok (.aload_n 0, 1) := by decide +kernel
theorem dX5_add_30 : decode cX5_add 30 = .ok (.getfield 15, 3) := by decide +kernel
theorem dX5_add_33 : decode cX5_add 33 = .ok (.iload_n 1, 1) := by decide +kernel
theorem dX5_add_34 : decode cX5_add 34 = .ok (.iload_n 2, 1) := by decide +kernel
theorem dX5_add_35 : decode cX5_add 35 = .ok (.iload_n 3, 1) := by decide +kernel
theorem dX5_add_36 : decode cX5_add 36 = .ok (.invokevirtual 89, 3) := by decide +kernel
theorem dX5_add_39 : decode cX5_add 39 = .ok (.aload_n 0, 1) := by decide +kernel
theorem dX5_add_40 : decode cX5_add 40 = .ok (.getfield 15, 3) := by decide +kernel
theorem dX5_add_43 : decode cX5_add 43 = .ok (.getfield 93, 3) := by decide +kernel
theorem dX5_add_46 : decode cX5_add 46 = .ok (.iconst 1, 1) := by decide +kernel
theorem dX5_add_47 : decode cX5_add 47 = .ok (.isub, 1) := by decide +kernel
theorem dX5_add_48 : decode cX5_add 48 = .ok (.ireturn, 1) := by decide +kernel
theorem dX5_remove_0 : decode cX5_remove 0 = .ok (.aload_n 0, 1) := by decide +kernel
theorem dX5_remove_1 : decode cX5_remove 1 = .ok (.getfield 15, 3) := by decide +kernel
theorem dX5_remove_4 : decode cX5_remove 4 = .ok (.iload_n 1, 1) := by decide +kernel
theorem dX5_remove_5 : decode cX5_remove 5 = .ok (.invokevirtual 96, 3) := by decide +kernel
theorem dX5_remove_8 : decode cX5_remove 8 = .ok (.ifCond .ne 5, 3) := by decide +kernel
theorem dX5_remove_11 : decode cX5_remove 11 = .ok (.iconst (-1), 1) := by decide +kernel
theorem dX5_remove_12 : decode cX5_remove 12 = .ok (.ireturn, 1) := by decide +kernel
theorem dX5_remove_13 : decode cX5_remove 13 = .ok (.aload_n 0, 1) := by decide +kernel
theorem dX5_remove_14 : decode cX5_remove 14 = .ok (.invokevirtual 78, 3) := by decide +kernel
theorem dX5_remove_17 : decode cX5_remove 17 = .ok (.aload_n 0, 1) := by decide +kernel
theorem dX5_remove_18 : decode cX5_remove 18 = .ok (.iconst 0, 1) := by decide +kernel
theorem dX5_remove_19 : decode cX5_remove 19 = .ok (.putfield 56, 3) := by decide +kernel
theorem dX5_remove_22 : decode cX5_remove 22 = .ok (.aload_n 0, 1) := by decide +kernel
theorem dX5_remove_23 : decode cX5_remove 23 = .ok (.getfield 15, 3) := by decide +kernel
theorem dX5_remove_26 : decode cX5_remove 26 = .ok (.iload_n 1, 1) := by decide +kernel
theorem dX5_remove_27 : decode cX5_remove 27 = .ok (.invokevirtual 100, 3) := by decide +kernel
theorem dX5_remove_30 : decode cX5_remove 30 = .ok (.aload_n 0, 1) := by decide +kernel
theorem dX5_remove_31 : decode cX5_remove 31 = .ok (.getfield 15, 3) := by decide +kernel
theorem dX5_remove_34 : decode cX5_remove 34 = .ok (.getfield 93, 3) := by decide +kernel
theorem dX5_remove_37 : decode cX5_remove 37 = .ok (.ireturn, 1) := by decide +kernel
theorem dX5_turn_0 : decode cX5_turn 0 = .ok (.aload_n 0, 1) := by decide +kernel
theorem dX5_turn_1 : decode cX5_turn 1 = .ok (.getfield 15, 3) := by decide +kernel
theorem dX5_turn_4 : decode cX5_turn 4 = .ok (.iload_n 1, 1) := by decide +kernel
theorem dX5_turn_5 : decode cX5_turn 5 = .ok (.invokevirtual 96, 3) := by decide +kernel
theorem dX5_turn_8 : decode cX5_turn 8 = .ok (.ifCond .eq 10, 3) := by decide +kernel
theorem dX5_turn_11 : decode cX5_turn 11 = .ok (.iload_n 2, 1) := by decide +kernel
theorem dX5_turn_12 : decode cX5_turn 12 = .ok (.invokestatic 103, 3) := by decide +kernel
theorem dX5_turn_15 : decode cX5_turn 15 = .ok (.ifCond .ne 5, 3) := by decide +kernel
theorem dX5_turn_18 : decode cX5_turn 18 = .ok (.iconst (-1), 1) := by decide +kernel
theorem dX5_turn_19 : decode cX5_turn 19 = .ok (.ireturn, 1) := by decide +kernel
theorem dX5_turn_20 : decode cX5_turn 20 = .ok (.aload_n 0, 1) := by decide +kernel
theorem dX5_turn_21 : decode cX5_turn 21 = .ok (.getfield 15, 3) := by decide +kernel
theorem dX5_turn_24 : decode cX5_turn 24 = .ok (.getfield 106, 3) := by decide +kernel
theorem dX5_turn_27 : decode cX5_turn 27 = .ok (.iload_n 1, 1) := by decide +kernel
theorem dX5_turn_28 : decode cX5_turn 28 = .ok (.invokestatic 109, 3) := by decide +kernel
theorem dX5_turn_31 : decode cX5_turn 31 = .ok (.istore_n 3, 1) := by decide +kernel
theorem dX5_turn_32 : decode cX5_turn 32 = .ok (.aload_n 0, 1) := by decide +kernel
theorem dX5_turn_33 : decode cX5_turn 33 = .ok (.invokevirtual 78, 3) := by decide +kernel
theorem dX5_turn_36 : decode cX5_turn 36 = .ok (.aload_n 0, 1) := by decide +kernel
theorem dX5_turn_37 : decode cX5_turn 37 = .ok (.getfield 15, 3) := by decide +kernel
theorem dX5_turn_40 : decode cX5_turn 40 = .ok (.aload_n 0, 1) := by decide +kernel
theorem dX5_turn_41 : decode cX5_turn 41 = .ok (.getfield 15, 3) := by decide +kernel
theorem dX5_turn_44 : decode cX5_turn 44 = .ok (.getfield 106, 3) := by decide +kernel
theorem dX5_turn_47 : decode cX5_turn 47 = .ok (.iload_n 1, 1) := by decide +kernel
theorem dX5_turn_48 : decode cX5_turn 48 = .ok (.iload_n 2, 1) := by decide +kernel
theorem dX5_turn_49 : decode cX5_turn 49 = .ok (.invokestatic 113, 3) := by decide +kernel
theorem dX5_turn_52 : decode cX5_turn 52 = .ok (.putfield 106, 3) := by decide +kernel
theorem dX5_turn_55 : decode cX5_turn 55 = .ok (.iload_n 3, 1) := by decide +kernel
theorem dX5_turn_56 : decode cX5_turn 56 = .ok (.ireturn, 1) := by decide +kernel
theorem dX5_know_0 : decode cX5_know 0 = .ok (.aload_n 0, 1) := by decide +kernel
theorem dX5_know_1 : decode cX5_know 1 = .ok (.getfield 15, 3) := by decide +kernel
theorem dX5_know_4 : decode cX5_know 4 = .ok (.iload_n 1, 1) := by decide +kernel
theorem dX5_know_5 : decode cX5_know 5 = .ok (.invokevirtual 96, 3) := by decide +kernel
theorem dX5_know_8 : decode cX5_know 8 = .ok (.ifCond .eq 10, 3) := by decide +kernel
theorem dX5_know_11 : decode cX5_know 11 = .ok (.iload_n 2, 1) := by decide +kernel
theorem dX5_know_12 : decode cX5_know 12 = .ok (.invokestatic 103, 3) := by decide +kernel
theorem dX5_know_15 : decode cX5_know 15 = .ok (.ifCond .ne 5, 3) := by decide +kernel
theorem dX5_know_18 : decode cX5_know 18 = .ok (.iconst (-1), 1) := by decide +kernel
theorem dX5_know_19 : decode cX5_know 19 = .ok (.ireturn, 1) := by decide +kernel
theorem dX5_know_20 : decode cX5_know 20 = .ok (.aload_n 0, 1) := by decide +kernel
theorem dX5_know_21 : decode cX5_know 21 = .ok (.getfield 15, 3) := by decide +kernel
theorem dX5_know_24 : decode cX5_know 24 = .ok (.getfield 116, 3) := by decide +kernel
theorem dX5_know_27 : decode cX5_know 27 = .ok (.iload_n 1, 1) := by decide +kernel
theorem dX5_know_28 : decode cX5_know 28 = .ok (.invokestatic 109, 3) := by decide +kernel
theorem dX5_know_31 : decode cX5_know 31 = .ok (.istore_n 3, 1) := by decide +kernel
theorem dX5_know_32 : decode cX5_know 32 = .ok (.aload_n 0, 1) := by decide +kernel
theorem dX5_know_33 : decode cX5_know 33 = .ok (.invokevirtual 78, 3) := by decide +kernel
theorem dX5_know_36 : decode cX5_know 36 = .ok (.aload_n 0, 1) := by decide +kernel
theorem dX5_know_37 : decode cX5_know 37 = .ok (.getfield 15, 3) := by decide +kernel
theorem dX5_know_40 : decode cX5_know 40 = .ok (.aload_n 0, 1) := by decide +kernel
theorem dX5_know_41 : decode cX5_know 41 = .ok (.getfield 15, 3) := by decide +kernel
theorem dX5_know_44 : decode cX5_know 44 = .ok (.getfield 116, 3) := by decide +kernel
theorem dX5_know_47 : decode cX5_know 47 = .ok (.iload_n 1, 1) := by decide +kernel
theorem dX5_know_48 : decode cX5_know 48 = .ok (.iload_n 2, 1) := by decide +kernel
theorem dX5_know_49 : decode cX5_know 49 = .ok (.invokestatic 113, 3) := by decide +kernel
theorem dX5_know_52 : decode cX5_know 52 = .ok (.putfield 116, 3) := by decide +kernel
theorem dX5_know_55 : decode cX5_know 55 = .ok (.iload_n 3, 1) := by decide +kernel
theorem dX5_know_56 : decode cX5_know 56 = .ok (.ireturn, 1) := by decide +kernel
theorem dX5_mend_0 : decode cX5_mend 0 = .ok (.aload_n 0, 1) := by decide +kernel
theorem dX5_mend_1 : decode cX5_mend 1 = .ok (.getfield 15, 3) := by decide +kernel
theorem dX5_mend_4 : decode cX5_mend 4 = .ok (.invokevirtual 119, 3) := by decide +kernel
theorem dX5_mend_7 : decode cX5_mend 7 = .ok (.istore_n 1, 1) := by decide +kernel
theorem dX5_mend_8 : decode cX5_mend 8 = .ok (.aload_n 0, 1) := by decide +kernel
theorem dX5_mend_9 : decode cX5_mend 9 = .ok (.invokevirtual 78, 3) := by decide +kernel
theorem dX5_mend_12 : decode cX5_mend 12 = .ok (.aload_n 0, 1) := by decide +kernel
theorem dX5_mend_13 : decode cX5_mend 13 = .ok (.getfield 15, 3) := by decide +kernel
theorem dX5_mend_16 : decode cX5_mend 16 = .ok (.aload_n 0, 1) := by decide +kernel
theorem dX5_mend_17 : decode cX5_mend 17 = .ok (.getfield 15, 3) := by decide +kernel
theorem dX5_mend_20 : decode cX5_mend 20 = .ok (.getfield 106, 3) := by decide +kernel
theorem dX5_mend_23 : decode cX5_mend 23 = .ok (.putfield 116, 3) := by decide +kernel
theorem dX5_mend_26 : decode cX5_mend 26 = .ok (.iload_n 1, 1) := by decide +kernel
theorem dX5_mend_27 : decode cX5_mend 27 = .ok (.ireturn, 1) := by decide +kernel
theorem dX5_mendByLetter_0 : decode cX5_mendByLetter 0 = .ok (.aload_n 0, 1) := by decide +kernel
theorem dX5_mendByLetter_1 : decode cX5_mendByLetter 1 = .ok (.getfield 52, 3) := by decide +kernel
theorem dX5_mendByLetter_4 : decode cX5_mendByLetter 4 = .ok (.ifCond .eq 10, 3) := by decide +kernel
theorem dX5_mendByLetter_7 : decode cX5_mendByLetter 7 = .ok (.aload_n 0, 1) := by decide +kernel
theorem dX5_mendByLetter_8 : decode cX5_mendByLetter 8 = .ok (.getfield 56, 3) := by decide +kernel
theorem dX5_mendByLetter_11 : decode cX5_mendByLetter 11 = .ok (.ifCond .ne 6, 3) := by decide +kernel
theorem dX5_mendByLetter_14 : decode cX5_mendByLetter 14 = .ok (.bipush (-2), 2) := by decide +kernel
theorem dX5_mendByLetter_16 : decode cX5_mendByLetter 16 = .ok (.ireturn, 1) := by decide +kernel
theorem dX5_mendByLetter_17 : decode cX5_mendByLetter 17 = .ok (.aload_n 0, 1) := by decide +kernel
theorem dX5_mendByLetter_18 : decode cX5_mendByLetter 18 = .ok (.getfield 15, 3) := by decide +kernel
theorem dX5_mendByLetter_21 : decode cX5_mendByLetter 21 = .ok (.getfield 116, 3) := by decide +kernel
theorem dX5_mendByLetter_24 : decode cX5_mendByLetter 24 = .ok (.aload_n 0, 1) := by decide +kernel
theorem dX5_mendByLetter_25 : decode cX5_mendByLetter 25 = .ok (.getfield 48, 3) := by decide +kernel
theorem dX5_mendByLetter_28 : decode cX5_mendByLetter 28 = .ok (.getfield 123, 3) := by decide +kernel
theorem dX5_mendByLetter_31 : decode cX5_mendByLetter 31 = .ok (.iand, 1) := by decide +kernel
theorem dX5_mendByLetter_32 : decode cX5_mendByLetter 32 = .ok (.invokestatic 126, 3) := by decide +kernel
theorem dX5_mendByLetter_35 : decode cX5_mendByLetter 35 = .ok (.istore_n 1, 1) := by decide +kernel
theorem dX5_mendByLetter_36 : decode cX5_mendByLetter 36 = .ok (.aload_n 0, 1) := by decide +kernel
theorem dX5_mendByLetter_37 : decode cX5_mendByLetter 37 = .ok (.invokevirtual 78, 3) := by decide +kernel
theorem dX5_mendByLetter_40 : decode cX5_mendByLetter 40 = .ok (.aload_n 0, 1) := by decide +kernel
theorem dX5_mendByLetter_41 : decode cX5_mendByLetter 41 = .ok (.getfield 15, 3) := by decide +kernel
theorem dX5_mendByLetter_44 : decode cX5_mendByLetter 44 = .ok (.dup, 1) := by decide +kernel
theorem dX5_mendByLetter_45 : decode cX5_mendByLetter 45 = .ok (.getfield 116, 3) := by decide +kernel
theorem dX5_mendByLetter_48 : decode cX5_mendByLetter 48 = .ok (.aload_n 0, 1) := by decide +kernel
theorem dX5_mendByLetter_49 : decode cX5_mendByLetter 49 = .ok (.getfield 48, 3) := by decide +kernel
theorem dX5_mendByLetter_52 : decode cX5_mendByLetter 52 = .ok (.getfield 123, 3) := by decide +kernel
theorem dX5_mendByLetter_55 : decode cX5_mendByLetter 55 = .ok (.iconst (-1), 1) := by decide +kernel
theorem dX5_mendByLetter_56 : decode cX5_mendByLetter 56 = .ok (.ixor, 1) := by decide +kernel
theorem dX5_mendByLetter_57 : decode cX5_mendByLetter 57 = .ok (.iand, 1) := by decide +kernel
theorem dX5_mendByLetter_58 : decode cX5_mendByLetter 58 = .ok (.putfield 116, 3) := by decide +kernel
theorem dX5_mendByLetter_61 : decode cX5_mendByLetter 61 = .ok (.iload_n 1, 1) := by decide +kernel
theorem dX5_mendByLetter_62 : decode cX5_mendByLetter 62 = .ok (.ireturn, 1) := by decide +kernel
theorem dX5_setRoom_0 : decode cX5_setRoom 0 = .ok (.iload_n 1, 1) := by decide +kernel
theorem dX5_setRoom_1 : decode cX5_setRoom 1 = .ok (.ifCond .lt 9, 3) := by decide +kernel
theorem dX5_setRoom_4 : decode cX5_setRoom 4 = .ok (.iload_n 1, 1) := by decide +kernel
theorem dX5_setRoom_5 : decode cX5_setRoom 5 = .ok (.bipush 18, 2) := by decide +kernel
theorem dX5_setRoom_7 : decode cX5_setRoom 7 = .ok (.if_icmp .le 5, 3) := by decide +kernel
theorem dX5_setRoom_10 : decode cX5_setRoom 10 = .ok (.iconst (-1), 1) := by decide +kernel
theorem dX5_setRoom_11 : decode cX5_setRoom 11 = .ok (.ireturn, 1) := by decide +kernel
theorem dX5_setRoom_12 : decode cX5_setRoom 12 = .ok (.aload_n 0, 1) := by decide +kernel
theorem dX5_setRoom_13 : decode cX5_setRoom 13 = .ok (.getfield 15, 3) := by decide +kernel
theorem dX5_setRoom_16 : decode cX5_setRoom 16 = .ok (.getfield 132, 3) := by decide +kernel
theorem dX5_setRoom_19 : decode cX5_setRoom 19 = .ok (.istore_n 2, 1) := by decide +kernel
theorem dX5_setRoom_20 : decode cX5_setRoom 20 = .ok (.aload_n 0, 1) := by decide +kernel
theorem dX5_setRoom_21 : decode cX5_setRoom 21 = .ok (.invokevirtual 78, 3) := by decide +kernel
theorem dX5_setRoom_24 : decode cX5_setRoom 24 = .ok (.aload_n 0, 1) := by decide +kernel
theorem dX5_setRoom_25 : decode cX5_setRoom 25 = .ok (.getfield 15, 3) := by decide +kernel
theorem dX5_setRoom_28 : decode cX5_setRoom 28 = .ok (.iload_n 1, 1) := by decide +kernel
theorem dX5_setRoom_29 : decode cX5_setRoom 29 = .ok (.putfield 132, 3) := by decide +kernel
theorem dX5_setRoom_32 : decode cX5_setRoom 32 = .ok (.iload_n 2, 1) := by decide +kernel
theorem dX5_setRoom_33 : decode cX5_setRoom 33 = .ok (.ireturn, 1) := by decide +kernel
theorem dX5_undo_0 : decode cX5_undo 0 = .ok (.aload_n 0, 1) := by decide +kernel
theorem dX5_undo_1 : decode cX5_undo 1 = .ok (.getfield 32, 3) := by decide +kernel
theorem dX5_undo_4 : decode cX5_undo 4 = .ok (.ifCond .le 12, 3) := by decide +kernel
theorem dX5_undo_7 : decode cX5_undo 7 = .ok (.aload_n 0, 1) := by decide +kernel
theorem dX5_undo_8 : decode cX5_undo 8 = .ok (.getfield 32, 3) := by decide +kernel
theorem dX5_undo_11 : decode cX5_undo 11 = .ok (.bipush 8, 2) := by decide +kernel
theorem dX5_undo_13 : decode cX5_undo 13 = .ok (.if_icmp .le 6, 3) := by decide +kernel
theorem dX5_undo_16 : decode cX5_undo 16 = .ok (.bipush (-2), 2) := by decide +kernel
theorem dX5_undo_18 : decode cX5_undo 18 = .ok (.ireturn, 1) := by decide +kernel
theorem dX5_undo_19 : decode cX5_undo 19 = .ok (.aload_n 0, 1) := by decide +kernel
theorem dX5_undo_20 : decode cX5_undo 20 = .ok (.dup, 1) := by decide +kernel
theorem dX5_undo_21 : decode cX5_undo 21 = .ok (.getfield 32, 3) := by decide +kernel
theorem dX5_undo_24 : decode cX5_undo 24 = .ok (.iconst 1, 1) := by decide +kernel
theorem dX5_undo_25 : decode cX5_undo 25 = .ok (.isub, 1) := by decide +kernel
theorem dX5_undo_26 : decode cX5_undo 26 = .ok (.putfield 32, 3) := by decide +kernel
theorem dX5_undo_29 : decode cX5_undo 29 = .ok (.aload_n 0, 1) := by decide +kernel
theorem dX5_undo_30 : decode cX5_undo 30 = .ok (.getfield 15, 3) := by decide +kernel
theorem dX5_undo_33 : decode cX5_undo 33 = .ok (.aload_n 0, 1) := by decide +kernel
theorem dX5_undo_34 : decode cX5_undo 34 = .ok (.getfield 28, 3) := by decide +kernel
theorem dX5_undo_37 : decode cX5_undo 37 = .ok (.aload_n 0, 1) := by decide +kernel
theorem dX5_undo_38 : decode cX5_undo 38 = .ok (.getfield 32, 3) := by decide +kernel
theorem dX5_undo_41 : decode cX5_undo 41 = .ok (.aaload, 1) := by decide +kernel
theorem dX5_undo_42 : decode cX5_undo 42 = .ok (.invokevirtual 135, 3) := by decide +kernel
theorem dX5_undo_45 : decode cX5_undo 45 = .ok (.aload_n 0, 1) := by decide +kernel
theorem dX5_undo_46 : decode cX5_undo 46 = .ok (.iconst 0, 1) := by decide +kernel
theorem dX5_undo_47 : decode cX5_undo 47 = .ok (.putfield 56, 3) := by decide +kernel
theorem dX5_undo_50 : decode cX5_undo 50 = .ok (.aload_n 0, 1) := by decide +kernel
theorem dX5_undo_51 : decode cX5_undo 51 = .ok (.getfield 32, 3) := by decide +kernel
theorem dX5_undo_54 : decode cX5_undo 54 = .ok (.ireturn, 1) := by decide +kernel
theorem dX5_told_0 : decode cX5_told 0 = .ok (.iload_n 1, 1) := by decide +kernel
theorem dX5_told_1 : decode cX5_told 1 = .ok (.tableswitch 126 0 8 #[51, 59, 67, 78, 89, 97, 105, 113, 118], 51) := by decide +kernel
theorem dX5_told_52 : decode cX5_told 52 = .ok (.aload_n 0, 1) := by decide +kernel
theorem dX5_told_53 : decode cX5_told 53 = .ok (.getfield 15, 3) := by decide +kernel
theorem dX5_told_56 : decode cX5_told 56 = .ok (.getfield 75, 3) := by decide +kernel
theorem dX5_told_59 : decode cX5_told 59 = .ok (.ireturn, 1) := by decide +kernel
theorem dX5_told_60 : decode cX5_told 60 = .ok (.aload_n 0, 1) := by decide +kernel
theorem dX5_told_61 : decode cX5_told 61 = .ok (.getfield 15, 3) := by decide +kernel
theorem dX5_told_64 : decode cX5_told 64 = .ok (.getfield 93, 3) := by decide +kernel
theorem dX5_told_67 : decode cX5_told 67 = .ok (.ireturn, 1) := by decide +kernel
theorem dX5_told_68 : decode cX5_told 68 = .ok (.aload_n 0, 1) := by decide +kernel
theorem dX5_told_69 : decode cX5_told 69 = .ok (.getfield 15, 3) := by decide +kernel
theorem dX5_told_72 : decode cX5_told 72 = .ok (.getfield 106, 3) := by decide +kernel
theorem dX5_told_75 : decode cX5_told 75 = .ok (.invokestatic 126, 3) := by decide +kernel
theorem dX5_told_78 : decode cX5_told 78 = .ok (.ireturn, 1) := by decide +kernel
theorem dX5_told_79 : decode cX5_told 79 = .ok (.aload_n 0, 1) := by decide +kernel
theorem dX5_told_80 : decode cX5_told 80 = .ok (.getfield 15, 3) := by decide +kernel
theorem dX5_told_83 : decode cX5_told 83 = .ok (.getfield 116, 3) := by decide +kernel
theorem dX5_told_86 : decode cX5_told 86 = .ok (.invokestatic 126, 3) := by decide +kernel
theorem dX5_told_89 : decode cX5_told 89 = .ok (.ireturn, 1) := by decide +kernel
theorem dX5_told_90 : decode cX5_told 90 = .ok (.aload_n 0, 1) := by decide +kernel
theorem dX5_told_91 : decode cX5_told 91 = .ok (.getfield 15, 3) := by decide +kernel
theorem dX5_told_94 : decode cX5_told 94 = .ok (.invokevirtual 119, 3) := by decide +kernel
theorem dX5_told_97 : decode cX5_told 97 = .ok (.ireturn, 1) := by decide +kernel
theorem dX5_told_98 : decode cX5_told 98 = .ok (.aload_n 0, 1) := by decide +kernel
theorem dX5_told_99 : decode cX5_told 99 = .ok (.getfield 15, 3) := by decide +kernel
theorem dX5_told_102 : decode cX5_told 102 = .ok (.getfield 132, 3) := by decide +kernel
theorem dX5_told_105 : decode cX5_told 105 = .ok (.ireturn, 1) := by decide +kernel
theorem dX5_told_106 : decode cX5_told 106 = .ok (.aload_n 0, 1) := by decide +kernel
theorem dX5_told_107 : decode cX5_told 107 = .ok (.getfield 71, 3) := by decide +kernel
theorem dX5_told_110 : decode cX5_told 110 = .ok (.getfield 138, 3) := by decide +kernel
theorem dX5_told_113 : decode cX5_told 113 = .ok (.ireturn, 1) := by decide +kernel
theorem dX5_told_114 : decode cX5_told 114 = .ok (.aload_n 0, 1) := by decide +kernel
theorem dX5_told_115 : decode cX5_told 115 = .ok (.getfield 32, 3) := by decide +kernel
theorem dX5_told_118 : decode cX5_told 118 = .ok (.ireturn, 1) := by decide +kernel
theorem dX5_told_119 : decode cX5_told 119 = .ok (.aload_n 0, 1) := by decide +kernel
theorem dX5_told_120 : decode cX5_told 120 = .ok (.getfield 15, 3) := by decide +kernel
theorem dX5_told_123 : decode cX5_told 123 = .ok (.invokevirtual 141, 3) := by decide +kernel
theorem dX5_told_126 : decode cX5_told 126 = .ok (.ireturn, 1) := by decide +kernel
theorem dX5_told_127 : decode cX5_told 127 = .ok (.iconst (-1), 1) := by decide +kernel
theorem dX5_told_128 : decode cX5_told 128 = .ok (.ireturn, 1) := by decide +kernel
theorem dX5_link_0 : decode cX5_link 0 = .ok (.aload_n 0, 1) := by decide +kernel
theorem dX5_link_1 : decode cX5_link 1 = .ok (.getfield 15, 3) := by decide +kernel
theorem dX5_link_4 : decode cX5_link 4 = .ok (.iload_n 1, 1) := by decide +kernel
theorem dX5_link_5 : decode cX5_link 5 = .ok (.invokevirtual 96, 3) := by decide +kernel
theorem dX5_link_8 : decode cX5_link 8 = .ok (.ifCond .ne 5, 3) := by decide +kernel
theorem dX5_link_11 : decode cX5_link 11 = .ok (.iconst (-1), 1) := by decide +kernel
theorem dX5_link_12 : decode cX5_link 12 = .ok (.ireturn, 1) := by decide +kernel
theorem dX5_link_13 : decode cX5_link 13 = .ok (.iload_n 2, 1) := by decide +kernel
theorem dX5_link_14 : decode cX5_link 14 = .ok (.tableswitch 127 0 5 #[38, 48, 58, 68, 80, 92], 38) := by decide +kernel
theorem dX5_link_52 : decode cX5_link 52 = .ok (.aload_n 0, 1) := by decide +kernel
theorem dX5_link_53 : decode cX5_link 53 = .ok (.getfield 15, 3) := by decide +kernel
theorem dX5_link_56 : decode cX5_link 56 = .ok (.getfield 144, 3) := by decide +kernel
theorem dX5_link_59 : decode cX5_link 59 = .ok (.iload_n 1, 1) := by decide +kernel
theorem dX5_link_60 : decode cX5_link 60 = .ok (.iaload, 1) := by decide +kernel
theorem dX5_link_61 : decode cX5_link 61 = .ok (.ireturn, 1) := by decide +kernel
theorem dX5_link_62 : decode cX5_link 62 = .ok (.aload_n 0, 1) := by decide +kernel
theorem dX5_link_63 : decode cX5_link 63 = .ok (.getfield 15, 3) := by decide +kernel
theorem dX5_link_66 : decode cX5_link 66 = .ok (.getfield 148, 3) := by decide +kernel
theorem dX5_link_69 : decode cX5_link 69 = .ok (.iload_n 1, 1) := by decide +kernel
theorem dX5_link_70 : decode cX5_link 70 = .ok (.iaload, 1) := by decide +kernel
theorem dX5_link_71 : decode cX5_link 71 = .ok (.ireturn, 1) := by decide +kernel
theorem dX5_link_72 : decode cX5_link 72 = .ok (.aload_n 0, 1) := by decide +kernel
theorem dX5_link_73 : decode cX5_link 73 = .ok (.getfield 15, 3) := by decide +kernel
theorem dX5_link_76 : decode cX5_link 76 = .ok (.getfield 151, 3) := by decide +kernel
theorem dX5_link_79 : decode cX5_link 79 = .ok (.iload_n 1, 1) := by decide +kernel
theorem dX5_link_80 : decode cX5_link 80 = .ok (.iaload, 1) := by decide +kernel
theorem dX5_link_81 : decode cX5_link 81 = .ok (.ireturn, 1) := by decide +kernel
theorem dX5_link_82 : decode cX5_link 82 = .ok (.aload_n 0, 1) := by decide +kernel
theorem dX5_link_83 : decode cX5_link 83 = .ok (.getfield 15, 3) := by decide +kernel
theorem dX5_link_86 : decode cX5_link 86 = .ok (.getfield 106, 3) := by decide +kernel
theorem dX5_link_89 : decode cX5_link 89 = .ok (.iload_n 1, 1) := by decide +kernel
theorem dX5_link_90 : decode cX5_link 90 = .ok (.invokestatic 109, 3) := by decide +kernel
theorem dX5_link_93 : decode cX5_link 93 = .ok (.ireturn, 1) := by decide +kernel
theorem dX5_link_94 : decode cX5_link 94 = .ok (.aload_n 0, 1) := by decide +kernel
theorem dX5_link_95 : decode cX5_link 95 = .ok (.getfield 15, 3) := by decide +kernel
theorem dX5_link_98 : decode cX5_link 98 = .ok (.getfield 116, 3) := by decide +kernel
theorem dX5_link_101 : decode cX5_link 101 = .ok (.iload_n 1, 1) := by decide +kernel
theorem dX5_link_102 : decode cX5_link 102 = .ok (.invokestatic 109, 3) := by decide +kernel
theorem dX5_link_105 : decode cX5_link 105 = .ok (.ireturn, 1) := by decide +kernel
theorem dX5_link_106 : decode cX5_link 106 = .ok (.aload_n 0, 1) := by decide +kernel
theorem dX5_link_107 : decode cX5_link 107 = .ok (.getfield 15, 3) := by decide +kernel
theorem dX5_link_110 : decode cX5_link 110 = .ok (.aload_n 0, 1) := by decide +kernel
theorem dX5_link_111 : decode cX5_link 111 = .ok (.getfield 15, 3) := by decide +kernel
theorem dX5_link_114 : decode cX5_link 114 = .ok (.getfield 106, 3) := by decide +kernel
theorem dX5_link_117 : decode cX5_link 117 = .ok (.invokevirtual 154, 3) := by decide +kernel
theorem dX5_link_120 : decode cX5_link 120 = .ok (.aload_n 0, 1) := by decide +kernel
theorem dX5_link_121 : decode cX5_link 121 = .ok (.getfield 15, 3) := by decide +kernel
theorem dX5_link_124 : decode cX5_link 124 = .ok (.aload_n 0, 1) := by decide +kernel
theorem dX5_link_125 : decode cX5_link 125 = .ok (.getfield 15, 3) := by decide +kernel
theorem dX5_link_128 : decode cX5_link 128 = .ok (.getfield 106, 3) := by decide +kernel
theorem dX5_link_131 : decode cX5_link 131 = .ok (.iload_n 1, 1) := by decide +kernel
theorem dX5_link_132 : decode cX5_link 132 = .ok (.iconst 0, 1) := by decide +kernel
theorem dX5_link_133 : decode cX5_link 133 = .ok (.invokestatic 113, 3) := by decide +kernel
theorem dX5_link_136 : decode cX5_link 136 = .ok (.invokevirtual 154, 3) := by decide +kernel
theorem dX5_link_139 : decode cX5_link 139 = .ok (.isub, 1) := by decide +kernel
theorem dX5_link_140 : decode cX5_link 140 = .ok (.ireturn, 1) := by decide +kernel
theorem dX5_link_141 : decode cX5_link 141 = .ok (.iconst (-1), 1) := by decide +kernel
theorem dX5_link_142 : decode cX5_link 142 = .ok (.ireturn, 1) := by decide +kernel
theorem dX5_between_0 : decode cX5_between 0 = .ok (.aload_n 0, 1) := by decide +kernel
theorem dX5_between_1 : decode cX5_between 1 = .ok (.getfield 15, 3) := by decide +kernel
theorem dX5_between_4 : decode cX5_between 4 = .ok (.iload_n 1, 1) := by decide +kernel
theorem dX5_between_5 : decode cX5_between 5 = .ok (.invokevirtual 157, 3) := by decide +kernel
theorem dX5_between_8 : decode cX5_between 8 = .ok (.ifCond .eq 19, 3) := by decide +kernel
theorem dX5_between_11 : decode cX5_between 11 = .ok (.aload_n 0, 1) := by decide +kernel
theorem dX5_between_12 : decode cX5_between 12 = .ok (.getfield 15, 3) := by decide +kernel
theorem dX5_between_15 : decode cX5_between 15 = .ok (.iload_n 2, 1) := by decide +kernel
theorem dX5_between_16 : decode cX5_between 16 = .ok (.invokevirtual 157, 3) := by decide +kernel
theorem dX5_between_19 : decode cX5_between 19 = .ok (.ifCond .eq 8, 3) := by decide +kernel
theorem dX5_between_22 : decode cX5_between 22 = .ok (.iload_n 1, 1) := by decide +kernel
theorem dX5_between_23 : decode cX5_between 23 = .ok (.iload_n 2, 1) := by decide +kernel
theorem dX5_between_24 : decode cX5_between 24 = .ok (.if_icmp .ne 5, 3) := by decide +kernel
theorem dX5_between_27 : decode cX5_between 27 = .ok (.iconst (-1), 1) := by decide +kernel
theorem dX5_between_28 : decode cX5_between 28 = .ok (.ireturn, 1) := by decide +kernel
theorem dX5_between_29 : decode cX5_between 29 = .ok (.aload_n 0, 1) := by decide +kernel
theorem dX5_between_30 : decode cX5_between 30 = .ok (.getfield 15, 3) := by decide +kernel
theorem dX5_between_33 : decode cX5_between 33 = .ok (.iload_n 1, 1) := by decide +kernel
theorem dX5_between_34 : decode cX5_between 34 = .ok (.iload_n 2, 1) := by decide +kernel
theorem dX5_between_35 : decode cX5_between 35 = .ok (.invokevirtual 160, 3) := by decide +kernel
theorem dX5_between_38 : decode cX5_between 38 = .ok (.istore_n 3, 1) := by decide +kernel
theorem dX5_between_39 : decode cX5_between 39 = .ok (.iload_n 3, 1) := by decide +kernel
theorem dX5_between_40 : decode cX5_between 40 = .ok (.iconst (-1), 1) := by decide +kernel
theorem dX5_between_41 : decode cX5_between 41 = .ok (.if_icmp .ne 8, 3) := by decide +kernel
theorem dX5_between_44 : decode cX5_between 44 = .ok (.bipush (-9), 2) := by decide +kernel
theorem dX5_between_46 : decode cX5_between 46 = .ok (.goto 4, 3) := by decide +kernel
theorem dX5_between_49 : decode cX5_between 49 = .ok (.iload_n 3, 1) := by decide +kernel
theorem dX5_between_50 : decode cX5_between 50 = .ok (.ireturn, 1) := by decide +kernel
theorem dX5_way_0 : decode cX5_way 0 = .ok (.aload_n 0, 1) := by decide +kernel
theorem dX5_way_1 : decode cX5_way 1 = .ok (.getfield 15, 3) := by decide +kernel
theorem dX5_way_4 : decode cX5_way 4 = .ok (.iload_n 1, 1) := by decide +kernel
theorem dX5_way_5 : decode cX5_way 5 = .ok (.invokevirtual 157, 3) := by decide +kernel
theorem dX5_way_8 : decode cX5_way 8 = .ok (.ifCond .eq 20, 3) := by decide +kernel
theorem dX5_way_11 : decode cX5_way 11 = .ok (.aload_n 0, 1) := by decide +kernel
theorem dX5_way_12 : decode cX5_way 12 = .ok (.getfield 15, 3) := by decide +kernel
theorem dX5_way_15 : decode cX5_way 15 = .ok (.iload_n 2, 1) := by decide +kernel
theorem dX5_way_16 : decode cX5_way 16 = .ok (.invokevirtual 157, 3) := by decide +kernel
theorem dX5_way_19 : decode cX5_way 19 = .ok (.ifCond .eq 9, 3) := by decide +kernel
theorem dX5_way_22 : decode cX5_way 22 = .ok (.iload_n 3, 1) := by decide +kernel
theorem dX5_way_23 : decode cX5_way 23 = .ok (.bipush (-2), 2) := by decide +kernel
theorem dX5_way_25 : decode cX5_way 25 = .ok (.if_icmp .ge 5, 3) := by decide +kernel
theorem dX5_way_28 : decode cX5_way 28 = .ok (.iconst (-1), 1) := by decide +kernel
theorem dX5_way_29 : decode cX5_way 29 = .ok (.ireturn, 1) := by decide +kernel
theorem dX5_way_30 : decode cX5_way 30 = .ok (.aload_n 0, 1) := by decide +kernel
theorem dX5_way_31 : decode cX5_way 31 = .ok (.getfield 21, 3) := by decide +kernel
theorem dX5_way_34 : decode cX5_way 34 = .ok (.aload_n 0, 1) := by decide +kernel
theorem dX5_way_35 : decode cX5_way 35 = .ok (.getfield 15, 3) := by decide +kernel
theorem dX5_way_38 : decode cX5_way 38 = .ok (.getfield 106, 3) := by decide +kernel
theorem dX5_way_41 : decode cX5_way 41 = .ok (.iload_n 2, 1) := by decide +kernel
theorem dX5_way_42 : decode cX5_way 42 = .ok (.invokevirtual 163, 3) := by decide +kernel
theorem dX5_way_45 : decode cX5_way 45 = .ok (.aload_n 0, 1) := by decide +kernel
theorem dX5_way_46 : decode cX5_way 46 = .ok (.getfield 21, 3) := by decide +kernel
theorem dX5_way_49 : decode cX5_way 49 = .ok (.iload_n 1, 1) := by decide +kernel
theorem dX5_way_50 : decode cX5_way 50 = .ok (.invokevirtual 167, 3) := by decide +kernel
theorem dX5_way_53 : decode cX5_way 53 = .ok (.ifCond .eq 15, 3) := by decide +kernel
theorem dX5_way_56 : decode cX5_way 56 = .ok (.iload_n 3, 1) := by decide +kernel
theorem dX5_way_57 : decode cX5_way 57 = .ok (.aload_n 0, 1) := by decide +kernel
theorem dX5_way_58 : decode cX5_way 58 = .ok (.getfield 21, 3) := by decide +kernel
theorem dX5_way_61 : decode cX5_way 61 = .ok (.iload_n 1, 1) := by decide +kernel
theorem dX5_way_62 : decode cX5_way 62 = .ok (.invokevirtual 170, 3) := by decide +kernel
theorem dX5_way_65 : decode cX5_way 65 = .ok (.if_icmp .le 6, 3) := by decide +kernel
theorem dX5_way_68 : decode cX5_way 68 = .ok (.bipush (-9), 2) := by decide +kernel
theorem dX5_way_70 : decode cX5_way 70 = .ok (.ireturn, 1) := by decide +kernel
theorem dX5_way_71 : decode cX5_way 71 = .ok (.iload_n 3, 1) := by decide +kernel
theorem dX5_way_72 : decode cX5_way 72 = .ok (.iconst (-1), 1) := by decide +kernel
theorem dX5_way_73 : decode cX5_way 73 = .ok (.if_icmp .ne 12, 3) := by decide +kernel
theorem dX5_way_76 : decode cX5_way 76 = .ok (.aload_n 0, 1) := by decide +kernel
theorem dX5_way_77 : decode cX5_way 77 = .ok (.getfield 21, 3) := by decide +kernel
theorem dX5_way_80 : decode cX5_way 80 = .ok (.iload_n 1, 1) := by decide +kernel
theorem dX5_way_81 : decode cX5_way 81 = .ok (.invokevirtual 173, 3) := by decide +kernel
theorem dX5_way_84 : decode cX5_way 84 = .ok (.ireturn, 1) := by decide +kernel
theorem dX5_way_85 : decode cX5_way 85 = .ok (.iload_n 3, 1) := by decide +kernel
theorem dX5_way_86 : decode cX5_way 86 = .ok (.bipush (-2), 2) := by decide +kernel
theorem dX5_way_88 : decode cX5_way 88 = .ok (.if_icmp .ne 12, 3) := by decide +kernel
theorem dX5_way_91 : decode cX5_way 91 = .ok (.aload_n 0, 1) := by decide +kernel
theorem dX5_way_92 : decode cX5_way 92 = .ok (.getfield 21, 3) := by decide +kernel
theorem dX5_way_95 : decode cX5_way 95 = .ok (.iload_n 1, 1) := by decide +kernel
theorem dX5_way_96 : decode cX5_way 96 = .ok (.invokevirtual 170, 3) := by decide +kernel
theorem dX5_way_99 : decode cX5_way 99 = .ok (.ireturn, 1) := by decide +kernel
theorem dX5_way_100 : decode cX5_way 100 = .ok (.aload_n 0, 1) := by decide +kernel
theorem dX5_way_101 : decode cX5_way 101 = .ok (.getfield 21, 3) := by decide +kernel
theorem dX5_way_104 : decode cX5_way 104 = .ok (.iload_n 1, 1) := by decide +kernel
theorem dX5_way_105 : decode cX5_way 105 = .ok (.iload_n 3, 1) := by decide +kernel
theorem dX5_way_106 : decode cX5_way 106 = .ok (.invokevirtual 176, 3) := by decide +kernel
theorem dX5_way_109 : decode cX5_way 109 = .ok (.ireturn, 1) := by decide +kernel
theorem dX5_send_0 : decode cX5_send 0 = .ok (.aload_n 0, 1) := by decide +kernel
theorem dX5_send_1 : decode cX5_send 1 = .ok (.getfield 15, 3) := by decide +kernel
theorem dX5_send_4 : decode cX5_send 4 = .ok (.iload_n 1, 1) := by decide +kernel
theorem dX5_send_5 : decode cX5_send 5 = .ok (.invokevirtual 157, 3) := by decide +kernel
theorem dX5_send_8 : decode cX5_send 8 = .ok (.ifCond .eq 21, 3) := by decide +kernel
theorem dX5_send_11 : decode cX5_send 11 = .ok (.aload_n 0, 1) := by decide +kernel
theorem dX5_send_12 : decode cX5_send 12 = .ok (.getfield 15, 3) := by decide +kernel
theorem dX5_send_15 : decode cX5_send 15 = .ok (.iload_n 2, 1) := by decide +kernel
theorem dX5_send_16 : decode cX5_send 16 = .ok (.invokevirtual 157, 3) := by decide +kernel
theorem dX5_send_19 : decode cX5_send 19 = .ok (.ifCond .eq 10, 3) := by decide +kernel
theorem dX5_send_22 : decode cX5_send 22 = .ok (.iload_n 3, 1) := by decide +kernel
theorem dX5_send_23 : decode cX5_send 23 = .ok (.invokestatic 103, 3) := by decide +kernel
theorem dX5_send_26 : decode cX5_send 26 = .ok (.ifCond .ne 5, 3) := by decide +kernel
theorem dX5_send_29 : decode cX5_send 29 = .ok (.iconst (-1), 1) := by decide +kernel
theorem dX5_send_30 : decode cX5_send 30 = .ok (.ireturn, 1) := by decide +kernel
theorem dX5_send_31 : decode cX5_send 31 = .ok (.aload_n 0, 1) := by decide +kernel
theorem dX5_send_32 : decode cX5_send 32 = .ok (.getfield 48, 3) := by decide +kernel
theorem dX5_send_35 : decode cX5_send 35 = .ok (.iload_n 1, 1) := by decide +kernel
theorem dX5_send_36 : decode cX5_send 36 = .ok (.iload_n 2, 1) := by decide +kernel
theorem dX5_send_37 : decode cX5_send 37 = .ok (.iload_n 3, 1) := by decide +kernel
theorem dX5_send_38 : decode cX5_send 38 = .ok (.iconst 1, 1) := by decide +kernel
theorem dX5_send_39 : decode cX5_send 39 = .ok (.if_icmp .ne 7, 3) := by decide +kernel
theorem dX5_send_42 : decode cX5_send 42 = .ok (.iconst 1, 1) := by decide +kernel
theorem dX5_send_43 : decode cX5_send 43 = .ok (.goto 4, 3) := by decide +kernel
theorem dX5_send_46 : decode cX5_send 46 = .ok (.iconst 0, 1) := by decide +kernel
theorem dX5_send_47 : decode cX5_send 47 = .ok (.aload_n 0, 1) := by decide +kernel
theorem dX5_send_48 : decode cX5_send 48 = .ok (.getfield 15, 3) := by decide +kernel
theorem dX5_send_51 : decode cX5_send 51 = .ok (.getfield 132, 3) := by decide +kernel
theorem dX5_send_54 : decode cX5_send 54 = .ok (.invokevirtual 179, 3) := by decide +kernel
theorem dX5_send_57 : decode cX5_send 57 = .ok (.aload_n 0, 1) := by decide +kernel
theorem dX5_send_58 : decode cX5_send 58 = .ok (.iconst 1, 1) := by decide +kernel
theorem dX5_send_59 : decode cX5_send 59 = .ok (.putfield 52, 3) := by decide +kernel
theorem dX5_send_62 : decode cX5_send 62 = .ok (.aload_n 0, 1) := by decide +kernel
theorem dX5_send_63 : decode cX5_send 63 = .ok (.iconst 1, 1) := by decide +kernel
theorem dX5_send_64 : decode cX5_send 64 = .ok (.putfield 56, 3) := by decide +kernel
theorem dX5_send_67 : decode cX5_send 67 = .ok (.aload_n 0, 1) := by decide +kernel
theorem dX5_send_68 : decode cX5_send 68 = .ok (.getfield 48, 3) := by decide +kernel
theorem dX5_send_71 : decode cX5_send 71 = .ok (.invokevirtual 183, 3) := by decide +kernel
theorem dX5_send_74 : decode cX5_send 74 = .ok (.ifCond .eq 13, 3) := by decide +kernel
theorem dX5_send_77 : decode cX5_send 77 = .ok (.aload_n 0, 1) := by decide +kernel
theorem dX5_send_78 : decode cX5_send 78 = .ok (.getfield 48, 3) := by decide +kernel
theorem dX5_send_81 : decode cX5_send 81 = .ok (.getfield 187, 3) := by decide +kernel
theorem dX5_send_84 : decode cX5_send 84 = .ok (.goto 13, 3) := by decide +kernel
theorem dX5_send_87 : decode cX5_send 87 = .ok (.bipush (-10), 2) := by decide +kernel
theorem dX5_send_89 : decode cX5_send 89 = .ok (.aload_n 0, 1) := by decide +kernel
theorem dX5_send_90 : decode cX5_send 90 = .ok (.getfield 48, 3) := by decide +kernel
theorem dX5_send_93 : decode cX5_send 93 = .ok (.getfield 190, 3) := by decide +kernel
theorem dX5_send_96 : decode cX5_send 96 = .ok (.isub, 1) := by decide +kernel
theorem dX5_send_97 : decode cX5_send 97 = .ok (.ireturn, 1) := by decide +kernel
theorem dX5_letter_0 : decode cX5_letter 0 = .ok (.iload_n 1, 1) := by decide +kernel
theorem dX5_letter_1 : decode cX5_letter 1 = .ok (.ifCond .lt 8, 3) := by decide +kernel
theorem dX5_letter_4 : decode cX5_letter 4 = .ok (.iload_n 1, 1) := by decide +kernel
theorem dX5_letter_5 : decode cX5_letter 5 = .ok (.iconst 5, 1) := by decide +kernel
theorem dX5_letter_6 : decode cX5_letter 6 = .ok (.if_icmp .le 5, 3) := by decide +kernel
theorem dX5_letter_9 : decode cX5_letter 9 = .ok (.iconst (-1), 1) := by decide +kernel
theorem dX5_letter_10 : decode cX5_letter 10 = .ok (.ireturn, 1) := by decide +kernel
theorem dX5_letter_11 : decode cX5_letter 11 = .ok (.aload_n 0, 1) := by decide +kernel
theorem dX5_letter_12 : decode cX5_letter 12 = .ok (.getfield 52, 3) := by decide +kernel
theorem dX5_letter_15 : decode cX5_letter 15 = .ok (.ifCond .ne 6, 3) := by decide +kernel
theorem dX5_letter_18 : decode cX5_letter 18 = .ok (.bipush (-2), 2) := by decide +kernel
theorem dX5_letter_20 : decode cX5_letter 20 = .ok (.ireturn, 1) := by decide +kernel
theorem dX5_letter_21 : decode cX5_letter 21 = .ok (.iload_n 1, 1) := by decide +kernel
theorem dX5_letter_22 : decode cX5_letter 22 = .ok (.tableswitch 74 0 4 #[34, 42, 50, 58, 66], 34) := by decide +kernel
theorem dX5_letter_56 : decode cX5_letter 56 = .ok (.aload_n 0, 1) := by decide +kernel
theorem dX5_letter_57 : decode cX5_letter 57 = .ok (.getfield 48, 3) := by decide +kernel
theorem dX5_letter_60 : decode cX5_letter 60 = .ok (.getfield 187, 3) := by decide +kernel
theorem dX5_letter_63 : decode cX5_letter 63 = .ok (.ireturn, 1) := by decide +kernel
theorem dX5_letter_64 : decode cX5_letter 64 = .ok (.aload_n 0, 1) := by decide +kernel
theorem dX5_letter_65 : decode cX5_letter 65 = .ok (.getfield 48, 3) := by decide +kernel
theorem dX5_letter_68 : decode cX5_letter 68 = .ok (.getfield 193, 3) := by decide +kernel
theorem dX5_letter_71 : decode cX5_letter 71 = .ok (.ireturn, 1) := by decide +kernel
theorem dX5_letter_72 : decode cX5_letter 72 = .ok (.aload_n 0, 1) := by decide +kernel
theorem dX5_letter_73 : decode cX5_letter 73 = .ok (.getfield 48, 3) := by decide +kernel
theorem dX5_letter_76 : decode cX5_letter 76 = .ok (.getfield 196, 3) := by decide +kernel
theorem dX5_letter_79 : decode cX5_letter 79 = .ok (.ireturn, 1) := by decide +kernel
theorem dX5_letter_80 : decode cX5_letter 80 = .ok (.aload_n 0, 1) := by decide +kernel
theorem dX5_letter_81 : decode cX5_letter 81 = .ok (.getfield 48, 3) := by decide +kernel
theorem dX5_letter_84 : decode cX5_letter 84 = .ok (.getfield 190, 3) := by decide +kernel
theorem dX5_letter_87 : decode cX5_letter 87 = .ok (.ireturn, 1) := by decide +kernel
theorem dX5_letter_88 : decode cX5_letter 88 = .ok (.aload_n 0, 1) := by decide +kernel
theorem dX5_letter_89 : decode cX5_letter 89 = .ok (.getfield 48, 3) := by decide +kernel
theorem dX5_letter_92 : decode cX5_letter 92 = .ok (.getfield 199, 3) := by decide +kernel
theorem dX5_letter_95 : decode cX5_letter 95 = .ok (.ireturn, 1) := by decide +kernel
theorem dX5_letter_96 : decode cX5_letter 96 = .ok (.aload_n 0, 1) := by decide +kernel
theorem dX5_letter_97 : decode cX5_letter 97 = .ok (.getfield 48, 3) := by decide +kernel
theorem dX5_letter_100 : decode cX5_letter 100 = .ok (.getfield 202, 3) := by decide +kernel
theorem dX5_letter_103 : decode cX5_letter 103 = .ok (.ireturn, 1) := by decide +kernel
theorem dX5_passed_0 : decode cX5_passed 0 = .ok (.iload_n 1, 1) := by decide +kernel
theorem dX5_passed_1 : decode cX5_passed 1 = .ok (.ifCond .ge 5, 3) := by decide +kernel
theorem dX5_passed_4 : decode cX5_passed 4 = .ok (.iconst (-1), 1) := by decide +kernel
theorem dX5_passed_5 : decode cX5_passed 5 = .ok (.ireturn, 1) := by decide +kernel
theorem dX5_passed_6 : decode cX5_passed 6 = .ok (.aload_n 0, 1) := by decide +kernel
theorem dX5_passed_7 : decode cX5_passed 7 = .ok (.getfield 52, 3) := by decide +kernel
theorem dX5_passed_10 : decode cX5_passed 10 = .ok (.ifCond .ne 6, 3) := by decide +kernel
theorem dX5_passed_13 : decode cX5_passed 13 = .ok (.bipush (-2), 2) := by decide +kernel
theorem dX5_passed_15 : decode cX5_passed 15 = .ok (.ireturn, 1) := by decide +kernel
theorem dX5_passed_16 : decode cX5_passed 16 = .ok (.iload_n 1, 1) := by decide +kernel
theorem dX5_passed_17 : decode cX5_passed 17 = .ok (.aload_n 0, 1) := by decide +kernel
theorem dX5_passed_18 : decode cX5_passed 18 = .ok (.getfield 48, 3) := by decide +kernel
theorem dX5_passed_21 : decode cX5_passed 21 = .ok (.getfield 187, 3) := by decide +kernel
theorem dX5_passed_24 : decode cX5_passed 24 = .ok (.if_icmp .gt 9, 3) := by decide +kernel
theorem dX5_passed_27 : decode cX5_passed 27 = .ok (.iload_n 1, 1) := by decide +kernel
theorem dX5_passed_28 : decode cX5_passed 28 = .ok (.bipush 40, 2) := by decide +kernel
theorem dX5_passed_30 : decode cX5_passed 30 = .ok (.if_icmp .le 8, 3) := by decide +kernel
theorem dX5_passed_33 : decode cX5_passed 33 = .ok (.bipush (-9), 2) := by decide +kernel
theorem dX5_passed_35 : decode cX5_passed 35 = .ok (.goto 12, 3) := by decide +kernel
theorem dX5_passed_38 : decode cX5_passed 38 = .ok (.aload_n 0, 1) := by decide +kernel
theorem dX5_passed_39 : decode cX5_passed 39 = .ok (.getfield 48, 3) := by decide +kernel
theorem dX5_passed_42 : decode cX5_passed 42 = .ok (.getfield 205, 3) := by decide +kernel
theorem dX5_passed_45 : decode cX5_passed 45 = .ok (.iload_n 1, 1) := by decide +kernel
theorem dX5_passed_46 : decode cX5_passed 46 = .ok (.iaload, 1) := by decide +kernel
theorem dX5_passed_47 : decode cX5_passed 47 = .ok (.ireturn, 1) := by decide +kernel
theorem dX5_carried_0 : decode cX5_carried 0 = .ok (.iload_n 1, 1) := by decide +kernel
theorem dX5_carried_1 : decode cX5_carried 1 = .ok (.ifCond .lt 10, 3) := by decide +kernel
theorem dX5_carried_4 : decode cX5_carried 4 = .ok (.iload_n 2, 1) := by decide +kernel
theorem dX5_carried_5 : decode cX5_carried 5 = .ok (.invokestatic 103, 3) := by decide +kernel
theorem dX5_carried_8 : decode cX5_carried 8 = .ok (.ifCond .ne 5, 3) := by decide +kernel
theorem dX5_carried_11 : decode cX5_carried 11 = .ok (.iconst (-1), 1) := by decide +kernel
theorem dX5_carried_12 : decode cX5_carried 12 = .ok (.ireturn, 1) := by decide +kernel
theorem dX5_carried_13 : decode cX5_carried 13 = .ok (.aload_n 0, 1) := by decide +kernel
theorem dX5_carried_14 : decode cX5_carried 14 = .ok (.getfield 52, 3) := by decide +kernel
theorem dX5_carried_17 : decode cX5_carried 17 = .ok (.ifCond .ne 6, 3) := by decide +kernel
theorem dX5_carried_20 : decode cX5_carried 20 = .ok (.bipush (-2), 2) := by decide +kernel
theorem dX5_carried_22 : decode cX5_carried 22 = .ok (.ireturn, 1) := by decide +kernel
theorem dX5_carried_23 : decode cX5_carried 23 = .ok (.iload_n 1, 1) := by decide +kernel
theorem dX5_carried_24 : decode cX5_carried 24 = .ok (.aload_n 0, 1) := by decide +kernel
theorem dX5_carried_25 : decode cX5_carried 25 = .ok (.getfield 48, 3) := by decide +kernel
theorem dX5_carried_28 : decode cX5_carried 28 = .ok (.getfield 196, 3) := by decide +kernel
theorem dX5_carried_31 : decode cX5_carried 31 = .ok (.if_icmp .ge 9, 3) := by decide +kernel
theorem dX5_carried_34 : decode cX5_carried 34 = .ok (.iload_n 1, 1) := by decide +kernel
theorem dX5_carried_35 : decode cX5_carried 35 = .ok (.bipush 18, 2) := by decide +kernel
theorem dX5_carried_37 : decode cX5_carried 37 = .ok (.if_icmp .lt 6, 3) := by decide +kernel
theorem dX5_carried_40 : decode cX5_carried 40 = .ok (.bipush (-9), 2) := by decide +kernel
theorem dX5_carried_42 : decode cX5_carried 42 = .ok (.ireturn, 1) := by decide +kernel
theorem dX5_carried_43 : decode cX5_carried 43 = .ok (.iload_n 2, 1) := by decide +kernel
theorem dX5_carried_44 : decode cX5_carried 44 = .ok (.ifCond .ne 15, 3) := by decide +kernel
theorem dX5_carried_47 : decode cX5_carried 47 = .ok (.aload_n 0, 1) := by decide +kernel
theorem dX5_carried_48 : decode cX5_carried 48 = .ok (.getfield 48, 3) := by decide +kernel
theorem dX5_carried_51 : decode cX5_carried 51 = .ok (.getfield 208, 3) := by decide +kernel
theorem dX5_carried_54 : decode cX5_carried 54 = .ok (.iload_n 1, 1) := by decide +kernel
theorem dX5_carried_55 : decode cX5_carried 55 = .ok (.iaload, 1) := by decide +kernel
theorem dX5_carried_56 : decode cX5_carried 56 = .ok (.goto 12, 3) := by decide +kernel
theorem dX5_carried_59 : decode cX5_carried 59 = .ok (.aload_n 0, 1) := by decide +kernel
theorem dX5_carried_60 : decode cX5_carried 60 = .ok (.getfield 48, 3) := by decide +kernel
theorem dX5_carried_63 : decode cX5_carried 63 = .ok (.getfield 211, 3) := by decide +kernel
theorem dX5_carried_66 : decode cX5_carried 66 = .ok (.iload_n 1, 1) := by decide +kernel
theorem dX5_carried_67 : decode cX5_carried 67 = .ok (.iaload, 1) := by decide +kernel
theorem dX5_carried_68 : decode cX5_carried 68 = .ok (.ireturn, 1) := by decide +kernel
theorem dX5_all_0 : decode cX5_all 0 = .ok (.iload_n 1, 1) := by decide +kernel
theorem dX5_all_1 : decode cX5_all 1 = .ok (.ifCond .lt 16, 3) := by decide +kernel
theorem dX5_all_4 : decode cX5_all 4 = .ok (.iload_n 1, 1) := by decide +kernel
theorem dX5_all_5 : decode cX5_all 5 = .ok (.bipush 7, 2) := by decide +kernel
theorem dX5_all_7 : decode cX5_all 7 = .ok (.if_icmp .gt 10, 3) := by decide +kernel
theorem dX5_all_10 : decode cX5_all 10 = .ok (.iload_n 2, 1) := by decide +kernel
theorem dX5_all_11 : decode cX5_all 11 = .ok (.invokestatic 103, 3) := by decide +kernel
theorem dX5_all_14 : decode cX5_all 14 = .ok (.ifCond .ne 5, 3) := by decide +kernel
theorem dX5_all_17 : decode cX5_all 17 = .ok (.iconst (-1), 1) := by decide +kernel
theorem dX5_all_18 : decode cX5_all 18 = .ok (.ireturn, 1) := by decide +kernel
theorem dX5_all_19 : decode cX5_all 19 = .ok (.aload_n 0, 1) := by decide +kernel
theorem dX5_all_20 : decode cX5_all 20 = .ok (.getfield 64, 3) := by decide +kernel
theorem dX5_all_23 : decode cX5_all 23 = .ok (.iload_n 2, 1) := by decide +kernel
theorem dX5_all_24 : decode cX5_all 24 = .ok (.iconst 1, 1) := by decide +kernel
theorem dX5_all_25 : decode cX5_all 25 = .ok (.if_icmp .ne 7, 3) := by decide +kernel
theorem dX5_all_28 : decode cX5_all 28 = .ok (.iconst 1, 1) := by decide +kernel
theorem dX5_all_29 : decode cX5_all 29 = .ok (.goto 4, 3) := by decide +kernel
theorem dX5_all_32 : decode cX5_all 32 = .ok (.iconst 0, 1) := by decide +kernel
theorem dX5_all_33 : decode cX5_all 33 = .ok (.aload_n 0, 1) := by decide +kernel
theorem dX5_all_34 : decode cX5_all 34 = .ok (.getfield 15, 3) := by decide +kernel
theorem dX5_all_37 : decode cX5_all 37 = .ok (.getfield 132, 3) := by decide +kernel
theorem dX5_all_40 : decode cX5_all 40 = .ok (.invokevirtual 214, 3) := by decide +kernel
theorem dX5_all_43 : decode cX5_all 43 = .ok (.iload_n 1, 1) := by decide +kernel
theorem dX5_all_44 : decode cX5_all 44 = .ok (.tableswitch 100 0 6 #[44, 52, 60, 68, 76, 84, 92], 44) := by decide +kernel
theorem dX5_all_88 : decode cX5_all 88 = .ok (.aload_n 0, 1) := by decide +kernel
theorem dX5_all_89 : decode cX5_all 89 = .ok (.getfield 64, 3) := by decide +kernel
theorem dX5_all_92 : decode cX5_all 92 = .ok (.getfield 218, 3) := by decide +kernel
theorem dX5_all_95 : decode cX5_all 95 = .ok (.ireturn, 1) := by decide +kernel
theorem dX5_all_96 : decode cX5_all 96 = .ok (.aload_n 0, 1) := by decide +kernel
theorem dX5_all_97 : decode cX5_all 97 = .ok (.getfield 64, 3) := by decide +kernel
theorem dX5_all_100 : decode cX5_all 100 = .ok (.getfield 221, 3) := by decide +kernel
theorem dX5_all_103 : decode cX5_all 103 = .ok (.ireturn, 1) := by decide +kernel
theorem dX5_all_104 : decode cX5_all 104 = .ok (.aload_n 0, 1) := by decide +kernel
theorem dX5_all_105 : decode cX5_all 105 = .ok (.getfield 64, 3) := by decide +kernel
theorem dX5_all_108 : decode cX5_all 108 = .ok (.getfield 224, 3) := by decide +kernel
theorem dX5_all_111 : decode cX5_all 111 = .ok (.ireturn, 1) := by decide +kernel
theorem dX5_all_112 : decode cX5_all 112 = .ok (.aload_n 0, 1) := by decide +kernel
theorem dX5_all_113 : decode cX5_all 113 = .ok (.getfield 64, 3) := by decide +kernel
theorem dX5_all_116 : decode cX5_all 116 = .ok (.getfield 227, 3) := by decide +kernel
theorem dX5_all_119 : decode cX5_all 119 = .ok (.ireturn, 1) := by decide +kernel
theorem dX5_all_120 : decode cX5_all 120 = .ok (.aload_n 0, 1) := by decide +kernel
theorem dX5_all_121 : decode cX5_all 121 = .ok (.getfield 64, 3) := by decide +kernel
theorem dX5_all_124 : decode cX5_all 124 = .ok (.getfield 230, 3) := by decide +kernel
theorem dX5_all_127 : decode cX5_all 127 = .ok (.ireturn, 1) := by decide +kernel
theorem dX5_all_128 : decode cX5_all 128 = .ok (.aload_n 0, 1) := by decide +kernel
theorem dX5_all_129 : decode cX5_all 129 = .ok (.getfield 64, 3) := by decide +kernel
theorem dX5_all_132 : decode cX5_all 132 = .ok (.getfield 233, 3) := by decide +kernel
theorem dX5_all_135 : decode cX5_all 135 = .ok (.ireturn, 1) := by decide +kernel
theorem dX5_all_136 : decode cX5_all 136 = .ok (.aload_n 0, 1) := by decide +kernel
theorem dX5_all_137 : decode cX5_all 137 = .ok (.getfield 64, 3) := by decide +kernel
theorem dX5_all_140 : decode cX5_all 140 = .ok (.getfield 236, 3) := by decide +kernel
theorem dX5_all_143 : decode cX5_all 143 = .ok (.ireturn, 1) := by decide +kernel
theorem dX5_all_144 : decode cX5_all 144 = .ok (.aload_n 0, 1) := by decide +kernel
theorem dX5_all_145 : decode cX5_all 145 = .ok (.getfield 64, 3) := by decide +kernel
theorem dX5_all_148 : decode cX5_all 148 = .ok (.getfield 239, 3) := by decide +kernel
theorem dX5_all_151 : decode cX5_all 151 = .ok (.ireturn, 1) := by decide +kernel
theorem dX5_stretch_0 : decode cX5_stretch 0 = .ok (.iload_n 1, 1) := by decide +kernel
theorem dX5_stretch_1 : decode cX5_stretch 1 = .ok (.invokestatic 103, 3) := by decide +kernel
theorem dX5_stretch_4 : decode cX5_stretch 4 = .ok (.ifCond .ne 6, 3) := by decide +kernel
theorem dX5_stretch_7 : decode cX5_stretch 7 = .ok (.ldc 242, 2) := by decide +kernel
theorem dX5_stretch_9 : decode cX5_stretch 9 = .ok (.freturn, 1) := by decide +kernel
theorem dX5_stretch_10 : decode cX5_stretch 10 = .ok (.aload_n 0, 1) := by decide +kernel
theorem dX5_stretch_11 : decode cX5_stretch 11 = .ok (.getfield 64, 3) := by decide +kernel
theorem dX5_stretch_14 : decode cX5_stretch 14 = .ok (.iload_n 1, 1) := by decide +kernel
theorem dX5_stretch_15 : decode cX5_stretch 15 = .ok (.iconst 1, 1) := by decide +kernel
theorem dX5_stretch_16 : decode cX5_stretch 16 = .ok (.if_icmp .ne 7, 3) := by decide +kernel
theorem dX5_stretch_19 : decode cX5_stretch 19 = .ok (.iconst 1, 1) := by decide +kernel
theorem dX5_stretch_20 : decode cX5_stretch 20 = .ok (.goto 4, 3) := by decide +kernel
theorem dX5_stretch_23 : decode cX5_stretch 23 = .ok (.iconst 0, 1) := by decide +kernel
theorem dX5_stretch_24 : decode cX5_stretch 24 = .ok (.aload_n 0, 1) := by decide +kernel
theorem dX5_stretch_25 : decode cX5_stretch 25 = .ok (.getfield 15, 3) := by decide +kernel
theorem dX5_stretch_28 : decode cX5_stretch 28 = .ok (.getfield 132, 3) := by decide +kernel
theorem dX5_stretch_31 : decode cX5_stretch 31 = .ok (.invokevirtual 214, 3) := by decide +kernel
theorem dX5_stretch_34 : decode cX5_stretch 34 = .ok (.aload_n 0, 1) := by decide +kernel
theorem dX5_stretch_35 : decode cX5_stretch 35 = .ok (.getfield 64, 3) := by decide +kernel
theorem dX5_stretch_38 : decode cX5_stretch 38 = .ok (.getfield 230, 3) := by decide +kernel
theorem dX5_stretch_41 : decode cX5_stretch 41 = .ok (.ifCond .ne 5, 3) := by decide +kernel
theorem dX5_stretch_44 : decode cX5_stretch 44 = .ok (.fconst 0, 1) := by decide +kernel
theorem dX5_stretch_45 : decode cX5_stretch 45 = .ok (.freturn, 1) := by decide +kernel
theorem dX5_stretch_46 : decode cX5_stretch 46 = .ok (.aload_n 0, 1) := by decide +kernel
theorem dX5_stretch_47 : decode cX5_stretch 47 = .ok (.getfield 64, 3) := by decide +kernel
theorem dX5_stretch_50 : decode cX5_stretch 50 = .ok (.getfield 227, 3) := by decide +kernel
theorem dX5_stretch_53 : decode cX5_stretch 53 = .ok (.i2f, 1) := by decide +kernel
theorem dX5_stretch_54 : decode cX5_stretch 54 = .ok (.aload_n 0, 1) := by decide +kernel
theorem dX5_stretch_55 : decode cX5_stretch 55 = .ok (.getfield 64, 3) := by decide +kernel
theorem dX5_stretch_58 : decode cX5_stretch 58 = .ok (.getfield 230, 3) := by decide +kernel
theorem dX5_stretch_61 : decode cX5_stretch 61 = .ok (.i2f, 1) := by decide +kernel
theorem dX5_stretch_62 : decode cX5_stretch 62 = .ok (.fdiv, 1) := by decide +kernel
theorem dX5_stretch_63 : decode cX5_stretch 63 = .ok (.freturn, 1) := by decide +kernel
theorem dX5_enoughRoom_0 : decode cX5_enoughRoom 0 = .ok (.aload_n 0, 1) := by decide +kernel
theorem dX5_enoughRoom_1 : decode cX5_enoughRoom 1 = .ok (.getfield 64, 3) := by decide +kernel
theorem dX5_enoughRoom_4 : decode cX5_enoughRoom 4 = .ok (.iconst 0, 1) := by decide +kernel
theorem dX5_enoughRoom_5 : decode cX5_enoughRoom 5 = .ok (.bipush 18, 2) := by decide +kernel
theorem dX5_enoughRoom_7 : decode cX5_enoughRoom 7 = .ok (.invokevirtual 214, 3) := by decide +kernel
theorem dX5_enoughRoom_10 : decode cX5_enoughRoom 10 = .ok (.aload_n 0, 1) := by decide +kernel
theorem dX5_enoughRoom_11 : decode cX5_enoughRoom 11 = .ok (.getfield 64, 3) := by decide +kernel
theorem dX5_enoughRoom_14 : decode cX5_enoughRoom 14 = .ok (.getfield 243, 3) := by decide +kernel
theorem dX5_enoughRoom_17 : decode cX5_enoughRoom 17 = .ok (.ireturn, 1) := by decide +kernel
theorem dX5_write_0 : decode cX5_write 0 = .ok (.iload_n 1, 1) := by decide +kernel
theorem dX5_write_1 : decode cX5_write 1 = .ok (.bipush 32, 2) := by decide +kernel
theorem dX5_write_3 : decode cX5_write 3 = .ok (.if_icmp .lt 9, 3) := by decide +kernel
theorem dX5_write_6 : decode cX5_write 6 = .ok (.iload_n 1, 1) := by decide +kernel
theorem dX5_write_7 : decode cX5_write 7 = .ok (.bipush 126, 2) := by decide +kernel
theorem dX5_write_9 : decode cX5_write 9 = .ok (.if_icmp .le 5, 3) := by decide +kernel
theorem dX5_write_12 : decode cX5_write 12 = .ok (.iconst (-1), 1) := by decide +kernel
theorem dX5_write_13 : decode cX5_write 13 = .ok (.ireturn, 1) := by decide +kernel
theorem dX5_write_14 : decode cX5_write 14 = .ok (.aload_n 0, 1) := by decide +kernel
theorem dX5_write_15 : decode cX5_write 15 = .ok (.getfield 71, 3) := by decide +kernel
theorem dX5_write_18 : decode cX5_write 18 = .ok (.getfield 138, 3) := by decide +kernel
theorem dX5_write_21 : decode cX5_write 21 = .ok (.bipush 80, 2) := by decide +kernel
theorem dX5_write_23 : decode cX5_write 23 = .ok (.if_icmp .lt 6, 3) := by decide +kernel
theorem dX5_write_26 : decode cX5_write 26 = .ok (.bipush (-3), 2) := by decide +kernel
theorem dX5_write_28 : decode cX5_write 28 = .ok (.ireturn, 1) := by decide +kernel
theorem dX5_write_29 : decode cX5_write 29 = .ok (.aload_n 0, 1) := by decide +kernel
theorem dX5_write_30 : decode cX5_write 30 = .ok (.getfield 71, 3) := by decide +kernel
theorem dX5_write_33 : decode cX5_write 33 = .ok (.iload_n 1, 1) := by decide +kernel
theorem dX5_write_34 : decode cX5_write 34 = .ok (.invokevirtual 246, 3) := by decide +kernel
theorem dX5_write_37 : decode cX5_write 37 = .ok (.aload_n 0, 1) := by decide +kernel
theorem dX5_write_38 : decode cX5_write 38 = .ok (.getfield 71, 3) := by decide +kernel
theorem dX5_write_41 : decode cX5_write 41 = .ok (.getfield 138, 3) := by decide +kernel
theorem dX5_write_44 : decode cX5_write 44 = .ok (.ireturn, 1) := by decide +kernel
theorem dX5_wipe_0 : decode cX5_wipe 0 = .ok (.aload_n 0, 1) := by decide +kernel
theorem dX5_wipe_1 : decode cX5_wipe 1 = .ok (.getfield 71, 3) := by decide +kernel
theorem dX5_wipe_4 : decode cX5_wipe 4 = .ok (.getfield 138, 3) := by decide +kernel
theorem dX5_wipe_7 : decode cX5_wipe 7 = .ok (.istore_n 1, 1) := by decide +kernel
theorem dX5_wipe_8 : decode cX5_wipe 8 = .ok (.aload_n 0, 1) := by decide +kernel
theorem dX5_wipe_9 : decode cX5_wipe 9 = .ok (.getfield 71, 3) := by decide +kernel
theorem dX5_wipe_12 : decode cX5_wipe 12 = .ok (.iconst 0, 1) := by decide +kernel
theorem dX5_wipe_13 : decode cX5_wipe 13 = .ok (.putfield 138, 3) := by decide +kernel
theorem dX5_wipe_16 : decode cX5_wipe 16 = .ok (.iload_n 1, 1) := by decide +kernel
theorem dX5_wipe_17 : decode cX5_wipe 17 = .ok (.ireturn, 1) := by decide +kernel
theorem dX5_fault_0 : decode cX5_fault 0 = .ok (.aload_n 0, 1) := by decide +kernel
theorem dX5_fault_1 : decode cX5_fault 1 = .ok (.getfield 71, 3) := by decide +kernel
theorem dX5_fault_4 : decode cX5_fault 4 = .ok (.invokevirtual 249, 3) := by decide +kernel
theorem dX5_fault_7 : decode cX5_fault 7 = .ok (.iconst 1, 1) := by decide +kernel
theorem dX5_fault_8 : decode cX5_fault 8 = .ok (.istore_n 1, 1) := by decide +kernel
theorem dX5_fault_9 : decode cX5_fault 9 = .ok (.iconst 0, 1) := by decide +kernel
theorem dX5_fault_10 : decode cX5_fault 10 = .ok (.istore_n 2, 1) := by decide +kernel
theorem dX5_fault_11 : decode cX5_fault 11 = .ok (.iload_n 2, 1) := by decide +kernel
theorem dX5_fault_12 : decode cX5_fault 12 = .ok (.bipush 80, 2) := by decide +kernel
theorem dX5_fault_14 : decode cX5_fault 14 = .ok (.if_icmp .ge 21, 3) := by decide +kernel
theorem dX5_fault_17 : decode cX5_fault 17 = .ok (.iload_n 1, 1) := by decide +kernel
theorem dX5_fault_18 : decode cX5_fault 18 = .ok (.ifCond .eq 17, 3) := by decide +kernel
theorem dX5_fault_21 : decode cX5_fault 21 = .ok (.aload_n 0, 1) := by decide +kernel
theorem dX5_fault_22 : decode cX5_fault 22 = .ok (.getfield 71, 3) := by decide +kernel
theorem dX5_fault_25 : decode cX5_fault 25 = .ok (.invokevirtual 252, 3) := by decide +kernel
theorem dX5_fault_28 : decode cX5_fault 28 = .ok (.istore_n 1, 1) := by decide +kernel
theorem dX5_fault_29 : decode cX5_fault 29 = .ok (.iinc 2 1, 3) := by decide +kernel
theorem dX5_fault_32 : decode cX5_fault 32 = .ok (.goto (-21), 3) := by decide +kernel
theorem dX5_fault_35 : decode cX5_fault 35 = .ok (.aload_n 0, 1) := by decide +kernel
theorem dX5_fault_36 : decode cX5_fault 36 = .ok (.getfield 71, 3) := by decide +kernel
theorem dX5_fault_39 : decode cX5_fault 39 = .ok (.getfield 255, 3) := by decide +kernel
theorem dX5_fault_42 : decode cX5_fault 42 = .ok (.ireturn, 1) := by decide +kernel
theorem dX5_execute_0 : decode cX5_execute 0 = .ok (.aload_n 0, 1) := by decide +kernel
theorem dX5_execute_1 : decode cX5_execute 1 = .ok (.invokevirtual 258, 3) := by decide +kernel
theorem dX5_execute_4 : decode cX5_execute 4 = .ok (.bipush (-9), 2) := by decide +kernel
theorem dX5_execute_6 : decode cX5_execute 6 = .ok (.if_icmp .eq 6, 3) := by decide +kernel
theorem dX5_execute_9 : decode cX5_execute 9 = .ok (.bipush (-2), 2) := by decide +kernel
theorem dX5_execute_11 : decode cX5_execute 11 = .ok (.ireturn, 1) := by decide +kernel
theorem dX5_execute_12 : decode cX5_execute 12 = .ok (.aload_n 0, 1) := by decide +kernel
theorem dX5_execute_13 : decode cX5_execute 13 = .ok (.getfield 25, 3) := by decide +kernel
theorem dX5_execute_16 : decode cX5_execute 16 = .ok (.aload_n 0, 1) := by decide +kernel
theorem dX5_execute_17 : decode cX5_execute 17 = .ok (.getfield 15, 3) := by decide +kernel
theorem dX5_execute_20 : decode cX5_execute 20 = .ok (.invokevirtual 135, 3) := by decide +kernel
theorem dX5_execute_23 : decode cX5_execute 23 = .ok (.aload_n 0, 1) := by decide +kernel
theorem dX5_execute_24 : decode cX5_execute 24 = .ok (.getfield 71, 3) := by decide +kernel
theorem dX5_execute_27 : decode cX5_execute 27 = .ok (.invokevirtual 249, 3) := by decide +kernel
theorem dX5_execute_30 : decode cX5_execute 30 = .ok (.iconst 0, 1) := by decide +kernel
theorem dX5_execute_31 : decode cX5_execute 31 = .ok (.istore_n 1, 1) := by decide +kernel
theorem dX5_execute_32 : decode cX5_execute 32 = .ok (.iload_n 1, 1) := by decide +kernel
theorem dX5_execute_33 : decode cX5_execute 33 = .ok (.bipush 80, 2) := by decide +kernel
theorem dX5_execute_35 : decode cX5_execute 35 = .ok (.if_icmp .ge 38, 3) := by decide +kernel
theorem dX5_execute_38 : decode cX5_execute 38 = .ok (.aload_n 0, 1) := by decide +kernel
theorem dX5_execute_39 : decode cX5_execute 39 = .ok (.getfield 71, 3) := by decide +kernel
theorem dX5_execute_42 : decode cX5_execute 42 = .ok (.invokevirtual 252, 3) := by decide +kernel
theorem dX5_execute_45 : decode cX5_execute 45 = .ok (.ifCond .eq 28, 3) := by decide +kernel
theorem dX5_execute_48 : decode cX5_execute 48 = .ok (.aload_n 0, 1) := by decide +kernel
theorem dX5_execute_49 : decode cX5_execute 49 = .ok (.getfield 71, 3) := by decide +kernel
theorem dX5_execute_52 : decode cX5_execute 52 = .ok (.aload_n 0, 1) := by decide +kernel
theorem dX5_execute_53 : decode cX5_execute 53 = .ok (.getfield 25, 3) := by decide +kernel
theorem dX5_execute_56 : decode cX5_execute 56 = .ok (.invokevirtual 261, 3) := by decide +kernel
theorem dX5_execute_59 : decode cX5_execute 59 = .ok (.ifCond .ne 8, 3) := by decide +kernel
theorem dX5_execute_62 : decode cX5_execute 62 = .ok (.bipush (-100), 2) := by decide +kernel
theorem dX5_execute_64 : decode cX5_execute 64 = .ok (.iload_n 1, 1) := by decide +kernel
theorem dX5_execute_65 : decode cX5_execute 65 = .ok (.isub, 1) := by decide +kernel
theorem dX5_execute_66 : decode cX5_execute 66 = .ok (.ireturn, 1) := by decide +kernel
theorem dX5_execute_67 : decode cX5_execute 67 = .ok (.iinc 1 1, 3) := by decide +kernel
theorem dX5_execute_70 : decode cX5_execute 70 = .ok (.goto (-38), 3) := by decide +kernel
theorem dX5_execute_73 : decode cX5_execute 73 = .ok (.aload_n 0, 1) := by decide +kernel
theorem dX5_execute_74 : decode cX5_execute 74 = .ok (.invokevirtual 78, 3) := by decide +kernel
theorem dX5_execute_77 : decode cX5_execute 77 = .ok (.aload_n 0, 1) := by decide +kernel
theorem dX5_execute_78 : decode cX5_execute 78 = .ok (.iconst 0, 1) := by decide +kernel
theorem dX5_execute_79 : decode cX5_execute 79 = .ok (.putfield 56, 3) := by decide +kernel
theorem dX5_execute_82 : decode cX5_execute 82 = .ok (.aload_n 0, 1) := by decide +kernel
theorem dX5_execute_83 : decode cX5_execute 83 = .ok (.getfield 15, 3) := by decide +kernel
theorem dX5_execute_86 : decode cX5_execute 86 = .ok (.aload_n 0, 1) := by decide +kernel
theorem dX5_execute_87 : decode cX5_execute 87 = .ok (.getfield 25, 3) := by decide +kernel
theorem dX5_execute_90 : decode cX5_execute 90 = .ok (.invokevirtual 135, 3) := by decide +kernel
theorem dX5_execute_93 : decode cX5_execute 93 = .ok (.iload_n 1, 1) := by decide +kernel
theorem dX5_execute_94 : decode cX5_execute 94 = .ok (.ireturn, 1) := by decide +kernel
theorem dX5_keep_0 : decode cX5_keep 0 = .ok (.iload_n 1, 1) := by decide +kernel
theorem dX5_keep_1 : decode cX5_keep 1 = .ok (.ifCond .lt 8, 3) := by decide +kernel
theorem dX5_keep_4 : decode cX5_keep 4 = .ok (.iload_n 1, 1) := by decide +kernel
theorem dX5_keep_5 : decode cX5_keep 5 = .ok (.iconst 2, 1) := by decide +kernel
theorem dX5_keep_6 : decode cX5_keep 6 = .ok (.if_icmp .lt 5, 3) := by decide +kernel
theorem dX5_keep_9 : decode cX5_keep 9 = .ok (.iconst (-1), 1) := by decide +kernel
theorem dX5_keep_10 : decode cX5_keep 10 = .ok (.ireturn, 1) := by decide +kernel
theorem dX5_keep_11 : decode cX5_keep 11 = .ok (.aload_n 0, 1) := by decide +kernel
theorem dX5_keep_12 : decode cX5_keep 12 = .ok (.getfield 36, 3) := by decide +kernel
theorem dX5_keep_15 : decode cX5_keep 15 = .ok (.iload_n 1, 1) := by decide +kernel
theorem dX5_keep_16 : decode cX5_keep 16 = .ok (.aaload, 1) := by decide +kernel
theorem dX5_keep_17 : decode cX5_keep 17 = .ok (.aload_n 0, 1) := by decide +kernel
theorem dX5_keep_18 : decode cX5_keep 18 = .ok (.getfield 15, 3) := by decide +kernel
theorem dX5_keep_21 : decode cX5_keep 21 = .ok (.invokevirtual 135, 3) := by decide +kernel
theorem dX5_keep_24 : decode cX5_keep 24 = .ok (.aload_n 0, 1) := by decide +kernel
theorem dX5_keep_25 : decode cX5_keep 25 = .ok (.getfield 39, 3) := by decide +kernel
theorem dX5_keep_28 : decode cX5_keep 28 = .ok (.iload_n 1, 1) := by decide +kernel
theorem dX5_keep_29 : decode cX5_keep 29 = .ok (.iconst 1, 1) := by decide +kernel
theorem dX5_keep_30 : decode cX5_keep 30 = .ok (.bastore, 1) := by decide +kernel
theorem dX5_keep_31 : decode cX5_keep 31 = .ok (.aload_n 0, 1) := by decide +kernel
theorem dX5_keep_32 : decode cX5_keep 32 = .ok (.getfield 15, 3) := by decide +kernel
theorem dX5_keep_35 : decode cX5_keep 35 = .ok (.getfield 93, 3) := by decide +kernel
theorem dX5_keep_38 : decode cX5_keep 38 = .ok (.ireturn, 1) := by decide +kernel
theorem dX5_back_0 : decode cX5_back 0 = .ok (.iload_n 1, 1) := by decide +kernel
theorem dX5_back_1 : decode cX5_back 1 = .ok (.ifCond .lt 8, 3) := by decide +kernel
theorem dX5_back_4 : decode cX5_back 4 = .ok (.iload_n 1, 1) := by decide +kernel
theorem dX5_back_5 : decode cX5_back 5 = .ok (.iconst 2, 1) := by decide +kernel
theorem dX5_back_6 : decode cX5_back 6 = .ok (.if_icmp .lt 5, 3) := by decide +kernel
theorem dX5_back_9 : decode cX5_back 9 = .ok (.iconst (-1), 1) := by decide +kernel
theorem dX5_back_10 : decode cX5_back 10 = .ok (.ireturn, 1) := by decide +kernel
theorem dX5_back_11 : decode cX5_back 11 = .ok (.aload_n 0, 1) := by decide +kernel
theorem dX5_back_12 : decode cX5_back 12 = .ok (.getfield 39, 3) := by decide +kernel
theorem dX5_back_15 : decode cX5_back 15 = .ok (.iload_n 1, 1) := by decide +kernel
theorem dX5_back_16 : decode cX5_back 16 = .ok (.baload, 1) := by decide +kernel
theorem dX5_back_17 : decode cX5_back 17 = .ok (.ifCond .ne 6, 3) := by decide +kernel
theorem dX5_back_20 : decode cX5_back 20 = .ok (.bipush (-2), 2) := by decide +kernel
theorem dX5_back_22 : decode cX5_back 22 = .ok (.ireturn, 1) := by decide +kernel
theorem dX5_back_23 : decode cX5_back 23 = .ok (.aload_n 0, 1) := by decide +kernel
theorem dX5_back_24 : decode cX5_back 24 = .ok (.invokevirtual 78, 3) := by decide +kernel
theorem dX5_back_27 : decode cX5_back 27 = .ok (.aload_n 0, 1) := by decide +kernel
theorem dX5_back_28 : decode cX5_back 28 = .ok (.iconst 0, 1) := by decide +kernel
theorem dX5_back_29 : decode cX5_back 29 = .ok (.putfield 56, 3) := by decide +kernel
theorem dX5_back_32 : decode cX5_back 32 = .ok (.aload_n 0, 1) := by decide +kernel
theorem dX5_back_33 : decode cX5_back 33 = .ok (.getfield 15, 3) := by decide +kernel
theorem dX5_back_36 : decode cX5_back 36 = .ok (.aload_n 0, 1) := by decide +kernel
theorem dX5_back_37 : decode cX5_back 37 = .ok (.getfield 36, 3) := by decide +kernel
theorem dX5_back_40 : decode cX5_back 40 = .ok (.iload_n 1, 1) := by decide +kernel
theorem dX5_back_41 : decode cX5_back 41 = .ok (.aaload, 1) := by decide +kernel
theorem dX5_back_42 : decode cX5_back 42 = .ok (.invokevirtual 135, 3) := by decide +kernel
theorem dX5_back_45 : decode cX5_back 45 = .ok (.aload_n 0, 1) := by decide +kernel
theorem dX5_back_46 : decode cX5_back 46 = .ok (.getfield 15, 3) := by decide +kernel
theorem dX5_back_49 : decode cX5_back 49 = .ok (.getfield 93, 3) := by decide +kernel
theorem dX5_back_52 : decode cX5_back 52 = .ok (.ireturn, 1) := by decide +kernel
theorem dX5_recordState_0 : decode cX5_recordState 0 = .ok (.aload_n 0, 1) := by decide +kernel
theorem dX5_recordState_1 : decode cX5_recordState 1 = .ok (.getfield 32, 3) := by decide +kernel
theorem dX5_recordState_4 : decode cX5_recordState 4 = .ok (.bipush 8, 2) := by decide +kernel
theorem dX5_recordState_6 : decode cX5_recordState 6 = .ok (.if_icmp .lt 7, 3) := by decide +kernel
theorem dX5_recordState_9 : decode cX5_recordState 9 = .ok (.aload_n 0, 1) := by decide +kernel
theorem dX5_recordState_10 : decode cX5_recordState 10 = .ok (.invokevirtual 265, 3) := by decide +kernel
theorem dX5_recordState_13 : decode cX5_recordState 13 = .ok (.aload_n 0, 1) := by decide +kernel
theorem dX5_recordState_14 : decode cX5_recordState 14 = .ok (.getfield 28, 3) := by decide +kernel
theorem dX5_recordState_17 : decode cX5_recordState 17 = .ok (.aload_n 0, 1) := by decide +kernel
theorem dX5_recordState_18 : decode cX5_recordState 18 = .ok (.getfield 32, 3) := by decide +kernel
theorem dX5_recordState_21 : decode cX5_recordState 21 = .ok (.aaload, 1) := by decide +kernel
theorem dX5_recordState_22 : decode cX5_recordState 22 = .ok (.aload_n 0, 1) := by decide +kernel
theorem dX5_recordState_23 : decode cX5_recordState 23 = .ok (.getfield 15, 3) := by decide +kernel
theorem dX5_recordState_26 : decode cX5_recordState 26 = .ok (.invokevirtual 135, 3) := by decide +kernel
theorem dX5_recordState_29 : decode cX5_recordState 29 = .ok (.aload_n 0, 1) := by decide +kernel
theorem dX5_recordState_30 : decode cX5_recordState 30 = .ok (.dup, 1) := by decide +kernel
theorem dX5_recordState_31 : decode cX5_recordState 31 = .ok (.getfield 32, 3) := by decide +kernel
theorem dX5_recordState_34 : decode cX5_recordState 34 = .ok (.iconst 1, 1) := by decide +kernel
theorem dX5_recordState_35 : decode cX5_recordState 35 = .ok (.iadd, 1) := by decide +kernel
theorem dX5_recordState_36 : decode cX5_recordState 36 = .ok (.putfield 32, 3) := by decide +kernel
theorem dX5_recordState_39 : decode cX5_recordState 39 = .ok (.return_, 1) := by decide +kernel
theorem dX5_dropOldestState_0 : decode cX5_dropOldestState 0 = .ok (.aload_n 0, 1) := by decide +kernel
theorem dX5_dropOldestState_1 : decode cX5_dropOldestState 1 = .ok (.getfield 28, 3) := by decide +kernel
theorem dX5_dropOldestState_4 : decode cX5_dropOldestState 4 = .ok (.iconst 0, 1) := by decide +kernel
theorem dX5_dropOldestState_5 : decode cX5_dropOldestState 5 = .ok (.aaload, 1) := by decide +kernel
theorem dX5_dropOldestState_6 : decode cX5_dropOldestState 6 = .ok (.astore_n 1, 1) := by decide +kernel
theorem dX5_dropOldestState_7 : decode cX5_dropOldestState 7 = .ok (.iconst 0, 1) := by decide +kernel
theorem dX5_dropOldestState_8 : decode cX5_dropOldestState 8 = .ok (.istore_n 2, 1) := by decide +kernel
theorem dX5_dropOldestState_9 : decode cX5_dropOldestState 9 = .ok (.iload_n 2, 1) := by decide +kernel
theorem dX5_dropOldestState_10 : decode cX5_dropOldestState 10 = .ok (.iconst 1, 1) := by decide +kernel
theorem dX5_dropOldestState_11 : decode cX5_dropOldestState 11 = .ok (.iadd, 1) := by decide +kernel
theorem dX5_dropOldestState_12 : decode cX5_dropOldestState 12 = .ok (.bipush 8, 2) := by decide +kernel
theorem dX5_dropOldestState_14 : decode cX5_dropOldestState 14 = .ok (.if_icmp .ge 23, 3) := by decide +kernel
theorem dX5_dropOldestState_17 : decode cX5_dropOldestState 17 = .ok (.aload_n 0, 1) := by decide +kernel
theorem dX5_dropOldestState_18 : decode cX5_dropOldestState 18 = .ok (.getfield 28, 3) := by decide +kernel
theorem dX5_dropOldestState_21 : decode cX5_dropOldestState 21 = .ok (.iload_n 2, 1) := by decide +kernel
theorem dX5_dropOldestState_22 : decode cX5_dropOldestState 22 = .ok (.aload_n 0, 1) := by decide +kernel
theorem dX5_dropOldestState_23 : decode cX5_dropOldestState 23 = .ok (.getfield 28, 3) := by decide +kernel
theorem dX5_dropOldestState_26 : decode cX5_dropOldestState 26 = .ok (.iload_n 2, 1) := by decide +kernel
theorem dX5_dropOldestState_27 : decode cX5_dropOldestState 27 = .ok (.iconst 1, 1) := by decide +kernel
theorem dX5_dropOldestState_28 : decode cX5_dropOldestState 28 = .ok (.iadd, 1) := by decide +kernel
theorem dX5_dropOldestState_29 : decode cX5_dropOldestState 29 = .ok (.aaload, 1) := by decide +kernel
theorem dX5_dropOldestState_30 : decode cX5_dropOldestState 30 = .ok (.aastore, 1) := by decide +kernel
theorem dX5_dropOldestState_31 : decode cX5_dropOldestState 31 = .ok (.iinc 2 1, 3) := by decide +kernel
theorem dX5_dropOldestState_34 : decode cX5_dropOldestState 34 = .ok (.goto (-25), 3) := by decide +kernel
theorem dX5_dropOldestState_37 : decode cX5_dropOldestState 37 = .ok (.aload_n 0, 1) := by decide +kernel
theorem dX5_dropOldestState_38 : decode cX5_dropOldestState 38 = .ok (.getfield 28, 3) := by decide +kernel
theorem dX5_dropOldestState_41 : decode cX5_dropOldestState 41 = .ok (.bipush 7, 2) := by decide +kernel
theorem dX5_dropOldestState_43 : decode cX5_dropOldestState 43 = .ok (.aload_n 1, 1) := by decide +kernel
theorem dX5_dropOldestState_44 : decode cX5_dropOldestState 44 = .ok (.aastore, 1) := by decide +kernel
theorem dX5_dropOldestState_45 : decode cX5_dropOldestState 45 = .ok (.aload_n 0, 1) := by decide +kernel
theorem dX5_dropOldestState_46 : decode cX5_dropOldestState 46 = .ok (.bipush 7, 2) := by decide +kernel
theorem dX5_dropOldestState_48 : decode cX5_dropOldestState 48 = .ok (.putfield 32, 3) := by decide +kernel
theorem dX5_dropOldestState_51 : decode cX5_dropOldestState 51 = .ok (.return_, 1) := by decide +kernel
theorem dX5_isFlag_0 : decode cX5_isFlag 0 = .ok (.iload_n 0, 1) := by decide +kernel
theorem dX5_isFlag_1 : decode cX5_isFlag 1 = .ok (.ifCond .eq 8, 3) := by decide +kernel
theorem dX5_isFlag_4 : decode cX5_isFlag 4 = .ok (.iload_n 0, 1) := by decide +kernel
theorem dX5_isFlag_5 : decode cX5_isFlag 5 = .ok (.iconst 1, 1) := by decide +kernel
theorem dX5_isFlag_6 : decode cX5_isFlag 6 = .ok (.if_icmp .ne 7, 3) := by decide +kernel
theorem dX5_isFlag_9 : decode cX5_isFlag 9 = .ok (.iconst 1, 1) := by decide +kernel
theorem dX5_isFlag_10 : decode cX5_isFlag 10 = .ok (.goto 4, 3) := by decide +kernel
theorem dX5_isFlag_13 : decode cX5_isFlag 13 = .ok (.iconst 0, 1) := by decide +kernel
theorem dX5_isFlag_14 : decode cX5_isFlag 14 = .ok (.ireturn, 1) := by decide +kernel
theorem dX5_bit_0 : decode cX5_bit 0 = .ok (.iload_n 0, 1) := by decide +kernel
theorem dX5_bit_1 : decode cX5_bit 1 = .ok (.iload_n 1, 1) := by decide +kernel
theorem dX5_bit_2 : decode cX5_bit 2 = .ok (.iushr, 1) := by decide +kernel
theorem dX5_bit_3 : decode cX5_bit 3 = .ok (.iconst 1, 1) := by decide +kernel
theorem dX5_bit_4 : decode cX5_bit 4 = .ok (.iand, 1) := by decide +kernel
theorem dX5_bit_5 : decode cX5_bit 5 = .ok (.ireturn, 1) := by decide +kernel
theorem dX5_withBit_0 : decode cX5_withBit 0 = .ok (.iload_n 0, 1) := by decide +kernel
theorem dX5_withBit_1 : decode cX5_withBit 1 = .ok (.iconst 1, 1) := by decide +kernel
theorem dX5_withBit_2 : decode cX5_withBit 2 = .ok (.iload_n 1, 1) := by decide +kernel
theorem dX5_withBit_3 : decode cX5_withBit 3 = .ok (.ishl, 1) := by decide +kernel
theorem dX5_withBit_4 : decode cX5_withBit 4 = .ok (.iconst (-1), 1) := by decide +kernel
theorem dX5_withBit_5 : decode cX5_withBit 5 = .ok (.ixor, 1) := by decide +kernel
theorem dX5_withBit_6 : decode cX5_withBit 6 = .ok (.iand, 1) := by decide +kernel
theorem dX5_withBit_7 : decode cX5_withBit 7 = .ok (.iload_n 2, 1) := by decide +kernel
theorem dX5_withBit_8 : decode cX5_withBit 8 = .ok (.iload_n 1, 1) := by decide +kernel
theorem dX5_withBit_9 : decode cX5_withBit 9 = .ok (.ishl, 1) := by decide +kernel
theorem dX5_withBit_10 : decode cX5_withBit 10 = .ok (.ior, 1) := by decide +kernel
theorem dX5_withBit_11 : decode cX5_withBit 11 = .ok (.ireturn, 1) := by decide +kernel
