theorem dX0_init_0 : decode cX0_init 0 = .ok (.aload_n 0, 1) := by decide +kernel
theorem dX0_init_1 : decode cX0_init 1 = .ok (.invokespecial 3, 3) := by decide +kernel
theorem dX0_init_4 : decode cX0_init 4 = .ok (.aload_n 0, 1) := by decide +kernel
theorem dX0_init_5 : decode cX0_init 5 = .ok (.iconst 0, 1) := by decide +kernel
theorem dX0_init_6 : decode cX0_init 6 = .ok (.putfield 9, 3) := by decide +kernel
theorem dX0_init_9 : decode cX0_init 9 = .ok (.aload_n 0, 1) := by decide +kernel
theorem dX0_init_10 : decode cX0_init 10 = .ok (.iconst 0, 1) := by decide +kernel
theorem dX0_init_11 : decode cX0_init 11 = .ok (.putfield 15, 3) := by decide +kernel
theorem dX0_init_14 : decode cX0_init 14 = .ok (.aload_n 0, 1) := by decide +kernel
theorem dX0_init_15 : decode cX0_init 15 = .ok (.iconst 0, 1) := by decide +kernel
theorem dX0_init_16 : decode cX0_init 16 = .ok (.putfield 18, 3) := by decide +kernel
theorem dX0_init_19 : decode cX0_init 19 = .ok (.aload_n 0, 1) := by decide +kernel
theorem dX0_init_20 : decode cX0_init 20 = .ok (.iconst 0, 1) := by decide +kernel
theorem dX0_init_21 : decode cX0_init 21 = .ok (.putfield 21, 3) := by decide +kernel
theorem dX0_init_24 : decode cX0_init 24 = .ok (.aload_n 0, 1) := by decide +kernel
theorem dX0_init_25 : decode cX0_init 25 = .ok (.iconst 0, 1) := by decide +kernel
theorem dX0_init_26 : decode cX0_init 26 = .ok (.putfield 24, 3) := by decide +kernel
theorem dX0_init_29 : decode cX0_init 29 = .ok (.aload_n 0, 1) := by decide +kernel
theorem dX0_init_30 : decode cX0_init 30 = .ok (.iconst 0, 1) := by decide +kernel
theorem dX0_init_31 : decode cX0_init 31 = .ok (.putfield 27, 3) := by decide +kernel
theorem dX0_init_34 : decode cX0_init 34 = .ok (.aload_n 0, 1) := by decide +kernel
theorem dX0_init_35 : decode cX0_init 35 = .ok (.iconst 0, 1) := by decide +kernel
theorem dX0_init_36 : decode cX0_init 36 = .ok (.putfield 30, 3) := by decide +kernel
theorem dX0_init_39 : decode cX0_init 39 = .ok (.aload_n 0, 1) := by decide +kernel
theorem dX0_init_40 : decode cX0_init 40 = .ok (.bipush 41, 2) := by decide +kernel
theorem dX0_init_42 : decode cX0_init 42 = .ok (.newarray .int, 2) := by decide +kernel
theorem dX0_init_44 : decode cX0_init 44 = .ok (.putfield 33, 3) := by decide +kernel
theorem dX0_init_47 : decode cX0_init 47 = .ok (.aload_n 0, 1) := by decide +kernel
theorem dX0_init_48 : decode cX0_init 48 = .ok (.bipush 18, 2) := by decide +kernel
theorem dX0_init_50 : decode cX0_init 50 = .ok (.newarray .int, 2) := by decide +kernel
theorem dX0_init_52 : decode cX0_init 52 = .ok (.putfield 37, 3) := by decide +kernel
theorem dX0_init_55 : decode cX0_init 55 = .ok (.aload_n 0, 1) := by decide +kernel
theorem dX0_init_56 : decode cX0_init 56 = .ok (.bipush 18, 2) := by decide +kernel
theorem dX0_init_58 : decode cX0_init 58 = .ok (.newarray .int, 2) := by decide +kernel
theorem dX0_init_60 : decode cX0_init 60 = .ok (.putfield 40, 3) := by decide +kernel
theorem dX0_init_63 : decode cX0_init 63 = .ok (.aload_n 0, 1) := by decide +kernel
theorem dX0_init_64 : decode cX0_init 64 = .ok (.aload_n 1, 1) := by decide +kernel
theorem dX0_init_65 : decode cX0_init 65 = .ok (.putfield 43, 3) := by decide +kernel
theorem dX0_init_68 : decode cX0_init 68 = .ok (.aload_n 0, 1) := by decide +kernel
theorem dX0_init_69 : decode cX0_init 69 = .ok (.aload_n 2, 1) := by decide +kernel
theorem dX0_init_70 : decode cX0_init 70 = .ok (.putfield 47, 3) := by decide +kernel
theorem dX0_init_73 : decode cX0_init 73 = .ok (.return_, 1) := by decide +kernel
theorem dX0_travel_0 : decode cX0_travel 0 = .ok (.aload_n 0, 1) := by decide +kernel
theorem dX0_travel_1 : decode cX0_travel 1 = .ok (.iload_n 1, 1) := by decide +kernel
theorem dX0_travel_2 : decode cX0_travel 2 = .ok (.invokevirtual 51, 3) := by decide +kernel
theorem dX0_travel_5 : decode cX0_travel 5 = .ok (.bipush 59, 2) := by decide +kernel
theorem dX0_travel_7 : decode cX0_travel 7 = .ok (.istore 5, 2) := by decide +kernel
theorem dX0_travel_9 : decode cX0_travel 9 = .ok (.iconst 0, 1) := by decide +kernel
theorem dX0_travel_10 : decode cX0_travel 10 = .ok (.istore 6, 2) := by decide +kernel
theorem dX0_travel_12 : decode cX0_travel 12 = .ok (.iload 6, 2) := by decide +kernel
theorem dX0_travel_14 : decode cX0_travel 14 = .ok (.iload 5, 2) := by decide +kernel
theorem dX0_travel_16 : decode cX0_travel 16 = .ok (.if_icmp .ge 95, 3) := by decide +kernel
theorem dX0_travel_19 : decode cX0_travel 19 = .ok (.aload_n 0, 1) := by decide +kernel
theorem dX0_travel_20 : decode cX0_travel 20 = .ok (.getfield 18, 3) := by decide +kernel
theorem dX0_travel_23 : decode cX0_travel 23 = .ok (.ifCond .ne 88, 3) := by decide +kernel
theorem dX0_travel_26 : decode cX0_travel 26 = .ok (.aload_n 0, 1) := by decide +kernel
theorem dX0_travel_27 : decode cX0_travel 27 = .ok (.getfield 21, 3) := by decide +kernel
theorem dX0_travel_30 : decode cX0_travel 30 = .ok (.iload_n 2, 1) := by decide +kernel
theorem dX0_travel_31 : decode cX0_travel 31 = .ok (.if_icmp .eq 80, 3) := by decide +kernel
theorem dX0_travel_34 : decode cX0_travel 34 = .ok (.iload_n 3, 1) := by decide +kernel
theorem dX0_travel_35 : decode cX0_travel 35 = .ok (.ifCond .eq 17, 3) := by decide +kernel
theorem dX0_travel_38 : decode cX0_travel 38 = .ok (.aload_n 0, 1) := by decide +kernel
theorem dX0_travel_39 : decode cX0_travel 39 = .ok (.getfield 43, 3) := by decide +kernel
theorem dX0_travel_42 : decode cX0_travel 42 = .ok (.aload_n 0, 1) := by decide +kernel
theorem dX0_travel_43 : decode cX0_travel 43 = .ok (.getfield 21, 3) := by decide +kernel
theorem dX0_travel_46 : decode cX0_travel 46 = .ok (.invokevirtual 55, 3) := by decide +kernel
theorem dX0_travel_49 : decode cX0_travel 49 = .ok (.goto 7, 3) := by decide +kernel
theorem dX0_travel_52 : decode cX0_travel 52 = .ok (.aload_n 0, 1) := by decide +kernel
theorem dX0_travel_53 : decode cX0_travel 53 = .ok (.getfield 27, 3) := by decide +kernel
theorem dX0_travel_56 : decode cX0_travel 56 = .ok (.istore 7, 2) := by decide +kernel
theorem dX0_travel_58 : decode cX0_travel 58 = .ok (.aload_n 0, 1) := by decide +kernel
theorem dX0_travel_59 : decode cX0_travel 59 = .ok (.getfield 47, 3) := by decide +kernel
theorem dX0_travel_62 : decode cX0_travel 62 = .ok (.aload_n 0, 1) := by decide +kernel
theorem dX0_travel_63 : decode cX0_travel 63 = .ok (.getfield 43, 3) := by decide +kernel
theorem dX0_travel_66 : decode cX0_travel 66 = .ok (.getfield 61, 3) := by decide +kernel
theorem dX0_travel_69 : decode cX0_travel 69 = .ok (.iload 7, 2) := by decide +kernel
theorem dX0_travel_71 : decode cX0_travel 71 = .ok (.iconst (-1), 1) := by decide +kernel
theorem dX0_travel_72 : decode cX0_travel 72 = .ok (.ixor, 1) := by decide +kernel
theorem dX0_travel_73 : decode cX0_travel 73 = .ok (.iand, 1) := by decide +kernel
theorem dX0_travel_74 : decode cX0_travel 74 = .ok (.iload_n 2, 1) := by decide +kernel
theorem dX0_travel_75 : decode cX0_travel 75 = .ok (.invokevirtual 64, 3) := by decide +kernel
theorem dX0_travel_78 : decode cX0_travel 78 = .ok (.aload_n 0, 1) := by decide +kernel
theorem dX0_travel_79 : decode cX0_travel 79 = .ok (.dup, 1) := by decide +kernel
theorem dX0_travel_80 : decode cX0_travel 80 = .ok (.getfield 24, 3) := by decide +kernel
theorem dX0_travel_83 : decode cX0_travel 83 = .ok (.iconst 1, 1) := by decide +kernel
theorem dX0_travel_84 : decode cX0_travel 84 = .ok (.iadd, 1) := by decide +kernel
theorem dX0_travel_85 : decode cX0_travel 85 = .ok (.putfield 24, 3) := by decide +kernel
theorem dX0_travel_88 : decode cX0_travel 88 = .ok (.aload_n 0, 1) := by decide +kernel
theorem dX0_travel_89 : decode cX0_travel 89 = .ok (.aload_n 0, 1) := by decide +kernel
theorem dX0_travel_90 : decode cX0_travel 90 = .ok (.getfield 47, 3) := by decide +kernel
theorem dX0_travel_93 : decode cX0_travel 93 = .ok (.aload_n 0, 1) := by decide +kernel
theorem dX0_travel_94 : decode cX0_travel 94 = .ok (.getfield 21, 3) := by decide +kernel
theorem dX0_travel_97 : decode cX0_travel 97 = .ok (.invokevirtual 70, 3) := by decide +kernel
theorem dX0_travel_100 : decode cX0_travel 100 = .ok (.iload 4, 2) := by decide +kernel
theorem dX0_travel_102 : decode cX0_travel 102 = .ok (.invokevirtual 73, 3) := by decide +kernel
theorem dX0_travel_105 : decode cX0_travel 105 = .ok (.iinc 6 1, 3) := by decide +kernel
theorem dX0_travel_108 : decode cX0_travel 108 = .ok (.goto (-96), 3) := by decide +kernel
theorem dX0_travel_111 : decode cX0_travel 111 = .ok (.return_, 1) := by decide +kernel
theorem dX0_hasArrived_0 : decode cX0_hasArrived 0 = .ok (.aload_n 0, 1) := by decide +kernel
theorem dX0_hasArrived_1 : decode cX0_hasArrived 1 = .ok (.getfield 18, 3) := by decide +kernel
theorem dX0_hasArrived_4 : decode cX0_hasArrived 4 = .ok (.ifCond .ne 7, 3) := by decide +kernel
theorem dX0_hasArrived_7 : decode cX0_hasArrived 7 = .ok (.iconst 1, 1) := by decide +kernel
theorem dX0_hasArrived_8 : decode cX0_hasArrived 8 = .ok (.goto 4, 3) := by decide +kernel
theorem dX0_hasArrived_11 : decode cX0_hasArrived 11 = .ok (.iconst 0, 1) := by decide +kernel
theorem dX0_hasArrived_12 : decode cX0_hasArrived 12 = .ok (.ireturn, 1) := by decide +kernel
theorem dX0_startAt_0 : decode cX0_startAt 0 = .ok (.aload_n 0, 1) := by decide +kernel
theorem dX0_startAt_1 : decode cX0_startAt 1 = .ok (.iconst 0, 1) := by decide +kernel
theorem dX0_startAt_2 : decode cX0_startAt 2 = .ok (.putfield 9, 3) := by decide +kernel
theorem dX0_startAt_5 : decode cX0_startAt 5 = .ok (.aload_n 0, 1) := by decide +kernel
theorem dX0_startAt_6 : decode cX0_startAt 6 = .ok (.iconst 0, 1) := by decide +kernel
theorem dX0_startAt_7 : decode cX0_startAt 7 = .ok (.putfield 15, 3) := by decide +kernel
theorem dX0_startAt_10 : decode cX0_startAt 10 = .ok (.aload_n 0, 1) := by decide +kernel
theorem dX0_startAt_11 : decode cX0_startAt 11 = .ok (.iconst 0, 1) := by decide +kernel
theorem dX0_startAt_12 : decode cX0_startAt 12 = .ok (.putfield 18, 3) := by decide +kernel
theorem dX0_startAt_15 : decode cX0_startAt 15 = .ok (.aload_n 0, 1) := by decide +kernel
theorem dX0_startAt_16 : decode cX0_startAt 16 = .ok (.iload_n 1, 1) := by decide +kernel
theorem dX0_startAt_17 : decode cX0_startAt 17 = .ok (.putfield 21, 3) := by decide +kernel
theorem dX0_startAt_20 : decode cX0_startAt 20 = .ok (.aload_n 0, 1) := by decide +kernel
theorem dX0_startAt_21 : decode cX0_startAt 21 = .ok (.iconst 0, 1) := by decide +kernel
theorem dX0_startAt_22 : decode cX0_startAt 22 = .ok (.putfield 24, 3) := by decide +kernel
theorem dX0_startAt_25 : decode cX0_startAt 25 = .ok (.aload_n 0, 1) := by decide +kernel
theorem dX0_startAt_26 : decode cX0_startAt 26 = .ok (.iconst 0, 1) := by decide +kernel
theorem dX0_startAt_27 : decode cX0_startAt 27 = .ok (.putfield 27, 3) := by decide +kernel
theorem dX0_startAt_30 : decode cX0_startAt 30 = .ok (.aload_n 0, 1) := by decide +kernel
theorem dX0_startAt_31 : decode cX0_startAt 31 = .ok (.iconst 0, 1) := by decide +kernel
theorem dX0_startAt_32 : decode cX0_startAt 32 = .ok (.putfield 30, 3) := by decide +kernel
theorem dX0_startAt_35 : decode cX0_startAt 35 = .ok (.aload_n 0, 1) := by decide +kernel
theorem dX0_startAt_36 : decode cX0_startAt 36 = .ok (.getfield 33, 3) := by decide +kernel
theorem dX0_startAt_39 : decode cX0_startAt 39 = .ok (.iconst 0, 1) := by decide +kernel
theorem dX0_startAt_40 : decode cX0_startAt 40 = .ok (.iload_n 1, 1) := by decide +kernel
theorem dX0_startAt_41 : decode cX0_startAt 41 = .ok (.iastore, 1) := by decide +kernel
theorem dX0_startAt_42 : decode cX0_startAt 42 = .ok (.return_, 1) := by decide +kernel
theorem dX0_tryLink_0 : decode cX0_tryLink 0 = .ok (.iload_n 1, 1) := by decide +kernel
theorem dX0_tryLink_1 : decode cX0_tryLink 1 = .ok (.iconst (-1), 1) := by decide +kernel
theorem dX0_tryLink_2 : decode cX0_tryLink 2 = .ok (.if_icmp .ne 11, 3) := by decide +kernel
theorem dX0_tryLink_5 : decode cX0_tryLink 5 = .ok (.aload_n 0, 1) := by decide +kernel
theorem dX0_tryLink_6 : decode cX0_tryLink 6 = .ok (.iconst 1, 1) := by decide +kernel
theorem dX0_tryLink_7 : decode cX0_tryLink 7 = .ok (.putfield 18, 3) := by decide +kernel
theorem dX0_tryLink_10 : decode cX0_tryLink 10 = .ok (.goto 48, 3) := by decide +kernel
theorem dX0_tryLink_13 : decode cX0_tryLink 13 = .ok (.aload_n 0, 1) := by decide +kernel
theorem dX0_tryLink_14 : decode cX0_tryLink 14 = .ok (.getfield 43, 3) := by decide +kernel
theorem dX0_tryLink_17 : decode cX0_tryLink 17 = .ok (.getfield 76, 3) := by decide +kernel
theorem dX0_tryLink_20 : decode cX0_tryLink 20 = .ok (.iload_n 1, 1) := by decide +kernel
theorem dX0_tryLink_21 : decode cX0_tryLink 21 = .ok (.invokestatic 79, 3) := by decide +kernel
theorem dX0_tryLink_24 : decode cX0_tryLink 24 = .ok (.ifCond .ne 12, 3) := by decide +kernel
theorem dX0_tryLink_27 : decode cX0_tryLink 27 = .ok (.aload_n 0, 1) := by decide +kernel
theorem dX0_tryLink_28 : decode cX0_tryLink 28 = .ok (.iload_n 1, 1) := by decide +kernel
theorem dX0_tryLink_29 : decode cX0_tryLink 29 = .ok (.iload_n 2, 1) := by decide +kernel
theorem dX0_tryLink_30 : decode cX0_tryLink 30 = .ok (.invokevirtual 83, 3) := by decide +kernel
theorem dX0_tryLink_33 : decode cX0_tryLink 33 = .ok (.goto 25, 3) := by decide +kernel
theorem dX0_tryLink_36 : decode cX0_tryLink 36 = .ok (.aload_n 0, 1) := by decide +kernel
theorem dX0_tryLink_37 : decode cX0_tryLink 37 = .ok (.getfield 9, 3) := by decide +kernel
theorem dX0_tryLink_40 : decode cX0_tryLink 40 = .ok (.bipush 40, 2) := by decide +kernel
theorem dX0_tryLink_42 : decode cX0_tryLink 42 = .ok (.if_icmp .lt 11, 3) := by decide +kernel
theorem dX0_tryLink_45 : decode cX0_tryLink 45 = .ok (.aload_n 0, 1) := by decide +kernel
theorem dX0_tryLink_46 : decode cX0_tryLink 46 = .ok (.iconst 3, 1) := by decide +kernel
theorem dX0_tryLink_47 : decode cX0_tryLink 47 = .ok (.putfield 18, 3) := by decide +kernel
theorem dX0_tryLink_50 : decode cX0_tryLink 50 = .ok (.goto 8, 3) := by decide +kernel
theorem dX0_tryLink_53 : decode cX0_tryLink 53 = .ok (.aload_n 0, 1) := by decide +kernel
theorem dX0_tryLink_54 : decode cX0_tryLink 54 = .ok (.iload_n 1, 1) := by decide +kernel
theorem dX0_tryLink_55 : decode cX0_tryLink 55 = .ok (.invokevirtual 86, 3) := by decide +kernel
theorem dX0_tryLink_58 : decode cX0_tryLink 58 = .ok (.return_, 1) := by decide +kernel
theorem dX0_meetDead_0 : decode cX0_meetDead 0 = .ok (.aload_n 0, 1) := by decide +kernel
theorem dX0_meetDead_1 : decode cX0_meetDead 1 = .ok (.getfield 30, 3) := by decide +kernel
theorem dX0_meetDead_4 : decode cX0_meetDead 4 = .ok (.iload_n 2, 1) := by decide +kernel
theorem dX0_meetDead_5 : decode cX0_meetDead 5 = .ok (.if_icmp .ge 12, 3) := by decide +kernel
theorem dX0_meetDead_8 : decode cX0_meetDead 8 = .ok (.aload_n 0, 1) := by decide +kernel
theorem dX0_meetDead_9 : decode cX0_meetDead 9 = .ok (.getfield 30, 3) := by decide +kernel
theorem dX0_meetDead_12 : decode cX0_meetDead 12 = .ok (.bipush 18, 2) := by decide +kernel
theorem dX0_meetDead_14 : decode cX0_meetDead 14 = .ok (.if_icmp .lt 9, 3) := by decide +kernel
theorem dX0_meetDead_17 : decode cX0_meetDead 17 = .ok (.aload_n 0, 1) := by decide +kernel
theorem dX0_meetDead_18 : decode cX0_meetDead 18 = .ok (.iconst 2, 1) := by decide +kernel
theorem dX0_meetDead_19 : decode cX0_meetDead 19 = .ok (.putfield 18, 3) := by decide +kernel
theorem dX0_meetDead_22 : decode cX0_meetDead 22 = .ok (.return_, 1) := by decide +kernel
theorem dX0_meetDead_23 : decode cX0_meetDead 23 = .ok (.aload_n 0, 1) := by decide +kernel
theorem dX0_meetDead_24 : decode cX0_meetDead 24 = .ok (.getfield 37, 3) := by decide +kernel
theorem dX0_meetDead_27 : decode cX0_meetDead 27 = .ok (.aload_n 0, 1) := by decide +kernel
theorem dX0_meetDead_28 : decode cX0_meetDead 28 = .ok (.getfield 30, 3) := by decide +kernel
theorem dX0_meetDead_31 : decode cX0_meetDead 31 = .ok (.aload_n 0, 1) := by decide +kernel
theorem dX0_meetDead_32 : decode cX0_meetDead 32 = .ok (.getfield 43, 3) := by decide +kernel
theorem dX0_meetDead_35 : decode cX0_meetDead 35 = .ok (.getfield 89, 3) := by decide +kernel
theorem dX0_meetDead_38 : decode cX0_meetDead 38 = .ok (.iload_n 1, 1) := by decide +kernel
theorem dX0_meetDead_39 : decode cX0_meetDead 39 = .ok (.iaload, 1) := by decide +kernel
theorem dX0_meetDead_40 : decode cX0_meetDead 40 = .ok (.iastore, 1) := by decide +kernel
theorem dX0_meetDead_41 : decode cX0_meetDead 41 = .ok (.aload_n 0, 1) := by decide +kernel
theorem dX0_meetDead_42 : decode cX0_meetDead 42 = .ok (.getfield 40, 3) := by decide +kernel
theorem dX0_meetDead_45 : decode cX0_meetDead 45 = .ok (.aload_n 0, 1) := by decide +kernel
theorem dX0_meetDead_46 : decode cX0_meetDead 46 = .ok (.getfield 30, 3) := by decide +kernel
theorem dX0_meetDead_49 : decode cX0_meetDead 49 = .ok (.aload_n 0, 1) := by decide +kernel
theorem dX0_meetDead_50 : decode cX0_meetDead 50 = .ok (.getfield 43, 3) := by decide +kernel
theorem dX0_meetDead_53 : decode cX0_meetDead 53 = .ok (.getfield 92, 3) := by decide +kernel
theorem dX0_meetDead_56 : decode cX0_meetDead 56 = .ok (.iload_n 1, 1) := by decide +kernel
theorem dX0_meetDead_57 : decode cX0_meetDead 57 = .ok (.iaload, 1) := by decide +kernel
theorem dX0_meetDead_58 : decode cX0_meetDead 58 = .ok (.iastore, 1) := by decide +kernel
theorem dX0_meetDead_59 : decode cX0_meetDead 59 = .ok (.aload_n 0, 1) := by decide +kernel
theorem dX0_meetDead_60 : decode cX0_meetDead 60 = .ok (.aload_n 0, 1) := by decide +kernel
theorem dX0_meetDead_61 : decode cX0_meetDead 61 = .ok (.getfield 27, 3) := by decide +kernel
theorem dX0_meetDead_64 : decode cX0_meetDead 64 = .ok (.iload_n 1, 1) := by decide +kernel
theorem dX0_meetDead_65 : decode cX0_meetDead 65 = .ok (.iconst 1, 1) := by decide +kernel
theorem dX0_meetDead_66 : decode cX0_meetDead 66 = .ok (.invokestatic 95, 3) := by decide +kernel
theorem dX0_meetDead_69 : decode cX0_meetDead 69 = .ok (.putfield 27, 3) := by decide +kernel
theorem dX0_meetDead_72 : decode cX0_meetDead 72 = .ok (.aload_n 0, 1) := by decide +kernel
theorem dX0_meetDead_73 : decode cX0_meetDead 73 = .ok (.dup, 1) := by decide +kernel
theorem dX0_meetDead_74 : decode cX0_meetDead 74 = .ok (.getfield 30, 3) := by decide +kernel
theorem dX0_meetDead_77 : decode cX0_meetDead 77 = .ok (.iconst 1, 1) := by decide +kernel
theorem dX0_meetDead_78 : decode cX0_meetDead 78 = .ok (.iadd, 1) := by decide +kernel
theorem dX0_meetDead_79 : decode cX0_meetDead 79 = .ok (.putfield 30, 3) := by decide +kernel
theorem dX0_meetDead_82 : decode cX0_meetDead 82 = .ok (.return_, 1) := by decide +kernel
theorem dX0_goAlong_0 : decode cX0_goAlong 0 = .ok (.aload_n 0, 1) := by decide +kernel
theorem dX0_goAlong_1 : decode cX0_goAlong 1 = .ok (.aload_n 0, 1) := by decide +kernel
theorem dX0_goAlong_2 : decode cX0_goAlong 2 = .ok (.getfield 43, 3) := by decide +kernel
theorem dX0_goAlong_5 : decode cX0_goAlong 5 = .ok (.iload_n 1, 1) := by decide +kernel
theorem dX0_goAlong_6 : decode cX0_goAlong 6 = .ok (.aload_n 0, 1) := by decide +kernel
theorem dX0_goAlong_7 : decode cX0_goAlong 7 = .ok (.getfield 21, 3) := by decide +kernel
theorem dX0_goAlong_10 : decode cX0_goAlong 10 = .ok (.invokevirtual 99, 3) := by decide +kernel
theorem dX0_goAlong_13 : decode cX0_goAlong 13 = .ok (.putfield 21, 3) := by decide +kernel
theorem dX0_goAlong_16 : decode cX0_goAlong 16 = .ok (.aload_n 0, 1) := by decide +kernel
theorem dX0_goAlong_17 : decode cX0_goAlong 17 = .ok (.dup, 1) := by decide +kernel
theorem dX0_goAlong_18 : decode cX0_goAlong 18 = .ok (.getfield 15, 3) := by decide +kernel
theorem dX0_goAlong_21 : decode cX0_goAlong 21 = .ok (.aload_n 0, 1) := by decide +kernel
theorem dX0_goAlong_22 : decode cX0_goAlong 22 = .ok (.getfield 43, 3) := by decide +kernel
theorem dX0_goAlong_25 : decode cX0_goAlong 25 = .ok (.getfield 102, 3) := by decide +kernel
theorem dX0_goAlong_28 : decode cX0_goAlong 28 = .ok (.iload_n 1, 1) := by decide +kernel
theorem dX0_goAlong_29 : decode cX0_goAlong 29 = .ok (.iaload, 1) := by decide +kernel
theorem dX0_goAlong_30 : decode cX0_goAlong 30 = .ok (.iadd, 1) := by decide +kernel
theorem dX0_goAlong_31 : decode cX0_goAlong 31 = .ok (.putfield 15, 3) := by decide +kernel
theorem dX0_goAlong_34 : decode cX0_goAlong 34 = .ok (.aload_n 0, 1) := by decide +kernel
theorem dX0_goAlong_35 : decode cX0_goAlong 35 = .ok (.dup, 1) := by decide +kernel
theorem dX0_goAlong_36 : decode cX0_goAlong 36 = .ok (.getfield 9, 3) := by decide +kernel
theorem dX0_goAlong_39 : decode cX0_goAlong 39 = .ok (.iconst 1, 1) := by decide +kernel
theorem dX0_goAlong_40 : decode cX0_goAlong 40 = .ok (.iadd, 1) := by decide +kernel
theorem dX0_goAlong_41 : decode cX0_goAlong 41 = .ok (.putfield 9, 3) := by decide +kernel
theorem dX0_goAlong_44 : decode cX0_goAlong 44 = .ok (.aload_n 0, 1) := by decide +kernel
theorem dX0_goAlong_45 : decode cX0_goAlong 45 = .ok (.getfield 33, 3) := by decide +kernel
theorem dX0_goAlong_48 : decode cX0_goAlong 48 = .ok (.aload_n 0, 1) := by decide +kernel
theorem dX0_goAlong_49 : decode cX0_goAlong 49 = .ok (.getfield 9, 3) := by decide +kernel
theorem dX0_goAlong_52 : decode cX0_goAlong 52 = .ok (.aload_n 0, 1) := by decide +kernel
theorem dX0_goAlong_53 : decode cX0_goAlong 53 = .ok (.getfield 21, 3) := by decide +kernel
theorem dX0_goAlong_56 : decode cX0_goAlong 56 = .ok (.iastore, 1) := by decide +kernel
theorem dX0_goAlong_57 : decode cX0_goAlong 57 = .ok (.return_, 1) := by decide +kernel
theorem dX1_init_0 : decode cX1_init 0 = .ok (.aload_n 0, 1) := by decide +kernel
theorem dX1_init_1 : decode cX1_init 1 = .ok (.invokespecial 3, 3) := by decide +kernel
theorem dX1_init_4 : decode cX1_init 4 = .ok (.aload_n 0, 1) := by decide +kernel
theorem dX1_init_5 : decode cX1_init 5 = .ok (.iconst 4, 1) := by decide +kernel
theorem dX1_init_6 : decode cX1_init 6 = .ok (.putfield 9, 3) := by decide +kernel
theorem dX1_init_9 : decode cX1_init 9 = .ok (.aload_n 0, 1) := by decide +kernel
theorem dX1_init_10 : decode cX1_init 10 = .ok (.iconst 0, 1) := by decide +kernel
theorem dX1_init_11 : decode cX1_init 11 = .ok (.putfield 15, 3) := by decide +kernel
theorem dX1_init_14 : decode cX1_init 14 = .ok (.aload_n 0, 1) := by decide +kernel
theorem dX1_init_15 : decode cX1_init 15 = .ok (.bipush 18, 2) := by decide +kernel
theorem dX1_init_17 : decode cX1_init 17 = .ok (.putfield 18, 3) := by decide +kernel
theorem dX1_init_20 : decode cX1_init 20 = .ok (.aload_n 0, 1) := by decide +kernel
theorem dX1_init_21 : decode cX1_init 21 = .ok (.iconst 0, 1) := by decide +kernel
theorem dX1_init_22 : decode cX1_init 22 = .ok (.putfield 21, 3) := by decide +kernel
theorem dX1_init_25 : decode cX1_init 25 = .ok (.aload_n 0, 1) := by decide +kernel
theorem dX1_init_26 : decode cX1_init 26 = .ok (.iconst 0, 1) := by decide +kernel
theorem dX1_init_27 : decode cX1_init 27 = .ok (.putfield 24, 3) := by decide +kernel
theorem dX1_init_30 : decode cX1_init 30 = .ok (.aload_n 0, 1) := by decide +kernel
theorem dX1_init_31 : decode cX1_init 31 = .ok (.bipush 18, 2) := by decide +kernel
theorem dX1_init_33 : decode cX1_init 33 = .ok (.newarray .int, 2) := by decide +kernel
theorem dX1_init_35 : decode cX1_init 35 = .ok (.putfield 27, 3) := by decide +kernel
theorem dX1_init_38 : decode cX1_init 38 = .ok (.aload_n 0, 1) := by decide +kernel
theorem dX1_init_39 : decode cX1_init 39 = .ok (.bipush 18, 2) := by decide +kernel
theorem dX1_init_41 : decode cX1_init 41 = .ok (.newarray .int, 2) := by decide +kernel
theorem dX1_init_43 : decode cX1_init 43 = .ok (.putfield 31, 3) := by decide +kernel
theorem dX1_init_46 : decode cX1_init 46 = .ok (.aload_n 0, 1) := by decide +kernel
theorem dX1_init_47 : decode cX1_init 47 = .ok (.bipush 18, 2) := by decide +kernel
theorem dX1_init_49 : decode cX1_init 49 = .ok (.newarray .int, 2) := by decide +kernel
theorem dX1_init_51 : decode cX1_init 51 = .ok (.putfield 34, 3) := by decide +kernel
theorem dX1_init_54 : decode cX1_init 54 = .ok (.return_, 1) := by decide +kernel
theorem dX1_copyFrom_0 : decode cX1_copyFrom 0 = .ok (.aload_n 0, 1) := by decide +kernel
theorem dX1_copyFrom_1 : decode cX1_copyFrom 1 = .ok (.aload_n 1, 1) := by decide +kernel
theorem dX1_copyFrom_2 : decode cX1_copyFrom 2 = .ok (.getfield 9, 3) := by decide +kernel
theorem dX1_copyFrom_5 : decode cX1_copyFrom 5 = .ok (.putfield 9, 3) := by decide +kernel
theorem dX1_copyFrom_8 : decode cX1_copyFrom 8 = .ok (.aload_n 0, 1) := by decide +kernel
theorem dX1_copyFrom_9 : decode cX1_copyFrom 9 = .ok (.aload_n 1, 1) := by decide +kernel
theorem dX1_copyFrom_10 : decode cX1_copyFrom 10 = .ok (.getfield 15, 3) := by decide +kernel
theorem dX1_copyFrom_13 : decode cX1_copyFrom 13 = .ok (.putfield 15, 3) := by decide +kernel
theorem dX1_copyFrom_16 : decode cX1_copyFrom 16 = .ok (.aload_n 0, 1) := by decide +kernel
theorem dX1_copyFrom_17 : decode cX1_copyFrom 17 = .ok (.aload_n 1, 1) := by decide +kernel
theorem dX1_copyFrom_18 : decode cX1_copyFrom 18 = .ok (.getfield 18, 3) := by decide +kernel
theorem dX1_copyFrom_21 : decode cX1_copyFrom 21 = .ok (.putfield 18, 3) := by decide +kernel
theorem dX1_copyFrom_24 : decode cX1_copyFrom 24 = .ok (.aload_n 0, 1) := by decide +kernel
theorem dX1_copyFrom_25 : decode cX1_copyFrom 25 = .ok (.aload_n 1, 1) := by decide +kernel
theorem dX1_copyFrom_26 : decode cX1_copyFrom 26 = .ok (.getfield 21, 3) := by decide +kernel
theorem dX1_copyFrom_29 : decode cX1_copyFrom 29 = .ok (.putfield 21, 3) := by decide +kernel
theorem dX1_copyFrom_32 : decode cX1_copyFrom 32 = .ok (.aload_n 0, 1) := by decide +kernel
theorem dX1_copyFrom_33 : decode cX1_copyFrom 33 = .ok (.aload_n 1, 1) := by decide +kernel
theorem dX1_copyFrom_34 : decode cX1_copyFrom 34 = .ok (.getfield 24, 3) := by decide +kernel
theorem dX1_copyFrom_37 : decode cX1_copyFrom 37 = .ok (.putfield 24, 3) := by decide +kernel
theorem dX1_copyFrom_40 : decode cX1_copyFrom 40 = .ok (.iconst 0, 1) := by decide +kernel
theorem dX1_copyFrom_41 : decode cX1_copyFrom 41 = .ok (.istore_n 2, 1) := by decide +kernel
theorem dX1_copyFrom_42 : decode cX1_copyFrom 42 = .ok (.iload_n 2, 1) := by decide +kernel
theorem dX1_copyFrom_43 : decode cX1_copyFrom 43 = .ok (.bipush 18, 2) := by decide +kernel
theorem dX1_copyFrom_45 : decode cX1_copyFrom 45 = .ok (.if_icmp .ge 45, 3) := by decide +kernel
theorem dX1_copyFrom_48 : decode cX1_copyFrom 48 = .ok (.aload_n 0, 1) := by decide +kernel
theorem dX1_copyFrom_49 : decode cX1_copyFrom 49 = .ok (.getfield 27, 3) := by decide +kernel
theorem dX1_copyFrom_52 : decode cX1_copyFrom 52 = .ok (.iload_n 2, 1) := by decide +kernel
theorem dX1_copyFrom_53 : decode cX1_copyFrom 53 = .ok (.aload_n 1, 1) := by decide +kernel
theorem dX1_copyFrom_54 : decode cX1_copyFrom 54 = .ok (.getfield 27, 3) := by decide +kernel
theorem dX1_copyFrom_57 : decode cX1_copyFrom 57 = .ok (.iload_n 2, 1) := by decide +kernel
theorem dX1_copyFrom_58 : decode cX1_copyFrom 58 = .ok (.iaload, 1) := by decide +kernel
theorem dX1_copyFrom_59 : decode cX1_copyFrom 59 = .ok (.iastore, 1) := by decide +kernel
theorem dX1_copyFrom_60 : decode cX1_copyFrom 60 = .ok (.aload_n 0, 1) := by decide +kernel
theorem dX1_copyFrom_61 : decode cX1_copyFrom 61 = .ok (.getfield 31, 3) := by decide +kernel
theorem dX1_copyFrom_64 : decode cX1_copyFrom 64 = .ok (.iload_n 2, 1) := by decide +kernel
theorem dX1_copyFrom_65 : decode cX1_copyFrom 65 = .ok (.aload_n 1, 1) := by decide +kernel
theorem dX1_copyFrom_66 : decode cX1_copyFrom 66 = .ok (.getfield 31, 3) := by decide +kernel
theorem dX1_copyFrom_69 : decode cX1_copyFrom 69 = .ok (.iload_n 2, 1) := by decide +kernel
theorem dX1_copyFrom_70 : decode cX1_copyFrom 70 = .ok (.iaload, 1) := by decide +kernel
theorem dX1_copyFrom_71 : decode cX1_copyFrom 71 = .ok (.iastore, 1) := by decide +kernel
theorem dX1_copyFrom_72 : decode cX1_copyFrom 72 = .ok (.aload_n 0, 1) := by decide +kernel
theorem dX1_copyFrom_73 : decode cX1_copyFrom 73 = .ok (.getfield 34, 3) := by decide +kernel
theorem dX1_copyFrom_76 : decode cX1_copyFrom 76 = .ok (.iload_n 2, 1) := by decide +kernel
theorem dX1_copyFrom_77 : decode cX1_copyFrom 77 = .ok (.aload_n 1, 1) := by decide +kernel
theorem dX1_copyFrom_78 : decode cX1_copyFrom 78 = .ok (.getfield 34, 3) := by decide +kernel
theorem dX1_copyFrom_81 : decode cX1_copyFrom 81 = .ok (.iload_n 2, 1) := by decide +kernel
theorem dX1_copyFrom_82 : decode cX1_copyFrom 82 = .ok (.iaload, 1) := by decide +kernel
theorem dX1_copyFrom_83 : decode cX1_copyFrom 83 = .ok (.iastore, 1) := by decide +kernel
theorem dX1_copyFrom_84 : decode cX1_copyFrom 84 = .ok (.iinc 2 1, 3) := by decide +kernel
theorem dX1_copyFrom_87 : decode cX1_copyFrom 87 = .ok (.goto (-45), 3) := by decide +kernel
theorem dX1_copyFrom_90 : decode cX1_copyFrom 90 = .ok (.return_, 1) := by decide +kernel
theorem dX1_clear_0 : decode cX1_clear 0 = .ok (.aload_n 0, 1) := by decide +kernel
theorem dX1_clear_1 : decode cX1_clear 1 = .ok (.iload_n 1, 1) := by decide +kernel
theorem dX1_clear_2 : decode cX1_clear 2 = .ok (.putfield 9, 3) := by decide +kernel
theorem dX1_clear_5 : decode cX1_clear 5 = .ok (.aload_n 0, 1) := by decide +kernel
theorem dX1_clear_6 : decode cX1_clear 6 = .ok (.iconst 0, 1) := by decide +kernel
theorem dX1_clear_7 : decode cX1_clear 7 = .ok (.putfield 15, 3) := by decide +kernel
theorem dX1_clear_10 : decode cX1_clear 10 = .ok (.aload_n 0, 1) := by decide +kernel
theorem dX1_clear_11 : decode cX1_clear 11 = .ok (.iconst 0, 1) := by decide +kernel
theorem dX1_clear_12 : decode cX1_clear 12 = .ok (.putfield 21, 3) := by decide +kernel
theorem dX1_clear_15 : decode cX1_clear 15 = .ok (.aload_n 0, 1) := by decide +kernel
theorem dX1_clear_16 : decode cX1_clear 16 = .ok (.iconst 0, 1) := by decide +kernel
theorem dX1_clear_17 : decode cX1_clear 17 = .ok (.putfield 24, 3) := by decide +kernel
theorem dX1_clear_20 : decode cX1_clear 20 = .ok (.return_, 1) := by decide +kernel
theorem dX1_hasNode_0 : decode cX1_hasNode 0 = .ok (.iload_n 1, 1) := by decide +kernel
theorem dX1_hasNode_1 : decode cX1_hasNode 1 = .ok (.ifCond .lt 15, 3) := by decide +kernel
theorem dX1_hasNode_4 : decode cX1_hasNode 4 = .ok (.iload_n 1, 1) := by decide +kernel
theorem dX1_hasNode_5 : decode cX1_hasNode 5 = .ok (.aload_n 0, 1) := by decide +kernel
theorem dX1_hasNode_6 : decode cX1_hasNode 6 = .ok (.getfield 9, 3) := by decide +kernel
theorem dX1_hasNode_9 : decode cX1_hasNode 9 = .ok (.if_icmp .ge 7, 3) := by decide +kernel
theorem dX1_hasNode_12 : decode cX1_hasNode 12 = .ok (.iconst 1, 1) := by decide +kernel
theorem dX1_hasNode_13 : decode cX1_hasNode 13 = .ok (.goto 4, 3) := by decide +kernel
theorem dX1_hasNode_16 : decode cX1_hasNode 16 = .ok (.iconst 0, 1) := by decide +kernel
theorem dX1_hasNode_17 : decode cX1_hasNode 17 = .ok (.ireturn, 1) := by decide +kernel
theorem dX1_hasLink_0 : decode cX1_hasLink 0 = .ok (.iload_n 1, 1) := by decide +kernel
theorem dX1_hasLink_1 : decode cX1_hasLink 1 = .ok (.ifCond .lt 15, 3) := by decide +kernel
theorem dX1_hasLink_4 : decode cX1_hasLink 4 = .ok (.iload_n 1, 1) := by decide +kernel
theorem dX1_hasLink_5 : decode cX1_hasLink 5 = .ok (.aload_n 0, 1) := by decide +kernel
theorem dX1_hasLink_6 : decode cX1_hasLink 6 = .ok (.getfield 15, 3) := by decide +kernel
theorem dX1_hasLink_9 : decode cX1_hasLink 9 = .ok (.if_icmp .ge 7, 3) := by decide +kernel
theorem dX1_hasLink_12 : decode cX1_hasLink 12 = .ok (.iconst 1, 1) := by decide +kernel
theorem dX1_hasLink_13 : decode cX1_hasLink 13 = .ok (.goto 4, 3) := by decide +kernel
theorem dX1_hasLink_16 : decode cX1_hasLink 16 = .ok (.iconst 0, 1) := by decide +kernel
theorem dX1_hasLink_17 : decode cX1_hasLink 17 = .ok (.ireturn, 1) := by decide +kernel
theorem dX1_findLink_0 : decode cX1_findLink 0 = .ok (.iconst 0, 1) := by decide +kernel
theorem dX1_findLink_1 : decode cX1_findLink 1 = .ok (.istore_n 3, 1) := by decide +kernel
theorem dX1_findLink_2 : decode cX1_findLink 2 = .ok (.iload_n 3, 1) := by decide +kernel
theorem dX1_findLink_3 : decode cX1_findLink 3 = .ok (.aload_n 0, 1) := by decide +kernel
theorem dX1_findLink_4 : decode cX1_findLink 4 = .ok (.getfield 15, 3) := by decide +kernel
theorem dX1_findLink_7 : decode cX1_findLink 7 = .ok (.if_icmp .ge 39, 3) := by decide +kernel
theorem dX1_findLink_10 : decode cX1_findLink 10 = .ok (.aload_n 0, 1) := by decide +kernel
theorem dX1_findLink_11 : decode cX1_findLink 11 = .ok (.getfield 27, 3) := by decide +kernel
theorem dX1_findLink_14 : decode cX1_findLink 14 = .ok (.iload_n 3, 1) := by decide +kernel
theorem dX1_findLink_15 : decode cX1_findLink 15 = .ok (.iaload, 1) := by decide +kernel
theorem dX1_findLink_16 : decode cX1_findLink 16 = .ok (.iload_n 1, 1) := by decide +kernel
theorem dX1_findLink_17 : decode cX1_findLink 17 = .ok (.iload_n 2, 1) := by decide +kernel
theorem dX1_findLink_18 : decode cX1_findLink 18 = .ok (.invokestatic 37, 3) := by decide +kernel
theorem dX1_findLink_21 : decode cX1_findLink 21 = .ok (.if_icmp .ne 19, 3) := by decide +kernel
theorem dX1_findLink_24 : decode cX1_findLink 24 = .ok (.aload_n 0, 1) := by decide +kernel
theorem dX1_findLink_25 : decode cX1_findLink 25 = .ok (.getfield 31, 3) := by decide +kernel
theorem dX1_findLink_28 : decode cX1_findLink 28 = .ok (.iload_n 3, 1) := by decide +kernel
theorem dX1_findLink_29 : decode cX1_findLink 29 = .ok (.iaload, 1) := by decide +kernel
theorem dX1_findLink_30 : decode cX1_findLink 30 = .ok (.iload_n 1, 1) := by decide +kernel
theorem dX1_findLink_31 : decode cX1_findLink 31 = .ok (.iload_n 2, 1) := by decide +kernel
theorem dX1_findLink_32 : decode cX1_findLink 32 = .ok (.invokestatic 43, 3) := by decide +kernel
theorem dX1_findLink_35 : decode cX1_findLink 35 = .ok (.if_icmp .ne 5, 3) := by decide +kernel
theorem dX1_findLink_38 : decode cX1_findLink 38 = .ok (.iload_n 3, 1) := by decide +kernel
theorem dX1_findLink_39 : decode cX1_findLink 39 = .ok (.ireturn, 1) := by decide +kernel
theorem dX1_findLink_40 : decode cX1_findLink 40 = .ok (.iinc 3 1, 3) := by decide +kernel
theorem dX1_findLink_43 : decode cX1_findLink 43 = .ok (.goto (-41), 3) := by decide +kernel
theorem dX1_findLink_46 : decode cX1_findLink 46 = .ok (.iconst (-1), 1) := by decide +kernel
theorem dX1_findLink_47 : decode cX1_findLink 47 = .ok (.ireturn, 1) := by decide +kernel
theorem dX1_refusalOfLink_0 : decode cX1_refusalOfLink 0 = .ok (.aload_n 0, 1) := by decide +kernel
theorem dX1_refusalOfLink_1 : decode cX1_refusalOfLink 1 = .ok (.iload_n 1, 1) := by decide +kernel
theorem dX1_refusalOfLink_2 : decode cX1_refusalOfLink 2 = .ok (.invokevirtual 46, 3) := by decide +kernel
theorem dX1_refusalOfLink_5 : decode cX1_refusalOfLink 5 = .ok (.ifCond .eq 27, 3) := by decide +kernel
theorem dX1_refusalOfLink_8 : decode cX1_refusalOfLink 8 = .ok (.aload_n 0, 1) := by decide +kernel
theorem dX1_refusalOfLink_9 : decode cX1_refusalOfLink 9 = .ok (.iload_n 2, 1) := by decide +kernel
theorem dX1_refusalOfLink_10 : decode cX1_refusalOfLink 10 = .ok (.invokevirtual 46, 3) := by decide +kernel
theorem dX1_refusalOfLink_13 : decode cX1_refusalOfLink 13 = .ok (.ifCond .eq 19, 3) := by decide +kernel
theorem dX1_refusalOfLink_16 : decode cX1_refusalOfLink 16 = .ok (.iload_n 1, 1) := by decide +kernel
theorem dX1_refusalOfLink_17 : decode cX1_refusalOfLink 17 = .ok (.iload_n 2, 1) := by decide +kernel
theorem dX1_refusalOfLink_18 : decode cX1_refusalOfLink 18 = .ok (.if_icmp .eq 14, 3) := by decide +kernel
theorem dX1_refusalOfLink_21 : decode cX1_refusalOfLink 21 = .ok (.iload_n 3, 1) := by decide +kernel
theorem dX1_refusalOfLink_22 : decode cX1_refusalOfLink 22 = .ok (.iconst 1, 1) := by decide +kernel
theorem dX1_refusalOfLink_23 : decode cX1_refusalOfLink 23 = .ok (.if_icmp .lt 9, 3) := by decide +kernel
theorem dX1_refusalOfLink_26 : decode cX1_refusalOfLink 26 = .ok (.iload_n 3, 1) := by decide +kernel
theorem dX1_refusalOfLink_27 : decode cX1_refusalOfLink 27 = .ok (.bipush 9, 2) := by decide +kernel
theorem dX1_refusalOfLink_29 : decode cX1_refusalOfLink 29 = .ok (.if_icmp .le 5, 3) := by decide +kernel
theorem dX1_refusalOfLink_32 : decode cX1_refusalOfLink 32 = .ok (.iconst (-1), 1) := by decide +kernel
theorem dX1_refusalOfLink_33 : decode cX1_refusalOfLink 33 = .ok (.ireturn, 1) := by decide +kernel
theorem dX1_refusalOfLink_34 : decode cX1_refusalOfLink 34 = .ok (.aload_n 0, 1) := by decide +kernel
theorem dX1_refusalOfLink_35 : decode cX1_refusalOfLink 35 = .ok (.iload_n 1, 1) := by decide +kernel
theorem dX1_refusalOfLink_36 : decode cX1_refusalOfLink 36 = .ok (.iload_n 2, 1) := by decide +kernel
theorem dX1_refusalOfLink_37 : decode cX1_refusalOfLink 37 = .ok (.invokevirtual 50, 3) := by decide +kernel
theorem dX1_refusalOfLink_40 : decode cX1_refusalOfLink 40 = .ok (.iconst (-1), 1) := by decide +kernel
theorem dX1_refusalOfLink_41 : decode cX1_refusalOfLink 41 = .ok (.if_icmp .eq 6, 3) := by decide +kernel
theorem dX1_refusalOfLink_44 : decode cX1_refusalOfLink 44 = .ok (.bipush (-2), 2) := by decide +kernel
theorem dX1_refusalOfLink_46 : decode cX1_refusalOfLink 46 = .ok (.ireturn, 1) := by decide +kernel
theorem dX1_refusalOfLink_47 : decode cX1_refusalOfLink 47 = .ok (.aload_n 0, 1) := by decide +kernel
theorem dX1_refusalOfLink_48 : decode cX1_refusalOfLink 48 = .ok (.getfield 15, 3) := by decide +kernel
theorem dX1_refusalOfLink_51 : decode cX1_refusalOfLink 51 = .ok (.bipush 18, 2) := by decide +kernel
theorem dX1_refusalOfLink_53 : decode cX1_refusalOfLink 53 = .ok (.if_icmp .lt 8, 3) := by decide +kernel
theorem dX1_refusalOfLink_56 : decode cX1_refusalOfLink 56 = .ok (.bipush (-3), 2) := by decide +kernel
theorem dX1_refusalOfLink_58 : decode cX1_refusalOfLink 58 = .ok (.goto 4, 3) := by decide +kernel
theorem dX1_refusalOfLink_61 : decode cX1_refusalOfLink 61 = .ok (.iconst 0, 1) := by decide +kernel
theorem dX1_refusalOfLink_62 : decode cX1_refusalOfLink 62 = .ok (.ireturn, 1) := by decide +kernel
theorem dX1_appendLink_0 : decode cX1_appendLink 0 = .ok (.aload_n 0, 1) := by decide +kernel
theorem dX1_appendLink_1 : decode cX1_appendLink 1 = .ok (.getfield 27, 3) := by decide +kernel
theorem dX1_appendLink_4 : decode cX1_appendLink 4 = .ok (.aload_n 0, 1) := by decide +kernel
theorem dX1_appendLink_5 : decode cX1_appendLink 5 = .ok (.getfield 15, 3) := by decide +kernel
theorem dX1_appendLink_8 : decode cX1_appendLink 8 = .ok (.iload_n 1, 1) := by decide +kernel
theorem dX1_appendLink_9 : decode cX1_appendLink 9 = .ok (.iload_n 2, 1) := by decide +kernel
theorem dX1_appendLink_10 : decode cX1_appendLink 10 = .ok (.invokestatic 37, 3) := by decide +kernel
theorem dX1_appendLink_13 : decode cX1_appendLink 13 = .ok (.iastore, 1) := by decide +kernel
theorem dX1_appendLink_14 : decode cX1_appendLink 14 = .ok (.aload_n 0, 1) := by decide +kernel
theorem dX1_appendLink_15 : decode cX1_appendLink 15 = .ok (.getfield 31, 3) := by decide +kernel
theorem dX1_appendLink_18 : decode cX1_appendLink 18 = .ok (.aload_n 0, 1) := by decide +kernel
theorem dX1_appendLink_19 : decode cX1_appendLink 19 = .ok (.getfield 15, 3) := by decide +kernel
theorem dX1_appendLink_22 : decode cX1_appendLink 22 = .ok (.iload_n 1, 1) := by decide +kernel
theorem dX1_appendLink_23 : decode cX1_appendLink 23 = .ok (.iload_n 2, 1) := by decide +kernel
theorem dX1_appendLink_24 : decode cX1_appendLink 24 = .ok (.invokestatic 43, 3) := by decide +kernel
theorem dX1_appendLink_27 : decode cX1_appendLink 27 = .ok (.iastore, 1) := by decide +kernel
theorem dX1_appendLink_28 : decode cX1_appendLink 28 = .ok (.aload_n 0, 1) := by decide +kernel
theorem dX1_appendLink_29 : decode cX1_appendLink 29 = .ok (.getfield 34, 3) := by decide +kernel
theorem dX1_appendLink_32 : decode cX1_appendLink 32 = .ok (.aload_n 0, 1) := by decide +kernel
theorem dX1_appendLink_33 : decode cX1_appendLink 33 = .ok (.getfield 15, 3) := by decide +kernel
theorem dX1_appendLink_36 : decode cX1_appendLink 36 = .ok (.iload_n 3, 1) := by decide +kernel
theorem dX1_appendLink_37 : decode cX1_appendLink 37 = .ok (.iastore, 1) := by decide +kernel
theorem dX1_appendLink_38 : decode cX1_appendLink 38 = .ok (.aload_n 0, 1) := by decide +kernel
theorem dX1_appendLink_39 : decode cX1_appendLink 39 = .ok (.aload_n 0, 1) := by decide +kernel
theorem dX1_appendLink_40 : decode cX1_appendLink 40 = .ok (.getfield 21, 3) := by decide +kernel
theorem dX1_appendLink_43 : decode cX1_appendLink 43 = .ok (.aload_n 0, 1) := by decide +kernel
theorem dX1_appendLink_44 : decode cX1_appendLink 44 = .ok (.getfield 15, 3) := by decide +kernel
theorem dX1_appendLink_47 : decode cX1_appendLink 47 = .ok (.iconst 1, 1) := by decide +kernel
theorem dX1_appendLink_48 : decode cX1_appendLink 48 = .ok (.invokestatic 53, 3) := by decide +kernel
theorem dX1_appendLink_51 : decode cX1_appendLink 51 = .ok (.putfield 21, 3) := by decide +kernel
theorem dX1_appendLink_54 : decode cX1_appendLink 54 = .ok (.aload_n 0, 1) := by decide +kernel
theorem dX1_appendLink_55 : decode cX1_appendLink 55 = .ok (.aload_n 0, 1) := by decide +kernel
theorem dX1_appendLink_56 : decode cX1_appendLink 56 = .ok (.getfield 24, 3) := by decide +kernel
theorem dX1_appendLink_59 : decode cX1_appendLink 59 = .ok (.aload_n 0, 1) := by decide +kernel
theorem dX1_appendLink_60 : decode cX1_appendLink 60 = .ok (.getfield 15, 3) := by decide +kernel
theorem dX1_appendLink_63 : decode cX1_appendLink 63 = .ok (.iconst 1, 1) := by decide +kernel
theorem dX1_appendLink_64 : decode cX1_appendLink 64 = .ok (.invokestatic 53, 3) := by decide +kernel
theorem dX1_appendLink_67 : decode cX1_appendLink 67 = .ok (.putfield 24, 3) := by decide +kernel
theorem dX1_appendLink_70 : decode cX1_appendLink 70 = .ok (.aload_n 0, 1) := by decide +kernel
theorem dX1_appendLink_71 : decode cX1_appendLink 71 = .ok (.dup, 1) := by decide +kernel
theorem dX1_appendLink_72 : decode cX1_appendLink 72 = .ok (.getfield 15, 3) := by decide +kernel
theorem dX1_appendLink_75 : decode cX1_appendLink 75 = .ok (.iconst 1, 1) := by decide +kernel
theorem dX1_appendLink_76 : decode cX1_appendLink 76 = .ok (.iadd, 1) := by decide +kernel
theorem dX1_appendLink_77 : decode cX1_appendLink 77 = .ok (.putfield 15, 3) := by decide +kernel
theorem dX1_appendLink_80 : decode cX1_appendLink 80 = .ok (.return_, 1) := by decide +kernel
theorem dX1_dropLink_0 : decode cX1_dropLink 0 = .ok (.iload_n 1, 1) := by decide +kernel
theorem dX1_dropLink_1 : decode cX1_dropLink 1 = .ok (.istore_n 2, 1) := by decide +kernel
theorem dX1_dropLink_2 : decode cX1_dropLink 2 = .ok (.iload_n 2, 1) := by decide +kernel
theorem dX1_dropLink_3 : decode cX1_dropLink 3 = .ok (.iconst 1, 1) := by decide +kernel
theorem dX1_dropLink_4 : decode cX1_dropLink 4 = .ok (.iadd, 1) := by decide +kernel
theorem dX1_dropLink_5 : decode cX1_dropLink 5 = .ok (.aload_n 0, 1) := by decide +kernel
theorem dX1_dropLink_6 : decode cX1_dropLink 6 = .ok (.getfield 15, 3) := by decide +kernel
theorem dX1_dropLink_9 : decode cX1_dropLink 9 = .ok (.if_icmp .ge 51, 3) := by decide +kernel
theorem dX1_dropLink_12 : decode cX1_dropLink 12 = .ok (.aload_n 0, 1) := by decide +kernel
theorem dX1_dropLink_13 : decode cX1_dropLink 13 = .ok (.getfield 27, 3) := by decide +kernel
theorem dX1_dropLink_16 : decode cX1_dropLink 16 = .ok (.iload_n 2, 1) := by decide +kernel
theorem dX1_dropLink_17 : decode cX1_dropLink 17 = .ok (.aload_n 0, 1) := by decide +kernel
theorem dX1_dropLink_18 : decode cX1_dropLink 18 = .ok (.getfield 27, 3) := by decide +kernel
theorem dX1_dropLink_21 : decode cX1_dropLink 21 = .ok (.iload_n 2, 1) := by decide +kernel
theorem dX1_dropLink_22 : decode cX1_dropLink 22 = .ok (.iconst 1, 1) := by decide +kernel
theorem dX1_dropLink_23 : decode cX1_dropLink 23 = .ok (.iadd, 1) := by decide +kernel
theorem dX1_dropLink_24 : decode cX1_dropLink 24 = .ok (.iaload, 1) := by decide +kernel
theorem dX1_dropLink_25 : decode cX1_dropLink 25 = .ok (.iastore, 1) := by decide +kernel
theorem dX1_dropLink_26 : decode cX1_dropLink 26 = .ok (.aload_n 0, 1) := by decide +kernel
theorem dX1_dropLink_27 : decode cX1_dropLink 27 = .ok (.getfield 31, 3) := by decide +kernel
theorem dX1_dropLink_30 : decode cX1_dropLink 30 = .ok (.iload_n 2, 1) := by decide +kernel
theorem dX1_dropLink_31 : decode cX1_dropLink 31 = .ok (.aload_n 0, 1) := by decide +kernel
theorem dX1_dropLink_32 : decode cX1_dropLink 32 = .ok (.getfield 31, 3) := by decide +kernel
theorem dX1_dropLink_35 : decode cX1_dropLink 35 = .ok (.iload_n 2, 1) := by decide +kernel
theorem dX1_dropLink_36 : decode cX1_dropLink 36 = .ok (.iconst 1, 1) := by decide +kernel
theorem dX1_dropLink_37 : decode cX1_dropLink 37 = .ok (.iadd, 1) := by decide +kernel
theorem dX1_dropLink_38 : decode cX1_dropLink 38 = .ok (.iaload, 1) := by decide +kernel
theorem dX1_dropLink_39 : decode cX1_dropLink 39 = .ok (.iastore, 1) := by decide +kernel
theorem dX1_dropLink_40 : decode cX1_dropLink 40 = .ok (.aload_n 0, 1) := by decide +kernel
theorem dX1_dropLink_41 : decode cX1_dropLink 41 = .ok (.getfield 34, 3) := by decide +kernel
theorem dX1_dropLink_44 : decode cX1_dropLink 44 = .ok (.iload_n 2, 1) := by decide +kernel
theorem dX1_dropLink_45 : decode cX1_dropLink 45 = .ok (.aload_n 0, 1) := by decide +kernel
theorem dX1_dropLink_46 : decode cX1_dropLink 46 = .ok (.getfield 34, 3) := by decide +kernel
theorem dX1_dropLink_49 : decode cX1_dropLink 49 = .ok (.iload_n 2, 1) := by decide +kernel
theorem dX1_dropLink_50 : decode cX1_dropLink 50 = .ok (.iconst 1, 1) := by decide +kernel
theorem dX1_dropLink_51 : decode cX1_dropLink 51 = .ok (.iadd, 1) := by decide +kernel
theorem dX1_dropLink_52 : decode cX1_dropLink 52 = .ok (.iaload, 1) := by decide +kernel
theorem dX1_dropLink_53 : decode cX1_dropLink 53 = .ok (.iastore, 1) := by decide +kernel
theorem dX1_dropLink_54 : decode cX1_dropLink 54 = .ok (.iinc 2 1, 3) := by decide +kernel
theorem dX1_dropLink_57 : decode cX1_dropLink 57 = .ok (.goto (-55), 3) := by decide +kernel
theorem dX1_dropLink_60 : decode cX1_dropLink 60 = .ok (.aload_n 0, 1) := by decide +kernel
theorem dX1_dropLink_61 : decode cX1_dropLink 61 = .ok (.aload_n 0, 1) := by decide +kernel
theorem dX1_dropLink_62 : decode cX1_dropLink 62 = .ok (.getfield 21, 3) := by decide +kernel
theorem dX1_dropLink_65 : decode cX1_dropLink 65 = .ok (.iload_n 1, 1) := by decide +kernel
theorem dX1_dropLink_66 : decode cX1_dropLink 66 = .ok (.invokestatic 57, 3) := by decide +kernel
theorem dX1_dropLink_69 : decode cX1_dropLink 69 = .ok (.putfield 21, 3) := by decide +kernel
theorem dX1_dropLink_72 : decode cX1_dropLink 72 = .ok (.aload_n 0, 1) := by decide +kernel
theorem dX1_dropLink_73 : decode cX1_dropLink 73 = .ok (.aload_n 0, 1) := by decide +kernel
theorem dX1_dropLink_74 : decode cX1_dropLink 74 = .ok (.getfield 24, 3) := by decide +kernel
theorem dX1_dropLink_77 : decode cX1_dropLink 77 = .ok (.iload_n 1, 1) := by decide +kernel
theorem dX1_dropLink_78 : decode cX1_dropLink 78 = .ok (.invokestatic 57, 3) := by decide +kernel
theorem dX1_dropLink_81 : decode cX1_dropLink 81 = .ok (.putfield 24, 3) := by decide +kernel
theorem dX1_dropLink_84 : decode cX1_dropLink 84 = .ok (.aload_n 0, 1) := by decide +kernel
theorem dX1_dropLink_85 : decode cX1_dropLink 85 = .ok (.dup, 1) := by decide +kernel
theorem dX1_dropLink_86 : decode cX1_dropLink 86 = .ok (.getfield 15, 3) := by decide +kernel
theorem dX1_dropLink_89 : decode cX1_dropLink 89 = .ok (.iconst 1, 1) := by decide +kernel
theorem dX1_dropLink_90 : decode cX1_dropLink 90 = .ok (.isub, 1) := by decide +kernel
theorem dX1_dropLink_91 : decode cX1_dropLink 91 = .ok (.putfield 15, 3) := by decide +kernel
theorem dX1_dropLink_94 : decode cX1_dropLink 94 = .ok (.return_, 1) := by decide +kernel
theorem dX1_withoutPlace_0 : decode cX1_withoutPlace 0 = .ok (.iconst 1, 1) := by decide +kernel
theorem dX1_withoutPlace_1 : decode cX1_withoutPlace 1 = .ok (.iload_n 1, 1) := by decide +kernel
theorem dX1_withoutPlace_2 : decode cX1_withoutPlace 2 = .ok (.ishl, 1) := by decide +kernel
theorem dX1_withoutPlace_3 : decode cX1_withoutPlace 3 = .ok (.iconst 1, 1) := by decide +kernel
theorem dX1_withoutPlace_4 : decode cX1_withoutPlace 4 = .ok (.isub, 1) := by decide +kernel
theorem dX1_withoutPlace_5 : decode cX1_withoutPlace 5 = .ok (.istore_n 2, 1) := by decide +kernel
theorem dX1_withoutPlace_6 : decode cX1_withoutPlace 6 = .ok (.iload_n 0, 1) := by decide +kernel
theorem dX1_withoutPlace_7 : decode cX1_withoutPlace 7 = .ok (.iload_n 2, 1) := by decide +kernel
theorem dX1_withoutPlace_8 : decode cX1_withoutPlace 8 = .ok (.iand, 1) := by decide +kernel
theorem dX1_withoutPlace_9 : decode cX1_withoutPlace 9 = .ok (.iload_n 0, 1) := by decide +kernel
theorem dX1_withoutPlace_10 : decode cX1_withoutPlace 10 = .ok (.iconst 1, 1) := by decide +kernel
theorem dX1_withoutPlace_11 : decode cX1_withoutPlace 11 = .ok (.iushr, 1) := by decide +kernel
theorem dX1_withoutPlace_12 : decode cX1_withoutPlace 12 = .ok (.iload_n 2, 1) := by decide +kernel
theorem dX1_withoutPlace_13 : decode cX1_withoutPlace 13 = .ok (.iconst (-1), 1) := by decide +kernel
theorem dX1_withoutPlace_14 : decode cX1_withoutPlace 14 = .ok (.ixor, 1) := by decide +kernel
theorem dX1_withoutPlace_15 : decode cX1_withoutPlace 15 = .ok (.iand, 1) := by decide +kernel
theorem dX1_withoutPlace_16 : decode cX1_withoutPlace 16 = .ok (.ior, 1) := by decide +kernel
theorem dX1_withoutPlace_17 : decode cX1_withoutPlace 17 = .ok (.ireturn, 1) := by decide +kernel
theorem dX1_otherEnd_0 : decode cX1_otherEnd 0 = .ok (.aload_n 0, 1) := by decide +kernel
theorem dX1_otherEnd_1 : decode cX1_otherEnd 1 = .ok (.getfield 27, 3) := by decide +kernel
theorem dX1_otherEnd_4 : decode cX1_otherEnd 4 = .ok (.iload_n 1, 1) := by decide +kernel
theorem dX1_otherEnd_5 : decode cX1_otherEnd 5 = .ok (.iaload, 1) := by decide +kernel
theorem dX1_otherEnd_6 : decode cX1_otherEnd 6 = .ok (.iload_n 2, 1) := by decide +kernel
theorem dX1_otherEnd_7 : decode cX1_otherEnd 7 = .ok (.if_icmp .ne 10, 3) := by decide +kernel
theorem dX1_otherEnd_10 : decode cX1_otherEnd 10 = .ok (.aload_n 0, 1) := by decide +kernel
theorem dX1_otherEnd_11 : decode cX1_otherEnd 11 = .ok (.getfield 31, 3) := by decide +kernel
theorem dX1_otherEnd_14 : decode cX1_otherEnd 14 = .ok (.iload_n 1, 1) := by decide +kernel
theorem dX1_otherEnd_15 : decode cX1_otherEnd 15 = .ok (.iaload, 1) := by decide +kernel
theorem dX1_otherEnd_16 : decode cX1_otherEnd 16 = .ok (.ireturn, 1) := by decide +kernel
theorem dX1_otherEnd_17 : decode cX1_otherEnd 17 = .ok (.aload_n 0, 1) := by decide +kernel
theorem dX1_otherEnd_18 : decode cX1_otherEnd 18 = .ok (.getfield 31, 3) := by decide +kernel
theorem dX1_otherEnd_21 : decode cX1_otherEnd 21 = .ok (.iload_n 1, 1) := by decide +kernel
theorem dX1_otherEnd_22 : decode cX1_otherEnd 22 = .ok (.iaload, 1) := by decide +kernel
theorem dX1_otherEnd_23 : decode cX1_otherEnd 23 = .ok (.iload_n 2, 1) := by decide +kernel
theorem dX1_otherEnd_24 : decode cX1_otherEnd 24 = .ok (.if_icmp .ne 12, 3) := by decide +kernel
theorem dX1_otherEnd_27 : decode cX1_otherEnd 27 = .ok (.aload_n 0, 1) := by decide +kernel
theorem dX1_otherEnd_28 : decode cX1_otherEnd 28 = .ok (.getfield 27, 3) := by decide +kernel
theorem dX1_otherEnd_31 : decode cX1_otherEnd 31 = .ok (.iload_n 1, 1) := by decide +kernel
theorem dX1_otherEnd_32 : decode cX1_otherEnd 32 = .ok (.iaload, 1) := by decide +kernel
theorem dX1_otherEnd_33 : decode cX1_otherEnd 33 = .ok (.goto 4, 3) := by decide +kernel
theorem dX1_otherEnd_36 : decode cX1_otherEnd 36 = .ok (.iconst (-1), 1) := by decide +kernel
theorem dX1_otherEnd_37 : decode cX1_otherEnd 37 = .ok (.ireturn, 1) := by decide +kernel
theorem dX1_deadLinksAt_0 : decode cX1_deadLinksAt 0 = .ok (.iconst 0, 1) := by decide +kernel
theorem dX1_deadLinksAt_1 : decode cX1_deadLinksAt 1 = .ok (.istore_n 2, 1) := by decide +kernel
theorem dX1_deadLinksAt_2 : decode cX1_deadLinksAt 2 = .ok (.iconst 0, 1) := by decide +kernel
theorem dX1_deadLinksAt_3 : decode cX1_deadLinksAt 3 = .ok (.istore_n 3, 1) := by decide +kernel
theorem dX1_deadLinksAt_4 : decode cX1_deadLinksAt 4 = .ok (.iload_n 3, 1) := by decide +kernel
theorem dX1_deadLinksAt_5 : decode cX1_deadLinksAt 5 = .ok (.aload_n 0, 1) := by decide +kernel
theorem dX1_deadLinksAt_6 : decode cX1_deadLinksAt 6 = .ok (.getfield 15, 3) := by decide +kernel
theorem dX1_deadLinksAt_9 : decode cX1_deadLinksAt 9 = .ok (.if_icmp .ge 37, 3) := by decide +kernel
theorem dX1_deadLinksAt_12 : decode cX1_deadLinksAt 12 = .ok (.aload_n 0, 1) := by decide +kernel
theorem dX1_deadLinksAt_13 : decode cX1_deadLinksAt 13 = .ok (.getfield 21, 3) := by decide +kernel
theorem dX1_deadLinksAt_16 : decode cX1_deadLinksAt 16 = .ok (.iload_n 3, 1) := by decide +kernel
theorem dX1_deadLinksAt_17 : decode cX1_deadLinksAt 17 = .ok (.invokestatic 60, 3) := by decide +kernel
theorem dX1_deadLinksAt_20 : decode cX1_deadLinksAt 20 = .ok (.ifCond .ne 20, 3) := by decide +kernel
theorem dX1_deadLinksAt_23 : decode cX1_deadLinksAt 23 = .ok (.aload_n 0, 1) := by decide +kernel
theorem dX1_deadLinksAt_24 : decode cX1_deadLinksAt 24 = .ok (.iload_n 3, 1) := by decide +kernel
theorem dX1_deadLinksAt_25 : decode cX1_deadLinksAt 25 = .ok (.iload_n 1, 1) := by decide +kernel
theorem dX1_deadLinksAt_26 : decode cX1_deadLinksAt 26 = .ok (.invokevirtual 63, 3) := by decide +kernel
theorem dX1_deadLinksAt_29 : decode cX1_deadLinksAt 29 = .ok (.iconst (-1), 1) := by decide +kernel
theorem dX1_deadLinksAt_30 : decode cX1_deadLinksAt 30 = .ok (.if_icmp .eq 10, 3) := by decide +kernel
theorem dX1_deadLinksAt_33 : decode cX1_deadLinksAt 33 = .ok (.iload_n 2, 1) := by decide +kernel
theorem dX1_deadLinksAt_34 : decode cX1_deadLinksAt 34 = .ok (.iload_n 3, 1) := by decide +kernel
theorem dX1_deadLinksAt_35 : decode cX1_deadLinksAt 35 = .ok (.iconst 1, 1) := by decide +kernel
theorem dX1_deadLinksAt_36 : decode cX1_deadLinksAt 36 = .ok (.invokestatic 53, 3) := by decide +kernel
theorem dX1_deadLinksAt_39 : decode cX1_deadLinksAt 39 = .ok (.istore_n 2, 1) := by decide +kernel
theorem dX1_deadLinksAt_40 : decode cX1_deadLinksAt 40 = .ok (.iinc 3 1, 3) := by decide +kernel
theorem dX1_deadLinksAt_43 : decode cX1_deadLinksAt 43 = .ok (.goto (-39), 3) := by decide +kernel
theorem dX1_deadLinksAt_46 : decode cX1_deadLinksAt 46 = .ok (.iload_n 2, 1) := by decide +kernel
theorem dX1_deadLinksAt_47 : decode cX1_deadLinksAt 47 = .ok (.ireturn, 1) := by decide +kernel
theorem dX1_countWrongInMap_0 : decode cX1_countWrongInMap 0 = .ok (.aload_n 0, 1) := by decide +kernel
theorem dX1_countWrongInMap_1 : decode cX1_countWrongInMap 1 = .ok (.getfield 21, 3) := by decide +kernel
theorem dX1_countWrongInMap_4 : decode cX1_countWrongInMap 4 = .ok (.aload_n 0, 1) := by decide +kernel
theorem dX1_countWrongInMap_5 : decode cX1_countWrongInMap 5 = .ok (.getfield 24, 3) := by decide +kernel
theorem dX1_countWrongInMap_8 : decode cX1_countWrongInMap 8 = .ok (.ixor, 1) := by decide +kernel
theorem dX1_countWrongInMap_9 : decode cX1_countWrongInMap 9 = .ok (.invokestatic 66, 3) := by decide +kernel
theorem dX1_countWrongInMap_12 : decode cX1_countWrongInMap 12 = .ok (.ireturn, 1) := by decide +kernel
theorem dX1_reachedFrom_0 : decode cX1_reachedFrom 0 = .ok (.iconst 1, 1) := by decide +kernel
theorem dX1_reachedFrom_1 : decode cX1_reachedFrom 1 = .ok (.iload_n 1, 1) := by decide +kernel
theorem dX1_reachedFrom_2 : decode cX1_reachedFrom 2 = .ok (.ishl, 1) := by decide +kernel
theorem dX1_reachedFrom_3 : decode cX1_reachedFrom 3 = .ok (.istore_n 3, 1) := by decide +kernel
theorem dX1_reachedFrom_4 : decode cX1_reachedFrom 4 = .ok (.iconst 1, 1) := by decide +kernel
theorem dX1_reachedFrom_5 : decode cX1_reachedFrom 5 = .ok (.istore 4, 2) := by decide +kernel
theorem dX1_reachedFrom_7 : decode cX1_reachedFrom 7 = .ok (.iconst 0, 1) := by decide +kernel
theorem dX1_reachedFrom_8 : decode cX1_reachedFrom 8 = .ok (.istore 5, 2) := by decide +kernel
theorem dX1_reachedFrom_10 : decode cX1_reachedFrom 10 = .ok (.iload 5, 2) := by decide +kernel
theorem dX1_reachedFrom_12 : decode cX1_reachedFrom 12 = .ok (.aload_n 0, 1) := by decide +kernel
theorem dX1_reachedFrom_13 : decode cX1_reachedFrom 13 = .ok (.getfield 9, 3) := by decide +kernel
theorem dX1_reachedFrom_16 : decode cX1_reachedFrom 16 = .ok (.if_icmp .ge 95, 3) := by decide +kernel
theorem dX1_reachedFrom_19 : decode cX1_reachedFrom 19 = .ok (.iload 4, 2) := by decide +kernel
theorem dX1_reachedFrom_21 : decode cX1_reachedFrom 21 = .ok (.ifCond .eq 90, 3) := by decide +kernel
theorem dX1_reachedFrom_24 : decode cX1_reachedFrom 24 = .ok (.iconst 0, 1) := by decide +kernel
theorem dX1_reachedFrom_25 : decode cX1_reachedFrom 25 = .ok (.istore 4, 2) := by decide +kernel
theorem dX1_reachedFrom_27 : decode cX1_reachedFrom 27 = .ok (.iconst 0, 1) := by decide +kernel
theorem dX1_reachedFrom_28 : decode cX1_reachedFrom 28 = .ok (.istore 6, 2) := by decide +kernel
theorem dX1_reachedFrom_30 : decode cX1_reachedFrom 30 = .ok (.iload 6, 2) := by decide +kernel
theorem dX1_reachedFrom_32 : decode cX1_reachedFrom 32 = .ok (.aload_n 0, 1) := by decide +kernel
theorem dX1_reachedFrom_33 : decode cX1_reachedFrom 33 = .ok (.getfield 15, 3) := by decide +kernel
theorem dX1_reachedFrom_36 : decode cX1_reachedFrom 36 = .ok (.if_icmp .ge 69, 3) := by decide +kernel
theorem dX1_reachedFrom_39 : decode cX1_reachedFrom 39 = .ok (.iload_n 2, 1) := by decide +kernel
theorem dX1_reachedFrom_40 : decode cX1_reachedFrom 40 = .ok (.iload 6, 2) := by decide +kernel
theorem dX1_reachedFrom_42 : decode cX1_reachedFrom 42 = .ok (.invokestatic 60, 3) := by decide +kernel
theorem dX1_reachedFrom_45 : decode cX1_reachedFrom 45 = .ok (.iconst 1, 1) := by decide +kernel
theorem dX1_reachedFrom_46 : decode cX1_reachedFrom 46 = .ok (.if_icmp .ne 53, 3) := by decide +kernel
theorem dX1_reachedFrom_49 : decode cX1_reachedFrom 49 = .ok (.iload_n 3, 1) := by decide +kernel
theorem dX1_reachedFrom_50 : decode cX1_reachedFrom 50 = .ok (.aload_n 0, 1) := by decide +kernel
theorem dX1_reachedFrom_51 : decode cX1_reachedFrom 51 = .ok (.getfield 27, 3) := by decide +kernel
theorem dX1_reachedFrom_54 : decode cX1_reachedFrom 54 = .ok (.iload 6, 2) := by decide +kernel
theorem dX1_reachedFrom_56 : decode cX1_reachedFrom 56 = .ok (.iaload, 1) := by decide +kernel
theorem dX1_reachedFrom_57 : decode cX1_reachedFrom 57 = .ok (.invokestatic 60, 3) := by decide +kernel
theorem dX1_reachedFrom_60 : decode cX1_reachedFrom 60 = .ok (.iload_n 3, 1) := by decide +kernel
theorem dX1_reachedFrom_61 : decode cX1_reachedFrom 61 = .ok (.aload_n 0, 1) := by decide +kernel
theorem dX1_reachedFrom_62 : decode cX1_reachedFrom 62 = .ok (.getfield 31, 3) := by decide +kernel
theorem dX1_reachedFrom_65 : decode cX1_reachedFrom 65 = .ok (.iload 6, 2) := by decide +kernel
theorem dX1_reachedFrom_67 : decode cX1_reachedFrom 67 = .ok (.iaload, 1) := by decide +kernel
theorem dX1_reachedFrom_68 : decode cX1_reachedFrom 68 = .ok (.invokestatic 60, 3) := by decide +kernel
theorem dX1_reachedFrom_71 : decode cX1_reachedFrom 71 = .ok (.if_icmp .eq 28, 3) := by decide +kernel
theorem dX1_reachedFrom_74 : decode cX1_reachedFrom 74 = .ok (.iload_n 3, 1) := by decide +kernel
theorem dX1_reachedFrom_75 : decode cX1_reachedFrom 75 = .ok (.iconst 1, 1) := by decide +kernel
theorem dX1_reachedFrom_76 : decode cX1_reachedFrom 76 = .ok (.aload_n 0, 1) := by decide +kernel
theorem dX1_reachedFrom_77 : decode cX1_reachedFrom 77 = .ok (.getfield 27, 3) := by decide +kernel
theorem dX1_reachedFrom_80 : decode cX1_reachedFrom 80 = .ok (.iload 6, 2) := by decide +kernel
theorem dX1_reachedFrom_82 : decode cX1_reachedFrom 82 = .ok (.iaload, 1) := by decide +kernel
theorem dX1_reachedFrom_83 : decode cX1_reachedFrom 83 = .ok (.ishl, 1) := by decide +kernel
theorem dX1_reachedFrom_84 : decode cX1_reachedFrom 84 = .ok (.iconst 1, 1) := by decide +kernel
theorem dX1_reachedFrom_85 : decode cX1_reachedFrom 85 = .ok (.aload_n 0, 1) := by decide +kernel
theorem dX1_reachedFrom_86 : decode cX1_reachedFrom 86 = .ok (.getfield 31, 3) := by decide +kernel
theorem dX1_reachedFrom_89 : decode cX1_reachedFrom 89 = .ok (.iload 6, 2) := by decide +kernel
theorem dX1_reachedFrom_91 : decode cX1_reachedFrom 91 = .ok (.iaload, 1) := by decide +kernel
theorem dX1_reachedFrom_92 : decode cX1_reachedFrom 92 = .ok (.ishl, 1) := by decide +kernel
theorem dX1_reachedFrom_93 : decode cX1_reachedFrom 93 = .ok (.ior, 1) := by decide +kernel
theorem dX1_reachedFrom_94 : decode cX1_reachedFrom 94 = .ok (.ior, 1) := by decide +kernel
theorem dX1_reachedFrom_95 : decode cX1_reachedFrom 95 = .ok (.istore_n 3, 1) := by decide +kernel
theorem dX1_reachedFrom_96 : decode cX1_reachedFrom 96 = .ok (.iconst 1, 1) := by decide +kernel
theorem dX1_reachedFrom_97 : decode cX1_reachedFrom 97 = .ok (.istore 4, 2) := by decide +kernel
theorem dX1_reachedFrom_99 : decode cX1_reachedFrom 99 = .ok (.iinc 6 1, 3) := by decide +kernel
theorem dX1_reachedFrom_102 : decode cX1_reachedFrom 102 = .ok (.goto (-72), 3) := by decide +kernel
theorem dX1_reachedFrom_105 : decode cX1_reachedFrom 105 = .ok (.iinc 5 1, 3) := by decide +kernel
theorem dX1_reachedFrom_108 : decode cX1_reachedFrom 108 = .ok (.goto (-98), 3) := by decide +kernel
theorem dX1_reachedFrom_111 : decode cX1_reachedFrom 111 = .ok (.iload_n 3, 1) := by decide +kernel
theorem dX1_reachedFrom_112 : decode cX1_reachedFrom 112 = .ok (.ireturn, 1) := by decide +kernel
theorem dX1_countParts_0 : decode cX1_countParts 0 = .ok (.iconst 0, 1) := by decide +kernel
theorem dX1_countParts_1 : decode cX1_countParts 1 = .ok (.istore_n 1, 1) := by decide +kernel
theorem dX1_countParts_2 : decode cX1_countParts 2 = .ok (.iconst 0, 1) := by decide +kernel
theorem dX1_countParts_3 : decode cX1_countParts 3 = .ok (.istore_n 2, 1) := by decide +kernel
theorem dX1_countParts_4 : decode cX1_countParts 4 = .ok (.iconst 0, 1) := by decide +kernel
theorem dX1_countParts_5 : decode cX1_countParts 5 = .ok (.istore_n 3, 1) := by decide +kernel
theorem dX1_countParts_6 : decode cX1_countParts 6 = .ok (.iload_n 3, 1) := by decide +kernel
theorem dX1_countParts_7 : decode cX1_countParts 7 = .ok (.aload_n 0, 1) := by decide +kernel
theorem dX1_countParts_8 : decode cX1_countParts 8 = .ok (.getfield 9, 3) := by decide +kernel
theorem dX1_countParts_11 : decode cX1_countParts 11 = .ok (.if_icmp .ge 32, 3) := by decide +kernel
theorem dX1_countParts_14 : decode cX1_countParts 14 = .ok (.iload_n 2, 1) := by decide +kernel
theorem dX1_countParts_15 : decode cX1_countParts 15 = .ok (.iload_n 3, 1) := by decide +kernel
theorem dX1_countParts_16 : decode cX1_countParts 16 = .ok (.invokestatic 60, 3) := by decide +kernel
theorem dX1_countParts_19 : decode cX1_countParts 19 = .ok (.ifCond .ne 18, 3) := by decide +kernel
theorem dX1_countParts_22 : decode cX1_countParts 22 = .ok (.iinc 1 1, 3) := by decide +kernel
theorem dX1_countParts_25 : decode cX1_countParts 25 = .ok (.iload_n 2, 1) := by decide +kernel
theorem dX1_countParts_26 : decode cX1_countParts 26 = .ok (.aload_n 0, 1) := by decide +kernel
theorem dX1_countParts_27 : decode cX1_countParts 27 = .ok (.iload_n 3, 1) := by decide +kernel
theorem dX1_countParts_28 : decode cX1_countParts 28 = .ok (.aload_n 0, 1) := by decide +kernel
theorem dX1_countParts_29 : decode cX1_countParts 29 = .ok (.getfield 21, 3) := by decide +kernel
theorem dX1_countParts_32 : decode cX1_countParts 32 = .ok (.invokevirtual 72, 3) := by decide +kernel
theorem dX1_countParts_35 : decode cX1_countParts 35 = .ok (.ior, 1) := by decide +kernel
theorem dX1_countParts_36 : decode cX1_countParts 36 = .ok (.istore_n 2, 1) := by decide +kernel
theorem dX1_countParts_37 : decode cX1_countParts 37 = .ok (.iinc 3 1, 3) := by decide +kernel
theorem dX1_countParts_40 : decode cX1_countParts 40 = .ok (.goto (-34), 3) := by decide +kernel
theorem dX1_countParts_43 : decode cX1_countParts 43 = .ok (.iload_n 1, 1) := by decide +kernel
theorem dX1_countParts_44 : decode cX1_countParts 44 = .ok (.ireturn, 1) := by decide +kernel
theorem dX1_pairsJoined_0 : decode cX1_pairsJoined 0 = .ok (.iconst 0, 1) := by decide +kernel
theorem dX1_pairsJoined_1 : decode cX1_pairsJoined 1 = .ok (.istore_n 2, 1) := by decide +kernel
theorem dX1_pairsJoined_2 : decode cX1_pairsJoined 2 = .ok (.iconst 0, 1) := by decide +kernel
theorem dX1_pairsJoined_3 : decode cX1_pairsJoined 3 = .ok (.istore_n 3, 1) := by decide +kernel
theorem dX1_pairsJoined_4 : decode cX1_pairsJoined 4 = .ok (.iload_n 3, 1) := by decide +kernel
theorem dX1_pairsJoined_5 : decode cX1_pairsJoined 5 = .ok (.aload_n 0, 1) := by decide +kernel
theorem dX1_pairsJoined_6 : decode cX1_pairsJoined 6 = .ok (.getfield 9, 3) := by decide +kernel
theorem dX1_pairsJoined_9 : decode cX1_pairsJoined 9 = .ok (.if_icmp .ge 23, 3) := by decide +kernel
theorem dX1_pairsJoined_12 : decode cX1_pairsJoined 12 = .ok (.iload_n 2, 1) := by decide +kernel
theorem dX1_pairsJoined_13 : decode cX1_pairsJoined 13 = .ok (.aload_n 0, 1) := by decide +kernel
theorem dX1_pairsJoined_14 : decode cX1_pairsJoined 14 = .ok (.iload_n 3, 1) := by decide +kernel
theorem dX1_pairsJoined_15 : decode cX1_pairsJoined 15 = .ok (.iload_n 1, 1) := by decide +kernel
theorem dX1_pairsJoined_16 : decode cX1_pairsJoined 16 = .ok (.invokevirtual 72, 3) := by decide +kernel
theorem dX1_pairsJoined_19 : decode cX1_pairsJoined 19 = .ok (.invokestatic 66, 3) := by decide +kernel
theorem dX1_pairsJoined_22 : decode cX1_pairsJoined 22 = .ok (.iconst 1, 1) := by decide +kernel
theorem dX1_pairsJoined_23 : decode cX1_pairsJoined 23 = .ok (.isub, 1) := by decide +kernel
theorem dX1_pairsJoined_24 : decode cX1_pairsJoined 24 = .ok (.iadd, 1) := by decide +kernel
theorem dX1_pairsJoined_25 : decode cX1_pairsJoined 25 = .ok (.istore_n 2, 1) := by decide +kernel
theorem dX1_pairsJoined_26 : decode cX1_pairsJoined 26 = .ok (.iinc 3 1, 3) := by decide +kernel
theorem dX1_pairsJoined_29 : decode cX1_pairsJoined 29 = .ok (.goto (-25), 3) := by decide +kernel
theorem dX1_pairsJoined_32 : decode cX1_pairsJoined 32 = .ok (.iload_n 2, 1) := by decide +kernel
theorem dX1_pairsJoined_33 : decode cX1_pairsJoined 33 = .ok (.ireturn, 1) := by decide +kernel
theorem dX2_init_0 : decode cX2_init 0 = .ok (.aload_n 0, 1) := by decide +kernel
theorem dX2_init_1 : decode cX2_init 1 = .ok (.invokespecial 1, 3) := by decide +kernel
theorem dX2_init_4 : decode cX2_init 4 = .ok (.aload_n 0, 1) := by decide +kernel
theorem dX2_init_5 : decode cX2_init 5 = .ok (.iconst 0, 1) := by decide +kernel
theorem dX2_init_6 : decode cX2_init 6 = .ok (.putfield 7, 3) := by decide +kernel
theorem dX2_init_9 : decode cX2_init 9 = .ok (.aload_n 0, 1) := by decide +kernel
theorem dX2_init_10 : decode cX2_init 10 = .ok (.iconst 0, 1) := by decide +kernel
theorem dX2_init_11 : decode cX2_init 11 = .ok (.putfield 13, 3) := by decide +kernel
theorem dX2_init_14 : decode cX2_init 14 = .ok (.aload_n 0, 1) := by decide +kernel
theorem dX2_init_15 : decode cX2_init 15 = .ok (.iconst 0, 1) := by decide +kernel
theorem dX2_init_16 : decode cX2_init 16 = .ok (.putfield 16, 3) := by decide +kernel
theorem dX2_init_19 : decode cX2_init 19 = .ok (.aload_n 0, 1) := by decide +kernel
theorem dX2_init_20 : decode cX2_init 20 = .ok (.iconst 0, 1) := by decide +kernel
theorem dX2_init_21 : decode cX2_init 21 = .ok (.putfield 19, 3) := by decide +kernel
theorem dX2_init_24 : decode cX2_init 24 = .ok (.aload_n 0, 1) := by decide +kernel
theorem dX2_init_25 : decode cX2_init 25 = .ok (.iconst 0, 1) := by decide +kernel
theorem dX2_init_26 : decode cX2_init 26 = .ok (.putfield 22, 3) := by decide +kernel
theorem dX2_init_29 : decode cX2_init 29 = .ok (.aload_n 0, 1) := by decide +kernel
theorem dX2_init_30 : decode cX2_init 30 = .ok (.iconst 0, 1) := by decide +kernel
theorem dX2_init_31 : decode cX2_init 31 = .ok (.putfield 25, 3) := by decide +kernel
theorem dX2_init_34 : decode cX2_init 34 = .ok (.aload_n 0, 1) := by decide +kernel
theorem dX2_init_35 : decode cX2_init 35 = .ok (.iconst 0, 1) := by decide +kernel
theorem dX2_init_36 : decode cX2_init 36 = .ok (.putfield 28, 3) := by decide +kernel
theorem dX2_init_39 : decode cX2_init 39 = .ok (.aload_n 0, 1) := by decide +kernel
theorem dX2_init_40 : decode cX2_init 40 = .ok (.iconst 0, 1) := by decide +kernel
theorem dX2_init_41 : decode cX2_init 41 = .ok (.putfield 31, 3) := by decide +kernel
theorem dX2_init_44 : decode cX2_init 44 = .ok (.aload_n 0, 1) := by decide +kernel
theorem dX2_init_45 : decode cX2_init 45 = .ok (.iconst 0, 1) := by decide +kernel
theorem dX2_init_46 : decode cX2_init 46 = .ok (.putfield 34, 3) := by decide +kernel
theorem dX2_init_49 : decode cX2_init 49 = .ok (.aload_n 0, 1) := by decide +kernel
theorem dX2_init_50 : decode cX2_init 50 = .ok (.aload_n 1, 1) := by decide +kernel
theorem dX2_init_51 : decode cX2_init 51 = .ok (.putfield 37, 3) := by decide +kernel
theorem dX2_init_54 : decode cX2_init 54 = .ok (.aload_n 0, 1) := by decide +kernel
theorem dX2_init_55 : decode cX2_init 55 = .ok (.aload_n 2, 1) := by decide +kernel
theorem dX2_init_56 : decode cX2_init 56 = .ok (.putfield 41, 3) := by decide +kernel
theorem dX2_init_59 : decode cX2_init 59 = .ok (.aload_n 0, 1) := by decide +kernel
theorem dX2_init_60 : decode cX2_init 60 = .ok (.aload_n 3, 1) := by decide +kernel
theorem dX2_init_61 : decode cX2_init 61 = .ok (.putfield 45, 3) := by decide +kernel
theorem dX2_init_64 : decode cX2_init 64 = .ok (.return_, 1) := by decide +kernel
theorem dX2_take_0 : decode cX2_take 0 = .ok (.aload_n 0, 1) := by decide +kernel
theorem dX2_take_1 : decode cX2_take 1 = .ok (.invokevirtual 49, 3) := by decide +kernel
theorem dX2_take_4 : decode cX2_take 4 = .ok (.iconst 0, 1) := by decide +kernel
theorem dX2_take_5 : decode cX2_take 5 = .ok (.istore_n 3, 1) := by decide +kernel
theorem dX2_take_6 : decode cX2_take 6 = .ok (.iload_n 3, 1) := by decide +kernel
theorem dX2_take_7 : decode cX2_take 7 = .ok (.aload_n 0, 1) := by decide +kernel
theorem dX2_take_8 : decode cX2_take 8 = .ok (.getfield 37, 3) := by decide +kernel
theorem dX2_take_11 : decode cX2_take 11 = .ok (.getfield 52, 3) := by decide +kernel
theorem dX2_take_14 : decode cX2_take 14 = .ok (.if_icmp .ge 45, 3) := by decide +kernel
theorem dX2_take_17 : decode cX2_take 17 = .ok (.iconst 0, 1) := by decide +kernel
theorem dX2_take_18 : decode cX2_take 18 = .ok (.istore 4, 2) := by decide +kernel
theorem dX2_take_20 : decode cX2_take 20 = .ok (.iload 4, 2) := by decide +kernel
theorem dX2_take_22 : decode cX2_take 22 = .ok (.aload_n 0, 1) := by decide +kernel
theorem dX2_take_23 : decode cX2_take 23 = .ok (.getfield 37, 3) := by decide +kernel
theorem dX2_take_26 : decode cX2_take 26 = .ok (.getfield 52, 3) := by decide +kernel
theorem dX2_take_29 : decode cX2_take 29 = .ok (.if_icmp .ge 24, 3) := by decide +kernel
theorem dX2_take_32 : decode cX2_take 32 = .ok (.iload_n 3, 1) := by decide +kernel
theorem dX2_take_33 : decode cX2_take 33 = .ok (.iload 4, 2) := by decide +kernel
theorem dX2_take_35 : decode cX2_take 35 = .ok (.if_icmp .eq 12, 3) := by decide +kernel
theorem dX2_take_38 : decode cX2_take 38 = .ok (.aload_n 0, 1) := by decide +kernel
theorem dX2_take_39 : decode cX2_take 39 = .ok (.iload_n 3, 1) := by decide +kernel
theorem dX2_take_40 : decode cX2_take 40 = .ok (.iload 4, 2) := by decide +kernel
theorem dX2_take_42 : decode cX2_take 42 = .ok (.iload_n 1, 1) := by decide +kernel
theorem dX2_take_43 : decode cX2_take 43 = .ok (.iload_n 2, 1) := by decide +kernel
theorem dX2_take_44 : decode cX2_take 44 = .ok (.invokevirtual 57, 3) := by decide +kernel
theorem dX2_take_47 : decode cX2_take 47 = .ok (.iinc 4 1, 3) := by decide +kernel
theorem dX2_take_50 : decode cX2_take 50 = .ok (.goto (-30), 3) := by decide +kernel
theorem dX2_take_53 : decode cX2_take 53 = .ok (.iinc 3 1, 3) := by decide +kernel
theorem dX2_take_56 : decode cX2_take 56 = .ok (.goto (-50), 3) := by decide +kernel
theorem dX2_take_59 : decode cX2_take 59 = .ok (.return_, 1) := by decide +kernel
theorem dX2_forget_0 : decode cX2_forget 0 = .ok (.aload_n 0, 1) := by decide +kernel
theorem dX2_forget_1 : decode cX2_forget 1 = .ok (.iconst 0, 1) := by decide +kernel
theorem dX2_forget_2 : decode cX2_forget 2 = .ok (.putfield 7, 3) := by decide +kernel
theorem dX2_forget_5 : decode cX2_forget 5 = .ok (.aload_n 0, 1) := by decide +kernel
theorem dX2_forget_6 : decode cX2_forget 6 = .ok (.iconst 0, 1) := by decide +kernel
theorem dX2_forget_7 : decode cX2_forget 7 = .ok (.putfield 13, 3) := by decide +kernel
theorem dX2_forget_10 : decode cX2_forget 10 = .ok (.aload_n 0, 1) := by decide +kernel
theorem dX2_forget_11 : decode cX2_forget 11 = .ok (.iconst 0, 1) := by decide +kernel
theorem dX2_forget_12 : decode cX2_forget 12 = .ok (.putfield 16, 3) := by decide +kernel
theorem dX2_forget_15 : decode cX2_forget 15 = .ok (.aload_n 0, 1) := by decide +kernel
theorem dX2_forget_16 : decode cX2_forget 16 = .ok (.iconst 0, 1) := by decide +kernel
theorem dX2_forget_17 : decode cX2_forget 17 = .ok (.putfield 19, 3) := by decide +kernel
theorem dX2_forget_20 : decode cX2_forget 20 = .ok (.aload_n 0, 1) := by decide +kernel
theorem dX2_forget_21 : decode cX2_forget 21 = .ok (.iconst 0, 1) := by decide +kernel
theorem dX2_forget_22 : decode cX2_forget 22 = .ok (.putfield 22, 3) := by decide +kernel
theorem dX2_forget_25 : decode cX2_forget 25 = .ok (.aload_n 0, 1) := by decide +kernel
theorem dX2_forget_26 : decode cX2_forget 26 = .ok (.iconst 0, 1) := by decide +kernel
theorem dX2_forget_27 : decode cX2_forget 27 = .ok (.putfield 25, 3) := by decide +kernel
theorem dX2_forget_30 : decode cX2_forget 30 = .ok (.aload_n 0, 1) := by decide +kernel
theorem dX2_forget_31 : decode cX2_forget 31 = .ok (.iconst 0, 1) := by decide +kernel
theorem dX2_forget_32 : decode cX2_forget 32 = .ok (.putfield 28, 3) := by decide +kernel
theorem dX2_forget_35 : decode cX2_forget 35 = .ok (.aload_n 0, 1) := by decide +kernel
theorem dX2_forget_36 : decode cX2_forget 36 = .ok (.iconst 0, 1) := by decide +kernel
theorem dX2_forget_37 : decode cX2_forget 37 = .ok (.putfield 31, 3) := by decide +kernel
theorem dX2_forget_40 : decode cX2_forget 40 = .ok (.aload_n 0, 1) := by decide +kernel
theorem dX2_forget_41 : decode cX2_forget 41 = .ok (.iconst 0, 1) := by decide +kernel
theorem dX2_forget_42 : decode cX2_forget 42 = .ok (.putfield 34, 3) := by decide +kernel
theorem dX2_forget_45 : decode cX2_forget 45 = .ok (.return_, 1) := by decide +kernel
theorem dX2_takePair_0 : decode cX2_takePair 0 = .ok (.aload_n 0, 1) := by decide +kernel
theorem dX2_takePair_1 : decode cX2_takePair 1 = .ok (.getfield 41, 3) := by decide +kernel
theorem dX2_takePair_4 : decode cX2_takePair 4 = .ok (.aload_n 0, 1) := by decide +kernel
theorem dX2_takePair_5 : decode cX2_takePair 5 = .ok (.getfield 37, 3) := by decide +kernel
theorem dX2_takePair_8 : decode cX2_takePair 8 = .ok (.getfield 61, 3) := by decide +kernel
theorem dX2_takePair_11 : decode cX2_takePair 11 = .ok (.iload_n 2, 1) := by decide +kernel
theorem dX2_takePair_12 : decode cX2_takePair 12 = .ok (.invokevirtual 64, 3) := by decide +kernel
theorem dX2_takePair_15 : decode cX2_takePair 15 = .ok (.aload_n 0, 1) := by decide +kernel
theorem dX2_takePair_16 : decode cX2_takePair 16 = .ok (.getfield 41, 3) := by decide +kernel
theorem dX2_takePair_19 : decode cX2_takePair 19 = .ok (.iload_n 1, 1) := by decide +kernel
theorem dX2_takePair_20 : decode cX2_takePair 20 = .ok (.invokevirtual 70, 3) := by decide +kernel
theorem dX2_takePair_23 : decode cX2_takePair 23 = .ok (.istore 5, 2) := by decide +kernel
theorem dX2_takePair_25 : decode cX2_takePair 25 = .ok (.aload_n 0, 1) := by decide +kernel
theorem dX2_takePair_26 : decode cX2_takePair 26 = .ok (.getfield 41, 3) := by decide +kernel
theorem dX2_takePair_29 : decode cX2_takePair 29 = .ok (.iload_n 1, 1) := by decide +kernel
theorem dX2_takePair_30 : decode cX2_takePair 30 = .ok (.invokevirtual 74, 3) := by decide +kernel
theorem dX2_takePair_33 : decode cX2_takePair 33 = .ok (.istore 6, 2) := by decide +kernel
theorem dX2_takePair_35 : decode cX2_takePair 35 = .ok (.aload_n 0, 1) := by decide +kernel
theorem dX2_takePair_36 : decode cX2_takePair 36 = .ok (.getfield 45, 3) := by decide +kernel
theorem dX2_takePair_39 : decode cX2_takePair 39 = .ok (.iload_n 1, 1) := by decide +kernel
theorem dX2_takePair_40 : decode cX2_takePair 40 = .ok (.iload_n 2, 1) := by decide +kernel
theorem dX2_takePair_41 : decode cX2_takePair 41 = .ok (.iload_n 3, 1) := by decide +kernel
theorem dX2_takePair_42 : decode cX2_takePair 42 = .ok (.iload 4, 2) := by decide +kernel
theorem dX2_takePair_44 : decode cX2_takePair 44 = .ok (.invokevirtual 78, 3) := by decide +kernel
theorem dX2_takePair_47 : decode cX2_takePair 47 = .ok (.aload_n 0, 1) := by decide +kernel
theorem dX2_takePair_48 : decode cX2_takePair 48 = .ok (.aload_n 0, 1) := by decide +kernel
theorem dX2_takePair_49 : decode cX2_takePair 49 = .ok (.getfield 25, 3) := by decide +kernel
theorem dX2_takePair_52 : decode cX2_takePair 52 = .ok (.aload_n 0, 1) := by decide +kernel
theorem dX2_takePair_53 : decode cX2_takePair 53 = .ok (.getfield 45, 3) := by decide +kernel
theorem dX2_takePair_56 : decode cX2_takePair 56 = .ok (.getfield 83, 3) := by decide +kernel
theorem dX2_takePair_59 : decode cX2_takePair 59 = .ok (.invokestatic 86, 3) := by decide +kernel
theorem dX2_takePair_62 : decode cX2_takePair 62 = .ok (.putfield 25, 3) := by decide +kernel
theorem dX2_takePair_65 : decode cX2_takePair 65 = .ok (.aload_n 0, 1) := by decide +kernel
theorem dX2_takePair_66 : decode cX2_takePair 66 = .ok (.aload_n 0, 1) := by decide +kernel
theorem dX2_takePair_67 : decode cX2_takePair 67 = .ok (.getfield 31, 3) := by decide +kernel
theorem dX2_takePair_70 : decode cX2_takePair 70 = .ok (.aload_n 0, 1) := by decide +kernel
theorem dX2_takePair_71 : decode cX2_takePair 71 = .ok (.getfield 45, 3) := by decide +kernel
theorem dX2_takePair_74 : decode cX2_takePair 74 = .ok (.getfield 92, 3) := by decide +kernel
theorem dX2_takePair_77 : decode cX2_takePair 77 = .ok (.invokestatic 86, 3) := by decide +kernel
theorem dX2_takePair_80 : decode cX2_takePair 80 = .ok (.putfield 31, 3) := by decide +kernel
theorem dX2_takePair_83 : decode cX2_takePair 83 = .ok (.iload 5, 2) := by decide +kernel
theorem dX2_takePair_85 : decode cX2_takePair 85 = .ok (.ifCond .eq 13, 3) := by decide +kernel
theorem dX2_takePair_88 : decode cX2_takePair 88 = .ok (.aload_n 0, 1) := by decide +kernel
theorem dX2_takePair_89 : decode cX2_takePair 89 = .ok (.dup, 1) := by decide +kernel
theorem dX2_takePair_90 : decode cX2_takePair 90 = .ok (.getfield 7, 3) := by decide +kernel
theorem dX2_takePair_93 : decode cX2_takePair 93 = .ok (.iconst 1, 1) := by decide +kernel
theorem dX2_takePair_94 : decode cX2_takePair 94 = .ok (.iadd, 1) := by decide +kernel
theorem dX2_takePair_95 : decode cX2_takePair 95 = .ok (.putfield 7, 3) := by decide +kernel
theorem dX2_takePair_98 : decode cX2_takePair 98 = .ok (.aload_n 0, 1) := by decide +kernel
theorem dX2_takePair_99 : decode cX2_takePair 99 = .ok (.getfield 45, 3) := by decide +kernel
theorem dX2_takePair_102 : decode cX2_takePair 102 = .ok (.invokevirtual 95, 3) := by decide +kernel
theorem dX2_takePair_105 : decode cX2_takePair 105 = .ok (.ifCond .eq 12, 3) := by decide +kernel
theorem dX2_takePair_108 : decode cX2_takePair 108 = .ok (.aload_n 0, 1) := by decide +kernel
theorem dX2_takePair_109 : decode cX2_takePair 109 = .ok (.iload 6, 2) := by decide +kernel
theorem dX2_takePair_111 : decode cX2_takePair 111 = .ok (.invokevirtual 99, 3) := by decide +kernel
theorem dX2_takePair_114 : decode cX2_takePair 114 = .ok (.goto 18, 3) := by decide +kernel
theorem dX2_takePair_117 : decode cX2_takePair 117 = .ok (.iload 5, 2) := by decide +kernel
theorem dX2_takePair_119 : decode cX2_takePair 119 = .ok (.ifCond .eq 13, 3) := by decide +kernel
theorem dX2_takePair_122 : decode cX2_takePair 122 = .ok (.aload_n 0, 1) := by decide +kernel
theorem dX2_takePair_123 : decode cX2_takePair 123 = .ok (.dup, 1) := by decide +kernel
theorem dX2_takePair_124 : decode cX2_takePair 124 = .ok (.getfield 16, 3) := by decide +kernel
theorem dX2_takePair_127 : decode cX2_takePair 127 = .ok (.iconst 1, 1) := by decide +kernel
theorem dX2_takePair_128 : decode cX2_takePair 128 = .ok (.iadd, 1) := by decide +kernel
theorem dX2_takePair_129 : decode cX2_takePair 129 = .ok (.putfield 16, 3) := by decide +kernel
theorem dX2_takePair_132 : decode cX2_takePair 132 = .ok (.return_, 1) := by decide +kernel
theorem dX2_countArrived_0 : decode cX2_countArrived 0 = .ok (.aload_n 0, 1) := by decide +kernel
theorem dX2_countArrived_1 : decode cX2_countArrived 1 = .ok (.dup, 1) := by decide +kernel
theorem dX2_countArrived_2 : decode cX2_countArrived 2 = .ok (.getfield 13, 3) := by decide +kernel
theorem dX2_countArrived_5 : decode cX2_countArrived 5 = .ok (.iconst 1, 1) := by decide +kernel
theorem dX2_countArrived_6 : decode cX2_countArrived 6 = .ok (.iadd, 1) := by decide +kernel
theorem dX2_countArrived_7 : decode cX2_countArrived 7 = .ok (.putfield 13, 3) := by decide +kernel
theorem dX2_countArrived_10 : decode cX2_countArrived 10 = .ok (.aload_n 0, 1) := by decide +kernel
theorem dX2_countArrived_11 : decode cX2_countArrived 11 = .ok (.dup, 1) := by decide +kernel
theorem dX2_countArrived_12 : decode cX2_countArrived 12 = .ok (.getfield 19, 3) := by decide +kernel
theorem dX2_countArrived_15 : decode cX2_countArrived 15 = .ok (.aload_n 0, 1) := by decide +kernel
theorem dX2_countArrived_16 : decode cX2_countArrived 16 = .ok (.getfield 45, 3) := by decide +kernel
theorem dX2_countArrived_19 : decode cX2_countArrived 19 = .ok (.getfield 103, 3) := by decide +kernel
theorem dX2_countArrived_22 : decode cX2_countArrived 22 = .ok (.iadd, 1) := by decide +kernel
theorem dX2_countArrived_23 : decode cX2_countArrived 23 = .ok (.putfield 19, 3) := by decide +kernel
theorem dX2_countArrived_26 : decode cX2_countArrived 26 = .ok (.aload_n 0, 1) := by decide +kernel
theorem dX2_countArrived_27 : decode cX2_countArrived 27 = .ok (.dup, 1) := by decide +kernel
theorem dX2_countArrived_28 : decode cX2_countArrived 28 = .ok (.getfield 22, 3) := by decide +kernel
theorem dX2_countArrived_31 : decode cX2_countArrived 31 = .ok (.iload_n 1, 1) := by decide +kernel
theorem dX2_countArrived_32 : decode cX2_countArrived 32 = .ok (.iadd, 1) := by decide +kernel
theorem dX2_countArrived_33 : decode cX2_countArrived 33 = .ok (.putfield 22, 3) := by decide +kernel
theorem dX2_countArrived_36 : decode cX2_countArrived 36 = .ok (.aload_n 0, 1) := by decide +kernel
theorem dX2_countArrived_37 : decode cX2_countArrived 37 = .ok (.aload_n 0, 1) := by decide +kernel
theorem dX2_countArrived_38 : decode cX2_countArrived 38 = .ok (.getfield 28, 3) := by decide +kernel
theorem dX2_countArrived_41 : decode cX2_countArrived 41 = .ok (.aload_n 0, 1) := by decide +kernel
theorem dX2_countArrived_42 : decode cX2_countArrived 42 = .ok (.getfield 45, 3) := by decide +kernel
theorem dX2_countArrived_45 : decode cX2_countArrived 45 = .ok (.getfield 83, 3) := by decide +kernel
theorem dX2_countArrived_48 : decode cX2_countArrived 48 = .ok (.invokestatic 86, 3) := by decide +kernel
theorem dX2_countArrived_51 : decode cX2_countArrived 51 = .ok (.putfield 28, 3) := by decide +kernel
theorem dX2_countArrived_54 : decode cX2_countArrived 54 = .ok (.aload_n 0, 1) := by decide +kernel
theorem dX2_countArrived_55 : decode cX2_countArrived 55 = .ok (.getfield 45, 3) := by decide +kernel
theorem dX2_countArrived_58 : decode cX2_countArrived 58 = .ok (.getfield 103, 3) := by decide +kernel
theorem dX2_countArrived_61 : decode cX2_countArrived 61 = .ok (.iload_n 1, 1) := by decide +kernel
theorem dX2_countArrived_62 : decode cX2_countArrived 62 = .ok (.if_icmp .le 13, 3) := by decide +kernel
theorem dX2_countArrived_65 : decode cX2_countArrived 65 = .ok (.aload_n 0, 1) := by decide +kernel
theorem dX2_countArrived_66 : decode cX2_countArrived 66 = .ok (.dup, 1) := by decide +kernel
theorem dX2_countArrived_67 : decode cX2_countArrived 67 = .ok (.getfield 34, 3) := by decide +kernel
theorem dX2_countArrived_70 : decode cX2_countArrived 70 = .ok (.iconst 1, 1) := by decide +kernel
theorem dX2_countArrived_71 : decode cX2_countArrived 71 = .ok (.iadd, 1) := by decide +kernel
theorem dX2_countArrived_72 : decode cX2_countArrived 72 = .ok (.putfield 34, 3) := by decide +kernel
theorem dX2_countArrived_75 : decode cX2_countArrived 75 = .ok (.return_, 1) := by decide +kernel
theorem dX3_init_0 : decode cX3_init 0 = .ok (.aload_n 0, 1) := by decide +kernel
theorem dX3_init_1 : decode cX3_init 1 = .ok (.invokespecial 3, 3) := by decide +kernel
theorem dX3_init_4 : decode cX3_init 4 = .ok (.aload_n 0, 1) := by decide +kernel
theorem dX3_init_5 : decode cX3_init 5 = .ok (.bipush 80, 2) := by decide +kernel
theorem dX3_init_7 : decode cX3_init 7 = .ok (.newarray .int, 2) := by decide +kernel
theorem dX3_init_9 : decode cX3_init 9 = .ok (.putfield 9, 3) := by decide +kernel
theorem dX3_init_12 : decode cX3_init 12 = .ok (.aload_n 0, 1) := by decide +kernel
theorem dX3_init_13 : decode cX3_init 13 = .ok (.iconst 0, 1) := by decide +kernel
theorem dX3_init_14 : decode cX3_init 14 = .ok (.putfield 15, 3) := by decide +kernel
theorem dX3_init_17 : decode cX3_init 17 = .ok (.aload_n 0, 1) := by decide +kernel
theorem dX3_init_18 : decode cX3_init 18 = .ok (.bipush (-9), 2) := by decide +kernel
theorem dX3_init_20 : decode cX3_init 20 = .ok (.putfield 19, 3) := by decide +kernel
theorem dX3_init_23 : decode cX3_init 23 = .ok (.aload_n 0, 1) := by decide +kernel
theorem dX3_init_24 : decode cX3_init 24 = .ok (.iconst 0, 1) := by decide +kernel
theorem dX3_init_25 : decode cX3_init 25 = .ok (.putfield 22, 3) := by decide +kernel
theorem dX3_init_28 : decode cX3_init 28 = .ok (.aload_n 0, 1) := by decide +kernel
theorem dX3_init_29 : decode cX3_init 29 = .ok (.iconst 0, 1) := by decide +kernel
theorem dX3_init_30 : decode cX3_init 30 = .ok (.putfield 25, 3) := by decide +kernel
theorem dX3_init_33 : decode cX3_init 33 = .ok (.aload_n 0, 1) := by decide +kernel
theorem dX3_init_34 : decode cX3_init 34 = .ok (.iconst 5, 1) := by decide +kernel
theorem dX3_init_35 : decode cX3_init 35 = .ok (.putfield 28, 3) := by decide +kernel
theorem dX3_init_38 : decode cX3_init 38 = .ok (.aload_n 0, 1) := by decide +kernel
theorem dX3_init_39 : decode cX3_init 39 = .ok (.iconst 0, 1) := by decide +kernel
theorem dX3_init_40 : decode cX3_init 40 = .ok (.putfield 31, 3) := by decide +kernel
theorem dX3_init_43 : decode cX3_init 43 = .ok (.aload_n 0, 1) := by decide +kernel
theorem dX3_init_44 : decode cX3_init 44 = .ok (.iconst 0, 1) := by decide +kernel
theorem dX3_init_45 : decode cX3_init 45 = .ok (.putfield 34, 3) := by decide +kernel
theorem dX3_init_48 : decode cX3_init 48 = .ok (.aload_n 0, 1) := by decide +kernel
theorem dX3_init_49 : decode cX3_init 49 = .ok (.iconst 0, 1) := by decide +kernel
theorem dX3_init_50 : decode cX3_init 50 = .ok (.putfield 37, 3) := by decide +kernel
theorem dX3_init_53 : decode cX3_init 53 = .ok (.return_, 1) := by decide +kernel
theorem dX3_append_0 : decode cX3_append 0 = .ok (.aload_n 0, 1) := by decide +kernel
theorem dX3_append_1 : decode cX3_append 1 = .ok (.getfield 15, 3) := by decide +kernel
theorem dX3_append_4 : decode cX3_append 4 = .ok (.bipush 80, 2) := by decide +kernel
theorem dX3_append_6 : decode cX3_append 6 = .ok (.if_icmp .ge 23, 3) := by decide +kernel
theorem dX3_append_9 : decode cX3_append 9 = .ok (.aload_n 0, 1) := by decide +kernel
theorem dX3_append_10 : decode cX3_append 10 = .ok (.getfield 9, 3) := by decide +kernel
theorem dX3_append_13 : decode cX3_append 13 = .ok (.aload_n 0, 1) := by decide +kernel
theorem dX3_append_14 : decode cX3_append 14 = .ok (.getfield 15, 3) := by decide +kernel
theorem dX3_append_17 : decode cX3_append 17 = .ok (.iload_n 1, 1) := by decide +kernel
theorem dX3_append_18 : decode cX3_append 18 = .ok (.iastore, 1) := by decide +kernel
theorem dX3_append_19 : decode cX3_append 19 = .ok (.aload_n 0, 1) := by decide +kernel
theorem dX3_append_20 : decode cX3_append 20 = .ok (.dup, 1) := by decide +kernel
theorem dX3_append_21 : decode cX3_append 21 = .ok (.getfield 15, 3) := by decide +kernel
theorem dX3_append_24 : decode cX3_append 24 = .ok (.iconst 1, 1) := by decide +kernel
theorem dX3_append_25 : decode cX3_append 25 = .ok (.iadd, 1) := by decide +kernel
theorem dX3_append_26 : decode cX3_append 26 = .ok (.putfield 15, 3) := by decide +kernel
theorem dX3_append_29 : decode cX3_append 29 = .ok (.return_, 1) := by decide +kernel
theorem dX3_startReading_0 : decode cX3_startReading 0 = .ok (.aload_n 0, 1) := by decide +kernel
theorem dX3_startReading_1 : decode cX3_startReading 1 = .ok (.bipush (-9), 2) := by decide +kernel
theorem dX3_startReading_3 : decode cX3_startReading 3 = .ok (.putfield 19, 3) := by decide +kernel
theorem dX3_startReading_6 : decode cX3_startReading 6 = .ok (.aload_n 0, 1) := by decide +kernel
theorem dX3_startReading_7 : decode cX3_startReading 7 = .ok (.iconst 0, 1) := by decide +kernel
theorem dX3_startReading_8 : decode cX3_startReading 8 = .ok (.putfield 22, 3) := by decide +kernel
theorem dX3_startReading_11 : decode cX3_startReading 11 = .ok (.aload_n 0, 1) := by decide +kernel
theorem dX3_startReading_12 : decode cX3_startReading 12 = .ok (.iconst 0, 1) := by decide +kernel
theorem dX3_startReading_13 : decode cX3_startReading 13 = .ok (.putfield 25, 3) := by decide +kernel
theorem dX3_startReading_16 : decode cX3_startReading 16 = .ok (.return_, 1) := by decide +kernel
theorem dX3_readCommand_0 : decode cX3_readCommand 0 = .ok (.aload_n 0, 1) := by decide +kernel
theorem dX3_readCommand_1 : decode cX3_readCommand 1 = .ok (.invokevirtual 40, 3) := by decide +kernel
theorem dX3_readCommand_4 : decode cX3_readCommand 4 = .ok (.aload_n 0, 1) := by decide +kernel
theorem dX3_readCommand_5 : decode cX3_readCommand 5 = .ok (.getfield 22, 3) := by decide +kernel
theorem dX3_readCommand_8 : decode cX3_readCommand 8 = .ok (.aload_n 0, 1) := by decide +kernel
theorem dX3_readCommand_9 : decode cX3_readCommand 9 = .ok (.getfield 25, 3) := by decide +kernel
theorem dX3_readCommand_12 : decode cX3_readCommand 12 = .ok (.if_icmp .ne 5, 3) := by decide +kernel
theorem dX3_readCommand_15 : decode cX3_readCommand 15 = .ok (.iconst 0, 1) := by decide +kernel
theorem dX3_readCommand_16 : decode cX3_readCommand 16 = .ok (.ireturn, 1) := by decide +kernel
theorem dX3_readCommand_17 : decode cX3_readCommand 17 = .ok (.aload_n 0, 1) := by decide +kernel
theorem dX3_readCommand_18 : decode cX3_readCommand 18 = .ok (.aload_n 0, 1) := by decide +kernel
theorem dX3_readCommand_19 : decode cX3_readCommand 19 = .ok (.invokevirtual 43, 3) := by decide +kernel
theorem dX3_readCommand_22 : decode cX3_readCommand 22 = .ok (.putfield 28, 3) := by decide +kernel
theorem dX3_readCommand_25 : decode cX3_readCommand 25 = .ok (.aload_n 0, 1) := by decide +kernel
theorem dX3_readCommand_26 : decode cX3_readCommand 26 = .ok (.getfield 28, 3) := by decide +kernel
theorem dX3_readCommand_29 : decode cX3_readCommand 29 = .ok (.lookupswitch 74 #[(0, 35), (4, 57), (5, 64)], 35) := by decide +kernel
theorem dX3_readCommand_64 : decode cX3_readCommand 64 = .ok (.aload_n 0, 1) := by decide +kernel
theorem dX3_readCommand_65 : decode cX3_readCommand 65 = .ok (.invokevirtual 47, 3) := by decide +kernel
theorem dX3_readCommand_68 : decode cX3_readCommand 68 = .ok (.ifCond .eq 16, 3) := by decide +kernel
theorem dX3_readCommand_71 : decode cX3_readCommand 71 = .ok (.aload_n 0, 1) := by decide +kernel
theorem dX3_readCommand_72 : decode cX3_readCommand 72 = .ok (.bipush 49, 2) := by decide +kernel
theorem dX3_readCommand_74 : decode cX3_readCommand 74 = .ok (.invokevirtual 51, 3) := by decide +kernel
theorem dX3_readCommand_77 : decode cX3_readCommand 77 = .ok (.ifCond .eq 7, 3) := by decide +kernel
theorem dX3_readCommand_80 : decode cX3_readCommand 80 = .ok (.iconst 1, 1) := by decide +kernel
theorem dX3_readCommand_81 : decode cX3_readCommand 81 = .ok (.goto 4, 3) := by decide +kernel
theorem dX3_readCommand_84 : decode cX3_readCommand 84 = .ok (.iconst 0, 1) := by decide +kernel
theorem dX3_readCommand_85 : decode cX3_readCommand 85 = .ok (.ireturn, 1) := by decide +kernel
theorem dX3_readCommand_86 : decode cX3_readCommand 86 = .ok (.aload_n 0, 1) := by decide +kernel
theorem dX3_readCommand_87 : decode cX3_readCommand 87 = .ok (.bipush 50, 2) := by decide +kernel
theorem dX3_readCommand_89 : decode cX3_readCommand 89 = .ok (.invokevirtual 51, 3) := by decide +kernel
theorem dX3_readCommand_92 : decode cX3_readCommand 92 = .ok (.ireturn, 1) := by decide +kernel
theorem dX3_readCommand_93 : decode cX3_readCommand 93 = .ok (.aload_n 0, 1) := by decide +kernel
theorem dX3_readCommand_94 : decode cX3_readCommand 94 = .ok (.aload_n 0, 1) := by decide +kernel
theorem dX3_readCommand_95 : decode cX3_readCommand 95 = .ok (.getfield 22, 3) := by decide +kernel
theorem dX3_readCommand_98 : decode cX3_readCommand 98 = .ok (.putfield 19, 3) := by decide +kernel
theorem dX3_readCommand_101 : decode cX3_readCommand 101 = .ok (.iconst 0, 1) := by decide +kernel
theorem dX3_readCommand_102 : decode cX3_readCommand 102 = .ok (.ireturn, 1) := by decide +kernel
theorem dX3_readCommand_103 : decode cX3_readCommand 103 = .ok (.aload_n 0, 1) := by decide +kernel
theorem dX3_readCommand_104 : decode cX3_readCommand 104 = .ok (.invokevirtual 47, 3) := by decide +kernel
theorem dX3_readCommand_107 : decode cX3_readCommand 107 = .ok (.ireturn, 1) := by decide +kernel
theorem dX3_takeWord_0 : decode cX3_takeWord 0 = .ok (.aload_n 0, 1) := by decide +kernel
theorem dX3_takeWord_1 : decode cX3_takeWord 1 = .ok (.aload_n 0, 1) := by decide +kernel
theorem dX3_takeWord_2 : decode cX3_takeWord 2 = .ok (.getfield 25, 3) := by decide +kernel
theorem dX3_takeWord_5 : decode cX3_takeWord 5 = .ok (.putfield 22, 3) := by decide +kernel
theorem dX3_takeWord_8 : decode cX3_takeWord 8 = .ok (.aload_n 0, 1) := by decide +kernel
theorem dX3_takeWord_9 : decode cX3_takeWord 9 = .ok (.getfield 22, 3) := by decide +kernel
theorem dX3_takeWord_12 : decode cX3_takeWord 12 = .ok (.aload_n 0, 1) := by decide +kernel
theorem dX3_takeWord_13 : decode cX3_takeWord 13 = .ok (.getfield 15, 3) := by decide +kernel
theorem dX3_takeWord_16 : decode cX3_takeWord 16 = .ok (.if_icmp .ge 30, 3) := by decide +kernel
theorem dX3_takeWord_19 : decode cX3_takeWord 19 = .ok (.aload_n 0, 1) := by decide +kernel
theorem dX3_takeWord_20 : decode cX3_takeWord 20 = .ok (.getfield 9, 3) := by decide +kernel
theorem dX3_takeWord_23 : decode cX3_takeWord 23 = .ok (.aload_n 0, 1) := by decide +kernel
theorem dX3_takeWord_24 : decode cX3_takeWord 24 = .ok (.getfield 22, 3) := by decide +kernel
theorem dX3_takeWord_27 : decode cX3_takeWord 27 = .ok (.iaload, 1) := by decide +kernel
theorem dX3_takeWord_28 : decode cX3_takeWord 28 = .ok (.bipush 32, 2) := by decide +kernel
theorem dX3_takeWord_30 : decode cX3_takeWord 30 = .ok (.if_icmp .ne 16, 3) := by decide +kernel
theorem dX3_takeWord_33 : decode cX3_takeWord 33 = .ok (.aload_n 0, 1) := by decide +kernel
theorem dX3_takeWord_34 : decode cX3_takeWord 34 = .ok (.dup, 1) := by decide +kernel
theorem dX3_takeWord_35 : decode cX3_takeWord 35 = .ok (.getfield 22, 3) := by decide +kernel
theorem dX3_takeWord_38 : decode cX3_takeWord 38 = .ok (.iconst 1, 1) := by decide +kernel
theorem dX3_takeWord_39 : decode cX3_takeWord 39 = .ok (.iadd, 1) := by decide +kernel
theorem dX3_takeWord_40 : decode cX3_takeWord 40 = .ok (.putfield 22, 3) := by decide +kernel
theorem dX3_takeWord_43 : decode cX3_takeWord 43 = .ok (.goto (-35), 3) := by decide +kernel
theorem dX3_takeWord_46 : decode cX3_takeWord 46 = .ok (.aload_n 0, 1) := by decide +kernel
theorem dX3_takeWord_47 : decode cX3_takeWord 47 = .ok (.aload_n 0, 1) := by decide +kernel
theorem dX3_takeWord_48 : decode cX3_takeWord 48 = .ok (.getfield 22, 3) := by decide +kernel
theorem dX3_takeWord_51 : decode cX3_takeWord 51 = .ok (.putfield 25, 3) := by decide +kernel
theorem dX3_takeWord_54 : decode cX3_takeWord 54 = .ok (.aload_n 0, 1) := by decide +kernel
theorem dX3_takeWord_55 : decode cX3_takeWord 55 = .ok (.getfield 25, 3) := by decide +kernel
theorem dX3_takeWord_58 : decode cX3_takeWord 58 = .ok (.aload_n 0, 1) := by decide +kernel
theorem dX3_takeWord_59 : decode cX3_takeWord 59 = .ok (.getfield 15, 3) := by decide +kernel
theorem dX3_takeWord_62 : decode cX3_takeWord 62 = .ok (.if_icmp .ge 30, 3) := by decide +kernel
theorem dX3_takeWord_65 : decode cX3_takeWord 65 = .ok (.aload_n 0, 1) := by decide +kernel
theorem dX3_takeWord_66 : decode cX3_takeWord 66 = .ok (.getfield 9, 3) := by decide +kernel
theorem dX3_takeWord_69 : decode cX3_takeWord 69 = .ok (.aload_n 0, 1) := by decide +kernel
theorem dX3_takeWord_70 : decode cX3_takeWord 70 = .ok (.getfield 25, 3) := by decide +kernel
theorem dX3_takeWord_73 : decode cX3_takeWord 73 = .ok (.iaload, 1) := by decide +kernel
theorem dX3_takeWord_74 : decode cX3_takeWord 74 = .ok (.bipush 32, 2) := by decide +kernel
theorem dX3_takeWord_76 : decode cX3_takeWord 76 = .ok (.if_icmp .eq 16, 3) := by decide +kernel
theorem dX3_takeWord_79 : decode cX3_takeWord 79 = .ok (.aload_n 0, 1) := by decide +kernel
theorem dX3_takeWord_80 : decode cX3_takeWord 80 = .ok (.dup, 1) := by decide +kernel
theorem dX3_takeWord_81 : decode cX3_takeWord 81 = .ok (.getfield 25, 3) := by decide +kernel
theorem dX3_takeWord_84 : decode cX3_takeWord 84 = .ok (.iconst 1, 1) := by decide +kernel
theorem dX3_takeWord_85 : decode cX3_takeWord 85 = .ok (.iadd, 1) := by decide +kernel
theorem dX3_takeWord_86 : decode cX3_takeWord 86 = .ok (.putfield 25, 3) := by decide +kernel
theorem dX3_takeWord_89 : decode cX3_takeWord 89 = .ok (.goto (-35), 3) := by decide +kernel
theorem dX3_takeWord_92 : decode cX3_takeWord 92 = .ok (.return_, 1) := by decide +kernel
theorem dX3_kindOfWord_0 : decode cX3_kindOfWord 0 = .ok (.aload_n 0, 1) := by decide +kernel
theorem dX3_kindOfWord_1 : decode cX3_kindOfWord 1 = .ok (.ldc 55, 2) := by decide +kernel
theorem dX3_kindOfWord_3 : decode cX3_kindOfWord 3 = .ok (.invokevirtual 57, 3) := by decide +kernel
theorem dX3_kindOfWord_6 : decode cX3_kindOfWord 6 = .ok (.ifCond .eq 5, 3) := by decide +kernel
theorem dX3_kindOfWord_9 : decode cX3_kindOfWord 9 = .ok (.iconst 0, 1) := by decide +kernel
theorem dX3_kindOfWord_10 : decode cX3_kindOfWord 10 = .ok (.ireturn, 1) := by decide +kernel
theorem dX3_kindOfWord_11 : decode cX3_kindOfWord 11 = .ok (.aload_n 0, 1) := by decide +kernel
theorem dX3_kindOfWord_12 : decode cX3_kindOfWord 12 = .ok (.ldc 61, 2) := by decide +kernel
theorem dX3_kindOfWord_14 : decode cX3_kindOfWord 14 = .ok (.invokevirtual 57, 3) := by decide +kernel
theorem dX3_kindOfWord_17 : decode cX3_kindOfWord 17 = .ok (.ifCond .eq 5, 3) := by decide +kernel
theorem dX3_kindOfWord_20 : decode cX3_kindOfWord 20 = .ok (.iconst 1, 1) := by decide +kernel
theorem dX3_kindOfWord_21 : decode cX3_kindOfWord 21 = .ok (.ireturn, 1) := by decide +kernel
theorem dX3_kindOfWord_22 : decode cX3_kindOfWord 22 = .ok (.aload_n 0, 1) := by decide +kernel
theorem dX3_kindOfWord_23 : decode cX3_kindOfWord 23 = .ok (.ldc 63, 2) := by decide +kernel
theorem dX3_kindOfWord_25 : decode cX3_kindOfWord 25 = .ok (.invokevirtual 57, 3) := by decide +kernel
theorem dX3_kindOfWord_28 : decode cX3_kindOfWord 28 = .ok (.ifCond .eq 5, 3) := by decide +kernel
theorem dX3_kindOfWord_31 : decode cX3_kindOfWord 31 = .ok (.iconst 2, 1) := by decide +kernel
theorem dX3_kindOfWord_32 : decode cX3_kindOfWord 32 = .ok (.ireturn, 1) := by decide +kernel
theorem dX3_kindOfWord_33 : decode cX3_kindOfWord 33 = .ok (.aload_n 0, 1) := by decide +kernel
theorem dX3_kindOfWord_34 : decode cX3_kindOfWord 34 = .ok (.ldc 65, 2) := by decide +kernel
theorem dX3_kindOfWord_36 : decode cX3_kindOfWord 36 = .ok (.invokevirtual 57, 3) := by decide +kernel
theorem dX3_kindOfWord_39 : decode cX3_kindOfWord 39 = .ok (.ifCond .eq 5, 3) := by decide +kernel
theorem dX3_kindOfWord_42 : decode cX3_kindOfWord 42 = .ok (.iconst 3, 1) := by decide +kernel
theorem dX3_kindOfWord_43 : decode cX3_kindOfWord 43 = .ok (.ireturn, 1) := by decide +kernel
theorem dX3_kindOfWord_44 : decode cX3_kindOfWord 44 = .ok (.aload_n 0, 1) := by decide +kernel
theorem dX3_kindOfWord_45 : decode cX3_kindOfWord 45 = .ok (.ldc 67, 2) := by decide +kernel
theorem dX3_kindOfWord_47 : decode cX3_kindOfWord 47 = .ok (.invokevirtual 57, 3) := by decide +kernel
theorem dX3_kindOfWord_50 : decode cX3_kindOfWord 50 = .ok (.ifCond .eq 7, 3) := by decide +kernel
theorem dX3_kindOfWord_53 : decode cX3_kindOfWord 53 = .ok (.iconst 4, 1) := by decide +kernel
theorem dX3_kindOfWord_54 : decode cX3_kindOfWord 54 = .ok (.goto 4, 3) := by decide +kernel
theorem dX3_kindOfWord_57 : decode cX3_kindOfWord 57 = .ok (.iconst 5, 1) := by decide +kernel
theorem dX3_kindOfWord_58 : decode cX3_kindOfWord 58 = .ok (.ireturn, 1) := by decide +kernel
theorem dX3_wordIs_0 : decode cX3_wordIs 0 = .ok (.aload_n 0, 1) := by decide +kernel
theorem dX3_wordIs_1 : decode cX3_wordIs 1 = .ok (.getfield 25, 3) := by decide +kernel
theorem dX3_wordIs_4 : decode cX3_wordIs 4 = .ok (.aload_n 0, 1) := by decide +kernel
theorem dX3_wordIs_5 : decode cX3_wordIs 5 = .ok (.getfield 22, 3) := by decide +kernel
theorem dX3_wordIs_8 : decode cX3_wordIs 8 = .ok (.isub, 1) := by decide +kernel
theorem dX3_wordIs_9 : decode cX3_wordIs 9 = .ok (.aload_n 1, 1) := by decide +kernel
theorem dX3_wordIs_10 : decode cX3_wordIs 10 = .ok (.invokevirtual 68, 3) := by decide +kernel
theorem dX3_wordIs_13 : decode cX3_wordIs 13 = .ok (.if_icmp .eq 5, 3) := by decide +kernel
theorem dX3_wordIs_16 : decode cX3_wordIs 16 = .ok (.iconst 0, 1) := by decide +kernel
theorem dX3_wordIs_17 : decode cX3_wordIs 17 = .ok (.ireturn, 1) := by decide +kernel
theorem dX3_wordIs_18 : decode cX3_wordIs 18 = .ok (.iconst 0, 1) := by decide +kernel
theorem dX3_wordIs_19 : decode cX3_wordIs 19 = .ok (.istore_n 2, 1) := by decide +kernel
theorem dX3_wordIs_20 : decode cX3_wordIs 20 = .ok (.iload_n 2, 1) := by decide +kernel
theorem dX3_wordIs_21 : decode cX3_wordIs 21 = .ok (.aload_n 1, 1) := by decide +kernel
theorem dX3_wordIs_22 : decode cX3_wordIs 22 = .ok (.invokevirtual 68, 3) := by decide +kernel
theorem dX3_wordIs_25 : decode cX3_wordIs 25 = .ok (.if_icmp .ge 30, 3) := by decide +kernel
theorem dX3_wordIs_28 : decode cX3_wordIs 28 = .ok (.aload_n 0, 1) := by decide +kernel
theorem dX3_wordIs_29 : decode cX3_wordIs 29 = .ok (.getfield 9, 3) := by decide +kernel
theorem dX3_wordIs_32 : decode cX3_wordIs 32 = .ok (.aload_n 0, 1) := by decide +kernel
theorem dX3_wordIs_33 : decode cX3_wordIs 33 = .ok (.getfield 22, 3) := by decide +kernel
theorem dX3_wordIs_36 : decode cX3_wordIs 36 = .ok (.iload_n 2, 1) := by decide +kernel
theorem dX3_wordIs_37 : decode cX3_wordIs 37 = .ok (.iadd, 1) := by decide +kernel
theorem dX3_wordIs_38 : decode cX3_wordIs 38 = .ok (.iaload, 1) := by decide +kernel
theorem dX3_wordIs_39 : decode cX3_wordIs 39 = .ok (.aload_n 1, 1) := by decide +kernel
theorem dX3_wordIs_40 : decode cX3_wordIs 40 = .ok (.iload_n 2, 1) := by decide +kernel
theorem dX3_wordIs_41 : decode cX3_wordIs 41 = .ok (.invokevirtual 73, 3) := by decide +kernel
theorem dX3_wordIs_44 : decode cX3_wordIs 44 = .ok (.if_icmp .eq 5, 3) := by decide +kernel
theorem dX3_wordIs_47 : decode cX3_wordIs 47 = .ok (.iconst 0, 1) := by decide +kernel
theorem dX3_wordIs_48 : decode cX3_wordIs 48 = .ok (.ireturn, 1) := by decide +kernel
theorem dX3_wordIs_49 : decode cX3_wordIs 49 = .ok (.iinc 2 1, 3) := by decide +kernel
theorem dX3_wordIs_52 : decode cX3_wordIs 52 = .ok (.goto (-32), 3) := by decide +kernel
theorem dX3_wordIs_55 : decode cX3_wordIs 55 = .ok (.iconst 1, 1) := by decide +kernel
theorem dX3_wordIs_56 : decode cX3_wordIs 56 = .ok (.ireturn, 1) := by decide +kernel
theorem dX3_readNames_0 : decode cX3_readNames 0 = .ok (.aload_n 0, 1) := by decide +kernel
theorem dX3_readNames_1 : decode cX3_readNames 1 = .ok (.bipush 97, 2) := by decide +kernel
theorem dX3_readNames_3 : decode cX3_readNames 3 = .ok (.bipush 105, 2) := by decide +kernel
theorem dX3_readNames_5 : decode cX3_readNames 5 = .ok (.invokevirtual 77, 3) := by decide +kernel
theorem dX3_readNames_8 : decode cX3_readNames 8 = .ok (.ifCond .ne 5, 3) := by decide +kernel
theorem dX3_readNames_11 : decode cX3_readNames 11 = .ok (.iconst 0, 1) := by decide +kernel
theorem dX3_readNames_12 : decode cX3_readNames 12 = .ok (.ireturn, 1) := by decide +kernel
theorem dX3_readNames_13 : decode cX3_readNames 13 = .ok (.aload_n 0, 1) := by decide +kernel
theorem dX3_readNames_14 : decode cX3_readNames 14 = .ok (.aload_n 0, 1) := by decide +kernel
theorem dX3_readNames_15 : decode cX3_readNames 15 = .ok (.getfield 9, 3) := by decide +kernel
theorem dX3_readNames_18 : decode cX3_readNames 18 = .ok (.aload_n 0, 1) := by decide +kernel
theorem dX3_readNames_19 : decode cX3_readNames 19 = .ok (.getfield 22, 3) := by decide +kernel
theorem dX3_readNames_22 : decode cX3_readNames 22 = .ok (.iaload, 1) := by decide +kernel
theorem dX3_readNames_23 : decode cX3_readNames 23 = .ok (.bipush 97, 2) := by decide +kernel
theorem dX3_readNames_25 : decode cX3_readNames 25 = .ok (.isub, 1) := by decide +kernel
theorem dX3_readNames_26 : decode cX3_readNames 26 = .ok (.putfield 31, 3) := by decide +kernel
theorem dX3_readNames_29 : decode cX3_readNames 29 = .ok (.aload_n 0, 1) := by decide +kernel
theorem dX3_readNames_30 : decode cX3_readNames 30 = .ok (.bipush 97, 2) := by decide +kernel
theorem dX3_readNames_32 : decode cX3_readNames 32 = .ok (.bipush 105, 2) := by decide +kernel
theorem dX3_readNames_34 : decode cX3_readNames 34 = .ok (.invokevirtual 77, 3) := by decide +kernel
theorem dX3_readNames_37 : decode cX3_readNames 37 = .ok (.ifCond .ne 5, 3) := by decide +kernel
theorem dX3_readNames_40 : decode cX3_readNames 40 = .ok (.iconst 0, 1) := by decide +kernel
theorem dX3_readNames_41 : decode cX3_readNames 41 = .ok (.ireturn, 1) := by decide +kernel
theorem dX3_readNames_42 : decode cX3_readNames 42 = .ok (.aload_n 0, 1) := by decide +kernel
theorem dX3_readNames_43 : decode cX3_readNames 43 = .ok (.aload_n 0, 1) := by decide +kernel
theorem dX3_readNames_44 : decode cX3_readNames 44 = .ok (.getfield 9, 3) := by decide +kernel
theorem dX3_readNames_47 : decode cX3_readNames 47 = .ok (.aload_n 0, 1) := by decide +kernel
theorem dX3_readNames_48 : decode cX3_readNames 48 = .ok (.getfield 22, 3) := by decide +kernel
theorem dX3_readNames_51 : decode cX3_readNames 51 = .ok (.iaload, 1) := by decide +kernel
theorem dX3_readNames_52 : decode cX3_readNames 52 = .ok (.bipush 97, 2) := by decide +kernel
theorem dX3_readNames_54 : decode cX3_readNames 54 = .ok (.isub, 1) := by decide +kernel
theorem dX3_readNames_55 : decode cX3_readNames 55 = .ok (.putfield 34, 3) := by decide +kernel
theorem dX3_readNames_58 : decode cX3_readNames 58 = .ok (.iconst 1, 1) := by decide +kernel
theorem dX3_readNames_59 : decode cX3_readNames 59 = .ok (.ireturn, 1) := by decide +kernel
theorem dX3_readDigit_0 : decode cX3_readDigit 0 = .ok (.aload_n 0, 1) := by decide +kernel
theorem dX3_readDigit_1 : decode cX3_readDigit 1 = .ok (.iload_n 1, 1) := by decide +kernel
theorem dX3_readDigit_2 : decode cX3_readDigit 2 = .ok (.bipush 57, 2) := by decide +kernel
theorem dX3_readDigit_4 : decode cX3_readDigit 4 = .ok (.invokevirtual 77, 3) := by decide +kernel
theorem dX3_readDigit_7 : decode cX3_readDigit 7 = .ok (.ifCond .ne 5, 3) := by decide +kernel
theorem dX3_readDigit_10 : decode cX3_readDigit 10 = .ok (.iconst 0, 1) := by decide +kernel
theorem dX3_readDigit_11 : decode cX3_readDigit 11 = .ok (.ireturn, 1) := by decide +kernel
theorem dX3_readDigit_12 : decode cX3_readDigit 12 = .ok (.aload_n 0, 1) := by decide +kernel
theorem dX3_readDigit_13 : decode cX3_readDigit 13 = .ok (.aload_n 0, 1) := by decide +kernel
theorem dX3_readDigit_14 : decode cX3_readDigit 14 = .ok (.getfield 9, 3) := by decide +kernel
theorem dX3_readDigit_17 : decode cX3_readDigit 17 = .ok (.aload_n 0, 1) := by decide +kernel
theorem dX3_readDigit_18 : decode cX3_readDigit 18 = .ok (.getfield 22, 3) := by decide +kernel
theorem dX3_readDigit_21 : decode cX3_readDigit 21 = .ok (.iaload, 1) := by decide +kernel
theorem dX3_readDigit_22 : decode cX3_readDigit 22 = .ok (.bipush 48, 2) := by decide +kernel
theorem dX3_readDigit_24 : decode cX3_readDigit 24 = .ok (.isub, 1) := by decide +kernel
theorem dX3_readDigit_25 : decode cX3_readDigit 25 = .ok (.putfield 37, 3) := by decide +kernel
theorem dX3_readDigit_28 : decode cX3_readDigit 28 = .ok (.iconst 1, 1) := by decide +kernel
theorem dX3_readDigit_29 : decode cX3_readDigit 29 = .ok (.ireturn, 1) := by decide +kernel
theorem dX3_readSign_0 : decode cX3_readSign 0 = .ok (.aload_n 0, 1) := by decide +kernel
theorem dX3_readSign_1 : decode cX3_readSign 1 = .ok (.invokevirtual 40, 3) := by decide +kernel
theorem dX3_readSign_4 : decode cX3_readSign 4 = .ok (.aload_n 0, 1) := by decide +kernel
theorem dX3_readSign_5 : decode cX3_readSign 5 = .ok (.getfield 25, 3) := by decide +kernel
theorem dX3_readSign_8 : decode cX3_readSign 8 = .ok (.aload_n 0, 1) := by decide +kernel
theorem dX3_readSign_9 : decode cX3_readSign 9 = .ok (.getfield 22, 3) := by decide +kernel
theorem dX3_readSign_12 : decode cX3_readSign 12 = .ok (.isub, 1) := by decide +kernel
theorem dX3_readSign_13 : decode cX3_readSign 13 = .ok (.iconst 1, 1) := by decide +kernel
theorem dX3_readSign_14 : decode cX3_readSign 14 = .ok (.if_icmp .ne 31, 3) := by decide +kernel
theorem dX3_readSign_17 : decode cX3_readSign 17 = .ok (.aload_n 0, 1) := by decide +kernel
theorem dX3_readSign_18 : decode cX3_readSign 18 = .ok (.getfield 9, 3) := by decide +kernel
theorem dX3_readSign_21 : decode cX3_readSign 21 = .ok (.aload_n 0, 1) := by decide +kernel
theorem dX3_readSign_22 : decode cX3_readSign 22 = .ok (.getfield 22, 3) := by decide +kernel
theorem dX3_readSign_25 : decode cX3_readSign 25 = .ok (.iaload, 1) := by decide +kernel
theorem dX3_readSign_26 : decode cX3_readSign 26 = .ok (.iload_n 1, 1) := by decide +kernel
theorem dX3_readSign_27 : decode cX3_readSign 27 = .ok (.if_icmp .lt 18, 3) := by decide +kernel
theorem dX3_readSign_30 : decode cX3_readSign 30 = .ok (.aload_n 0, 1) := by decide +kernel
theorem dX3_readSign_31 : decode cX3_readSign 31 = .ok (.getfield 9, 3) := by decide +kernel
theorem dX3_readSign_34 : decode cX3_readSign 34 = .ok (.aload_n 0, 1) := by decide +kernel
theorem dX3_readSign_35 : decode cX3_readSign 35 = .ok (.getfield 22, 3) := by decide +kernel
theorem dX3_readSign_38 : decode cX3_readSign 38 = .ok (.iaload, 1) := by decide +kernel
theorem dX3_readSign_39 : decode cX3_readSign 39 = .ok (.iload_n 2, 1) := by decide +kernel
theorem dX3_readSign_40 : decode cX3_readSign 40 = .ok (.if_icmp .gt 5, 3) := by decide +kernel
theorem dX3_readSign_43 : decode cX3_readSign 43 = .ok (.iconst 1, 1) := by decide +kernel
theorem dX3_readSign_44 : decode cX3_readSign 44 = .ok (.ireturn, 1) := by decide +kernel
theorem dX3_readSign_45 : decode cX3_readSign 45 = .ok (.aload_n 0, 1) := by decide +kernel
theorem dX3_readSign_46 : decode cX3_readSign 46 = .ok (.aload_n 0, 1) := by decide +kernel
theorem dX3_readSign_47 : decode cX3_readSign 47 = .ok (.getfield 22, 3) := by decide +kernel
theorem dX3_readSign_50 : decode cX3_readSign 50 = .ok (.putfield 19, 3) := by decide +kernel
theorem dX3_readSign_53 : decode cX3_readSign 53 = .ok (.iconst 0, 1) := by decide +kernel
theorem dX3_readSign_54 : decode cX3_readSign 54 = .ok (.ireturn, 1) := by decide +kernel
theorem dX3_carryOut_0 : decode cX3_carryOut 0 = .ok (.aload_n 0, 1) := by decide +kernel
theorem dX3_carryOut_1 : decode cX3_carryOut 1 = .ok (.getfield 28, 3) := by decide +kernel
theorem dX3_carryOut_4 : decode cX3_carryOut 4 = .ok (.iconst 4, 1) := by decide +kernel
theorem dX3_carryOut_5 : decode cX3_carryOut 5 = .ok (.if_icmp .ne 13, 3) := by decide +kernel
theorem dX3_carryOut_8 : decode cX3_carryOut 8 = .ok (.aload_n 1, 1) := by decide +kernel
theorem dX3_carryOut_9 : decode cX3_carryOut 9 = .ok (.aload_n 0, 1) := by decide +kernel
theorem dX3_carryOut_10 : decode cX3_carryOut 10 = .ok (.getfield 37, 3) := by decide +kernel
theorem dX3_carryOut_13 : decode cX3_carryOut 13 = .ok (.invokevirtual 81, 3) := by decide +kernel
theorem dX3_carryOut_16 : decode cX3_carryOut 16 = .ok (.iconst 1, 1) := by decide +kernel
theorem dX3_carryOut_17 : decode cX3_carryOut 17 = .ok (.ireturn, 1) := by decide +kernel
theorem dX3_carryOut_18 : decode cX3_carryOut 18 = .ok (.aload_n 0, 1) := by decide +kernel
theorem dX3_carryOut_19 : decode cX3_carryOut 19 = .ok (.getfield 28, 3) := by decide +kernel
theorem dX3_carryOut_22 : decode cX3_carryOut 22 = .ok (.ifCond .ne 42, 3) := by decide +kernel
theorem dX3_carryOut_25 : decode cX3_carryOut 25 = .ok (.aload_n 1, 1) := by decide +kernel
theorem dX3_carryOut_26 : decode cX3_carryOut 26 = .ok (.aload_n 0, 1) := by decide +kernel
theorem dX3_carryOut_27 : decode cX3_carryOut 27 = .ok (.getfield 31, 3) := by decide +kernel
theorem dX3_carryOut_30 : decode cX3_carryOut 30 = .ok (.aload_n 0, 1) := by decide +kernel
theorem dX3_carryOut_31 : decode cX3_carryOut 31 = .ok (.getfield 34, 3) := by decide +kernel
theorem dX3_carryOut_34 : decode cX3_carryOut 34 = .ok (.aload_n 0, 1) := by decide +kernel
theorem dX3_carryOut_35 : decode cX3_carryOut 35 = .ok (.getfield 37, 3) := by decide +kernel
theorem dX3_carryOut_38 : decode cX3_carryOut 38 = .ok (.invokevirtual 87, 3) := by decide +kernel
theorem dX3_carryOut_41 : decode cX3_carryOut 41 = .ok (.ifCond .eq 5, 3) := by decide +kernel
theorem dX3_carryOut_44 : decode cX3_carryOut 44 = .ok (.iconst 0, 1) := by decide +kernel
theorem dX3_carryOut_45 : decode cX3_carryOut 45 = .ok (.ireturn, 1) := by decide +kernel
theorem dX3_carryOut_46 : decode cX3_carryOut 46 = .ok (.aload_n 1, 1) := by decide +kernel
theorem dX3_carryOut_47 : decode cX3_carryOut 47 = .ok (.aload_n 0, 1) := by decide +kernel
theorem dX3_carryOut_48 : decode cX3_carryOut 48 = .ok (.getfield 31, 3) := by decide +kernel
theorem dX3_carryOut_51 : decode cX3_carryOut 51 = .ok (.aload_n 0, 1) := by decide +kernel
theorem dX3_carryOut_52 : decode cX3_carryOut 52 = .ok (.getfield 34, 3) := by decide +kernel
theorem dX3_carryOut_55 : decode cX3_carryOut 55 = .ok (.aload_n 0, 1) := by decide +kernel
theorem dX3_carryOut_56 : decode cX3_carryOut 56 = .ok (.getfield 37, 3) := by decide +kernel
theorem dX3_carryOut_59 : decode cX3_carryOut 59 = .ok (.invokevirtual 91, 3) := by decide +kernel
theorem dX3_carryOut_62 : decode cX3_carryOut 62 = .ok (.iconst 1, 1) := by decide +kernel
theorem dX3_carryOut_63 : decode cX3_carryOut 63 = .ok (.ireturn, 1) := by decide +kernel
theorem dX3_carryOut_64 : decode cX3_carryOut 64 = .ok (.aload_n 1, 1) := by decide +kernel
theorem dX3_carryOut_65 : decode cX3_carryOut 65 = .ok (.aload_n 0, 1) := by decide +kernel
theorem dX3_carryOut_66 : decode cX3_carryOut 66 = .ok (.getfield 31, 3) := by decide +kernel
theorem dX3_carryOut_69 : decode cX3_carryOut 69 = .ok (.aload_n 0, 1) := by decide +kernel
theorem dX3_carryOut_70 : decode cX3_carryOut 70 = .ok (.getfield 34, 3) := by decide +kernel
theorem dX3_carryOut_73 : decode cX3_carryOut 73 = .ok (.invokevirtual 95, 3) := by decide +kernel
theorem dX3_carryOut_76 : decode cX3_carryOut 76 = .ok (.istore_n 2, 1) := by decide +kernel
theorem dX3_carryOut_77 : decode cX3_carryOut 77 = .ok (.iload_n 2, 1) := by decide +kernel
theorem dX3_carryOut_78 : decode cX3_carryOut 78 = .ok (.iconst (-1), 1) := by decide +kernel
theorem dX3_carryOut_79 : decode cX3_carryOut 79 = .ok (.if_icmp .ne 5, 3) := by decide +kernel
theorem dX3_carryOut_82 : decode cX3_carryOut 82 = .ok (.iconst 0, 1) := by decide +kernel
theorem dX3_carryOut_83 : decode cX3_carryOut 83 = .ok (.ireturn, 1) := by decide +kernel
theorem dX3_carryOut_84 : decode cX3_carryOut 84 = .ok (.aload_n 0, 1) := by decide +kernel
theorem dX3_carryOut_85 : decode cX3_carryOut 85 = .ok (.aload_n 1, 1) := by decide +kernel
theorem dX3_carryOut_86 : decode cX3_carryOut 86 = .ok (.iload_n 2, 1) := by decide +kernel
theorem dX3_carryOut_87 : decode cX3_carryOut 87 = .ok (.invokevirtual 99, 3) := by decide +kernel
theorem dX3_carryOut_90 : decode cX3_carryOut 90 = .ok (.iconst 1, 1) := by decide +kernel
theorem dX3_carryOut_91 : decode cX3_carryOut 91 = .ok (.ireturn, 1) := by decide +kernel
theorem dX3_changeLink_0 : decode cX3_changeLink 0 = .ok (.aload_n 0, 1) := by decide +kernel
theorem dX3_changeLink_1 : decode cX3_changeLink 1 = .ok (.getfield 28, 3) := by decide +kernel
theorem dX3_changeLink_4 : decode cX3_changeLink 4 = .ok (.iconst 1, 1) := by decide +kernel
theorem dX3_changeLink_5 : decode cX3_changeLink 5 = .ok (.if_icmp .ne 19, 3) := by decide +kernel
theorem dX3_changeLink_8 : decode cX3_changeLink 8 = .ok (.aload_n 1, 1) := by decide +kernel
theorem dX3_changeLink_9 : decode cX3_changeLink 9 = .ok (.aload_n 1, 1) := by decide +kernel
theorem dX3_changeLink_10 : decode cX3_changeLink 10 = .ok (.getfield 103, 3) := by decide +kernel
theorem dX3_changeLink_13 : decode cX3_changeLink 13 = .ok (.iload_n 2, 1) := by decide +kernel
theorem dX3_changeLink_14 : decode cX3_changeLink 14 = .ok (.iconst 0, 1) := by decide +kernel
theorem dX3_changeLink_15 : decode cX3_changeLink 15 = .ok (.invokestatic 106, 3) := by decide +kernel
theorem dX3_changeLink_18 : decode cX3_changeLink 18 = .ok (.putfield 103, 3) := by decide +kernel
theorem dX3_changeLink_21 : decode cX3_changeLink 21 = .ok (.goto 47, 3) := by decide +kernel
theorem dX3_changeLink_24 : decode cX3_changeLink 24 = .ok (.aload_n 0, 1) := by decide +kernel
theorem dX3_changeLink_25 : decode cX3_changeLink 25 = .ok (.getfield 28, 3) := by decide +kernel
theorem dX3_changeLink_28 : decode cX3_changeLink 28 = .ok (.iconst 2, 1) := by decide +kernel
theorem dX3_changeLink_29 : decode cX3_changeLink 29 = .ok (.if_icmp .ne 19, 3) := by decide +kernel
theorem dX3_changeLink_32 : decode cX3_changeLink 32 = .ok (.aload_n 1, 1) := by decide +kernel
theorem dX3_changeLink_33 : decode cX3_changeLink 33 = .ok (.aload_n 1, 1) := by decide +kernel
theorem dX3_changeLink_34 : decode cX3_changeLink 34 = .ok (.getfield 103, 3) := by decide +kernel
theorem dX3_changeLink_37 : decode cX3_changeLink 37 = .ok (.iload_n 2, 1) := by decide +kernel
theorem dX3_changeLink_38 : decode cX3_changeLink 38 = .ok (.iconst 1, 1) := by decide +kernel
theorem dX3_changeLink_39 : decode cX3_changeLink 39 = .ok (.invokestatic 106, 3) := by decide +kernel
theorem dX3_changeLink_42 : decode cX3_changeLink 42 = .ok (.putfield 103, 3) := by decide +kernel
theorem dX3_changeLink_45 : decode cX3_changeLink 45 = .ok (.goto 23, 3) := by decide +kernel
theorem dX3_changeLink_48 : decode cX3_changeLink 48 = .ok (.aload_n 1, 1) := by decide +kernel
theorem dX3_changeLink_49 : decode cX3_changeLink 49 = .ok (.aload_n 1, 1) := by decide +kernel
theorem dX3_changeLink_50 : decode cX3_changeLink 50 = .ok (.getfield 109, 3) := by decide +kernel
theorem dX3_changeLink_53 : decode cX3_changeLink 53 = .ok (.iload_n 2, 1) := by decide +kernel
theorem dX3_changeLink_54 : decode cX3_changeLink 54 = .ok (.aload_n 1, 1) := by decide +kernel
theorem dX3_changeLink_55 : decode cX3_changeLink 55 = .ok (.getfield 103, 3) := by decide +kernel
theorem dX3_changeLink_58 : decode cX3_changeLink 58 = .ok (.iload_n 2, 1) := by decide +kernel
theorem dX3_changeLink_59 : decode cX3_changeLink 59 = .ok (.invokestatic 112, 3) := by decide +kernel
theorem dX3_changeLink_62 : decode cX3_changeLink 62 = .ok (.invokestatic 106, 3) := by decide +kernel
theorem dX3_changeLink_65 : decode cX3_changeLink 65 = .ok (.putfield 109, 3) := by decide +kernel
theorem dX3_changeLink_68 : decode cX3_changeLink 68 = .ok (.return_, 1) := by decide +kernel
theorem dX4_init_0 : decode cX4_init 0 = .ok (.aload_n 0, 1) := by decide +kernel
theorem dX4_init_1 : decode cX4_init 1 = .ok (.invokespecial 3, 3) := by decide +kernel
theorem dX4_init_4 : decode cX4_init 4 = .ok (.aload_n 0, 1) := by decide +kernel
theorem dX4_init_5 : decode cX4_init 5 = .ok (.bipush 9, 2) := by decide +kernel
theorem dX4_init_7 : decode cX4_init 7 = .ok (.newarray .int, 2) := by decide +kernel
theorem dX4_init_9 : decode cX4_init 9 = .ok (.putfield 9, 3) := by decide +kernel
theorem dX4_init_12 : decode cX4_init 12 = .ok (.aload_n 0, 1) := by decide +kernel
theorem dX4_init_13 : decode cX4_init 13 = .ok (.iconst 0, 1) := by decide +kernel
theorem dX4_init_14 : decode cX4_init 14 = .ok (.putfield 15, 3) := by decide +kernel
theorem dX4_init_17 : decode cX4_init 17 = .ok (.aload_n 0, 1) := by decide +kernel
theorem dX4_init_18 : decode cX4_init 18 = .ok (.aload_n 1, 1) := by decide +kernel
theorem dX4_init_19 : decode cX4_init 19 = .ok (.putfield 19, 3) := by decide +kernel
theorem dX4_init_22 : decode cX4_init 22 = .ok (.return_, 1) := by decide +kernel
theorem dX4_weight_0 : decode cX4_weight 0 = .ok (.aload_n 0, 1) := by decide +kernel
theorem dX4_weight_1 : decode cX4_weight 1 = .ok (.getfield 19, 3) := by decide +kernel
theorem dX4_weight_4 : decode cX4_weight 4 = .ok (.getfield 23, 3) := by decide +kernel
theorem dX4_weight_7 : decode cX4_weight 7 = .ok (.iload_n 1, 1) := by decide +kernel
theorem dX4_weight_8 : decode cX4_weight 8 = .ok (.iaload, 1) := by decide +kernel
theorem dX4_weight_9 : decode cX4_weight 9 = .ok (.iconst 4, 1) := by decide +kernel
theorem dX4_weight_10 : decode cX4_weight 10 = .ok (.ishl, 1) := by decide +kernel
theorem dX4_weight_11 : decode cX4_weight 11 = .ok (.iconst 1, 1) := by decide +kernel
theorem dX4_weight_12 : decode cX4_weight 12 = .ok (.iadd, 1) := by decide +kernel
theorem dX4_weight_13 : decode cX4_weight 13 = .ok (.ireturn, 1) := by decide +kernel
theorem dX4_measure_0 : decode cX4_measure 0 = .ok (.aload_n 0, 1) := by decide +kernel
theorem dX4_measure_1 : decode cX4_measure 1 = .ok (.iload_n 1, 1) := by decide +kernel
theorem dX4_measure_2 : decode cX4_measure 2 = .ok (.putfield 15, 3) := by decide +kernel
theorem dX4_measure_5 : decode cX4_measure 5 = .ok (.aload_n 0, 1) := by decide +kernel
theorem dX4_measure_6 : decode cX4_measure 6 = .ok (.getfield 9, 3) := by decide +kernel
theorem dX4_measure_9 : decode cX4_measure 9 = .ok (.ldc 28, 2) := by decide +kernel
theorem dX4_measure_11 : decode cX4_measure 11 = .ok (.invokestatic 29, 3) := by decide +kernel
theorem dX4_measure_14 : decode cX4_measure 14 = .ok (.aload_n 0, 1) := by decide +kernel
theorem dX4_measure_15 : decode cX4_measure 15 = .ok (.getfield 9, 3) := by decide +kernel
theorem dX4_measure_18 : decode cX4_measure 18 = .ok (.iload_n 2, 1) := by decide +kernel
theorem dX4_measure_19 : decode cX4_measure 19 = .ok (.iconst 0, 1) := by decide +kernel
theorem dX4_measure_20 : decode cX4_measure 20 = .ok (.iastore, 1) := by decide +kernel
theorem dX4_measure_21 : decode cX4_measure 21 = .ok (.iconst 1, 1) := by decide +kernel
theorem dX4_measure_22 : decode cX4_measure 22 = .ok (.istore_n 3, 1) := by decide +kernel
theorem dX4_measure_23 : decode cX4_measure 23 = .ok (.iconst 0, 1) := by decide +kernel
theorem dX4_measure_24 : decode cX4_measure 24 = .ok (.istore 4, 2) := by decide +kernel
theorem dX4_measure_26 : decode cX4_measure 26 = .ok (.iload 4, 2) := by decide +kernel
theorem dX4_measure_28 : decode cX4_measure 28 = .ok (.aload_n 0, 1) := by decide +kernel
theorem dX4_measure_29 : decode cX4_measure 29 = .ok (.getfield 19, 3) := by decide +kernel
theorem dX4_measure_32 : decode cX4_measure 32 = .ok (.getfield 35, 3) := by decide +kernel
theorem dX4_measure_35 : decode cX4_measure 35 = .ok (.if_icmp .ge 60, 3) := by decide +kernel
theorem dX4_measure_38 : decode cX4_measure 38 = .ok (.iload_n 3, 1) := by decide +kernel
theorem dX4_measure_39 : decode cX4_measure 39 = .ok (.ifCond .eq 56, 3) := by decide +kernel
theorem dX4_measure_42 : decode cX4_measure 42 = .ok (.iconst 0, 1) := by decide +kernel
theorem dX4_measure_43 : decode cX4_measure 43 = .ok (.istore_n 3, 1) := by decide +kernel
theorem dX4_measure_44 : decode cX4_measure 44 = .ok (.iconst 0, 1) := by decide +kernel
theorem dX4_measure_45 : decode cX4_measure 45 = .ok (.istore 5, 2) := by decide +kernel
theorem dX4_measure_47 : decode cX4_measure 47 = .ok (.iload 5, 2) := by decide +kernel
theorem dX4_measure_49 : decode cX4_measure 49 = .ok (.aload_n 0, 1) := by decide +kernel
theorem dX4_measure_50 : decode cX4_measure 50 = .ok (.getfield 19, 3) := by decide +kernel
theorem dX4_measure_53 : decode cX4_measure 53 = .ok (.getfield 38, 3) := by decide +kernel
theorem dX4_measure_56 : decode cX4_measure 56 = .ok (.if_icmp .ge 33, 3) := by decide +kernel
theorem dX4_measure_59 : decode cX4_measure 59 = .ok (.aload_n 0, 1) := by decide +kernel
theorem dX4_measure_60 : decode cX4_measure 60 = .ok (.getfield 15, 3) := by decide +kernel
theorem dX4_measure_63 : decode cX4_measure 63 = .ok (.iload 5, 2) := by decide +kernel
theorem dX4_measure_65 : decode cX4_measure 65 = .ok (.invokestatic 41, 3) := by decide +kernel
theorem dX4_measure_68 : decode cX4_measure 68 = .ok (.iconst 1, 1) := by decide +kernel
theorem dX4_measure_69 : decode cX4_measure 69 = .ok (.if_icmp .ne 14, 3) := by decide +kernel
theorem dX4_measure_72 : decode cX4_measure 72 = .ok (.aload_n 0, 1) := by decide +kernel
theorem dX4_measure_73 : decode cX4_measure 73 = .ok (.iload 5, 2) := by decide +kernel
theorem dX4_measure_75 : decode cX4_measure 75 = .ok (.invokevirtual 45, 3) := by decide +kernel
theorem dX4_measure_78 : decode cX4_measure 78 = .ok (.ifCond .eq 5, 3) := by decide +kernel
theorem dX4_measure_81 : decode cX4_measure 81 = .ok (.iconst 1, 1) := by decide +kernel
theorem dX4_measure_82 : decode cX4_measure 82 = .ok (.istore_n 3, 1) := by decide +kernel
theorem dX4_measure_83 : decode cX4_measure 83 = .ok (.iinc 5 1, 3) := by decide +kernel
theorem dX4_measure_86 : decode cX4_measure 86 = .ok (.goto (-39), 3) := by decide +kernel
theorem dX4_measure_89 : decode cX4_measure 89 = .ok (.iinc 4 1, 3) := by decide +kernel
theorem dX4_measure_92 : decode cX4_measure 92 = .ok (.goto (-66), 3) := by decide +kernel
theorem dX4_measure_95 : decode cX4_measure 95 = .ok (.return_, 1) := by decide +kernel
theorem dX4_bringNearer_0 : decode cX4_bringNearer 0 = .ok (.aload_n 0, 1) := by decide +kernel
theorem dX4_bringNearer_1 : decode cX4_bringNearer 1 = .ok (.getfield 19, 3) := by decide +kernel
theorem dX4_bringNearer_4 : decode cX4_bringNearer 4 = .ok (.getfield 49, 3) := by decide +kernel
theorem dX4_bringNearer_7 : decode cX4_bringNearer 7 = .ok (.iload_n 1, 1) := by decide +kernel
theorem dX4_bringNearer_8 : decode cX4_bringNearer 8 = .ok (.iaload, 1) := by decide +kernel
theorem dX4_bringNearer_9 : decode cX4_bringNearer 9 = .ok (.istore_n 2, 1) := by decide +kernel
theorem dX4_bringNearer_10 : decode cX4_bringNearer 10 = .ok (.aload_n 0, 1) := by decide +kernel
theorem dX4_bringNearer_11 : decode cX4_bringNearer 11 = .ok (.getfield 19, 3) := by decide +kernel
theorem dX4_bringNearer_14 : decode cX4_bringNearer 14 = .ok (.getfield 52, 3) := by decide +kernel
theorem dX4_bringNearer_17 : decode cX4_bringNearer 17 = .ok (.iload_n 1, 1) := by decide +kernel
theorem dX4_bringNearer_18 : decode cX4_bringNearer 18 = .ok (.iaload, 1) := by decide +kernel
theorem dX4_bringNearer_19 : decode cX4_bringNearer 19 = .ok (.istore_n 3, 1) := by decide +kernel
theorem dX4_bringNearer_20 : decode cX4_bringNearer 20 = .ok (.aload_n 0, 1) := by decide +kernel
theorem dX4_bringNearer_21 : decode cX4_bringNearer 21 = .ok (.iload_n 1, 1) := by decide +kernel
theorem dX4_bringNearer_22 : decode cX4_bringNearer 22 = .ok (.invokevirtual 55, 3) := by decide +kernel
theorem dX4_bringNearer_25 : decode cX4_bringNearer 25 = .ok (.istore 4, 2) := by decide +kernel
theorem dX4_bringNearer_27 : decode cX4_bringNearer 27 = .ok (.aload_n 0, 1) := by decide +kernel
theorem dX4_bringNearer_28 : decode cX4_bringNearer 28 = .ok (.getfield 9, 3) := by decide +kernel
theorem dX4_bringNearer_31 : decode cX4_bringNearer 31 = .ok (.iload_n 2, 1) := by decide +kernel
theorem dX4_bringNearer_32 : decode cX4_bringNearer 32 = .ok (.iaload, 1) := by decide +kernel
theorem dX4_bringNearer_33 : decode cX4_bringNearer 33 = .ok (.iload 4, 2) := by decide +kernel
theorem dX4_bringNearer_35 : decode cX4_bringNearer 35 = .ok (.iadd, 1) := by decide +kernel
theorem dX4_bringNearer_36 : decode cX4_bringNearer 36 = .ok (.aload_n 0, 1) := by decide +kernel
theorem dX4_bringNearer_37 : decode cX4_bringNearer 37 = .ok (.getfield 9, 3) := by decide +kernel
theorem dX4_bringNearer_40 : decode cX4_bringNearer 40 = .ok (.iload_n 3, 1) := by decide +kernel
theorem dX4_bringNearer_41 : decode cX4_bringNearer 41 = .ok (.iaload, 1) := by decide +kernel
theorem dX4_bringNearer_42 : decode cX4_bringNearer 42 = .ok (.if_icmp .ge 20, 3) := by decide +kernel
theorem dX4_bringNearer_45 : decode cX4_bringNearer 45 = .ok (.aload_n 0, 1) := by decide +kernel
theorem dX4_bringNearer_46 : decode cX4_bringNearer 46 = .ok (.getfield 9, 3) := by decide +kernel
theorem dX4_bringNearer_49 : decode cX4_bringNearer 49 = .ok (.iload_n 3, 1) := by decide +kernel
theorem dX4_bringNearer_50 : decode cX4_bringNearer 50 = .ok (.aload_n 0, 1) := by decide +kernel
theorem dX4_bringNearer_51 : decode cX4_bringNearer 51 = .ok (.getfield 9, 3) := by decide +kernel
theorem dX4_bringNearer_54 : decode cX4_bringNearer 54 = .ok (.iload_n 2, 1) := by decide +kernel
theorem dX4_bringNearer_55 : decode cX4_bringNearer 55 = .ok (.iaload, 1) := by decide +kernel
theorem dX4_bringNearer_56 : decode cX4_bringNearer 56 = .ok (.iload 4, 2) := by decide +kernel
theorem dX4_bringNearer_58 : decode cX4_bringNearer 58 = .ok (.iadd, 1) := by decide +kernel
theorem dX4_bringNearer_59 : decode cX4_bringNearer 59 = .ok (.iastore, 1) := by decide +kernel
theorem dX4_bringNearer_60 : decode cX4_bringNearer 60 = .ok (.iconst 1, 1) := by decide +kernel
theorem dX4_bringNearer_61 : decode cX4_bringNearer 61 = .ok (.ireturn, 1) := by decide +kernel
theorem dX4_bringNearer_62 : decode cX4_bringNearer 62 = .ok (.aload_n 0, 1) := by decide +kernel
theorem dX4_bringNearer_63 : decode cX4_bringNearer 63 = .ok (.getfield 9, 3) := by decide +kernel
theorem dX4_bringNearer_66 : decode cX4_bringNearer 66 = .ok (.iload_n 3, 1) := by decide +kernel
theorem dX4_bringNearer_67 : decode cX4_bringNearer 67 = .ok (.iaload, 1) := by decide +kernel
theorem dX4_bringNearer_68 : decode cX4_bringNearer 68 = .ok (.iload 4, 2) := by decide +kernel
theorem dX4_bringNearer_70 : decode cX4_bringNearer 70 = .ok (.iadd, 1) := by decide +kernel
theorem dX4_bringNearer_71 : decode cX4_bringNearer 71 = .ok (.aload_n 0, 1) := by decide +kernel
theorem dX4_bringNearer_72 : decode cX4_bringNearer 72 = .ok (.getfield 9, 3) := by decide +kernel
theorem dX4_bringNearer_75 : decode cX4_bringNearer 75 = .ok (.iload_n 2, 1) := by decide +kernel
theorem dX4_bringNearer_76 : decode cX4_bringNearer 76 = .ok (.iaload, 1) := by decide +kernel
theorem dX4_bringNearer_77 : decode cX4_bringNearer 77 = .ok (.if_icmp .ge 20, 3) := by decide +kernel
theorem dX4_bringNearer_80 : decode cX4_bringNearer 80 = .ok (.aload_n 0, 1) := by decide +kernel
theorem dX4_bringNearer_81 : decode cX4_bringNearer 81 = .ok (.getfield 9, 3) := by decide +kernel
theorem dX4_bringNearer_84 : decode cX4_bringNearer 84 = .ok (.iload_n 2, 1) := by decide +kernel
theorem dX4_bringNearer_85 : decode cX4_bringNearer 85 = .ok (.aload_n 0, 1) := by decide +kernel
theorem dX4_bringNearer_86 : decode cX4_bringNearer 86 = .ok (.getfield 9, 3) := by decide +kernel
theorem dX4_bringNearer_89 : decode cX4_bringNearer 89 = .ok (.iload_n 3, 1) := by decide +kernel
theorem dX4_bringNearer_90 : decode cX4_bringNearer 90 = .ok (.iaload, 1) := by decide +kernel
theorem dX4_bringNearer_91 : decode cX4_bringNearer 91 = .ok (.iload 4, 2) := by decide +kernel
theorem dX4_bringNearer_93 : decode cX4_bringNearer 93 = .ok (.iadd, 1) := by decide +kernel
theorem dX4_bringNearer_94 : decode cX4_bringNearer 94 = .ok (.iastore, 1) := by decide +kernel
theorem dX4_bringNearer_95 : decode cX4_bringNearer 95 = .ok (.iconst 1, 1) := by decide +kernel
theorem dX4_bringNearer_96 : decode cX4_bringNearer 96 = .ok (.ireturn, 1) := by decide +kernel
theorem dX4_bringNearer_97 : decode cX4_bringNearer 97 = .ok (.iconst 0, 1) := by decide +kernel
theorem dX4_bringNearer_98 : decode cX4_bringNearer 98 = .ok (.ireturn, 1) := by decide +kernel
theorem dX4_leadsFrom_0 : decode cX4_leadsFrom 0 = .ok (.aload_n 0, 1) := by decide +kernel
theorem dX4_leadsFrom_1 : decode cX4_leadsFrom 1 = .ok (.getfield 9, 3) := by decide +kernel
theorem dX4_leadsFrom_4 : decode cX4_leadsFrom 4 = .ok (.iload_n 1, 1) := by decide +kernel
theorem dX4_leadsFrom_5 : decode cX4_leadsFrom 5 = .ok (.iaload, 1) := by decide +kernel
theorem dX4_leadsFrom_6 : decode cX4_leadsFrom 6 = .ok (.ldc 28, 2) := by decide +kernel
theorem dX4_leadsFrom_8 : decode cX4_leadsFrom 8 = .ok (.if_icmp .ge 7, 3) := by decide +kernel
theorem dX4_leadsFrom_11 : decode cX4_leadsFrom 11 = .ok (.iconst 1, 1) := by decide +kernel
theorem dX4_leadsFrom_12 : decode cX4_leadsFrom 12 = .ok (.goto 4, 3) := by decide +kernel
theorem dX4_leadsFrom_15 : decode cX4_leadsFrom 15 = .ok (.iconst 0, 1) := by decide +kernel
theorem dX4_leadsFrom_16 : decode cX4_leadsFrom 16 = .ok (.ireturn, 1) := by decide +kernel
theorem dX4_lengthFrom_0 : decode cX4_lengthFrom 0 = .ok (.aload_n 0, 1) := by decide +kernel
theorem dX4_lengthFrom_1 : decode cX4_lengthFrom 1 = .ok (.getfield 9, 3) := by decide +kernel
theorem dX4_lengthFrom_4 : decode cX4_lengthFrom 4 = .ok (.iload_n 1, 1) := by decide +kernel
theorem dX4_lengthFrom_5 : decode cX4_lengthFrom 5 = .ok (.iaload, 1) := by decide +kernel
theorem dX4_lengthFrom_6 : decode cX4_lengthFrom 6 = .ok (.iconst 4, 1) := by decide +kernel
theorem dX4_lengthFrom_7 : decode cX4_lengthFrom 7 = .ok (.ishr, 1) := by decide +kernel
theorem dX4_lengthFrom_8 : decode cX4_lengthFrom 8 = .ok (.ireturn, 1) := by decide +kernel
theorem dX4_linksFrom_0 : decode cX4_linksFrom 0 = .ok (.aload_n 0, 1) := by decide +kernel
theorem dX4_linksFrom_1 : decode cX4_linksFrom 1 = .ok (.getfield 9, 3) := by decide +kernel
theorem dX4_linksFrom_4 : decode cX4_linksFrom 4 = .ok (.iload_n 1, 1) := by decide +kernel
theorem dX4_linksFrom_5 : decode cX4_linksFrom 5 = .ok (.iaload, 1) := by decide +kernel
theorem dX4_linksFrom_6 : decode cX4_linksFrom 6 = .ok (.bipush 15, 2) := by decide +kernel
theorem dX4_linksFrom_8 : decode cX4_linksFrom 8 = .ok (.iand, 1) := by decide +kernel
theorem dX4_linksFrom_9 : decode cX4_linksFrom 9 = .ok (.ireturn, 1) := by decide +kernel
theorem dX4_firstLinkFrom_0 : decode cX4_firstLinkFrom 0 = .ok (.iconst (-1), 1) := by decide +kernel
theorem dX4_firstLinkFrom_1 : decode cX4_firstLinkFrom 1 = .ok (.istore_n 2, 1) := by decide +kernel
theorem dX4_firstLinkFrom_2 : decode cX4_firstLinkFrom 2 = .ok (.bipush 9, 2) := by decide +kernel
theorem dX4_firstLinkFrom_4 : decode cX4_firstLinkFrom 4 = .ok (.istore_n 3, 1) := by decide +kernel
theorem dX4_firstLinkFrom_5 : decode cX4_firstLinkFrom 5 = .ok (.iconst 0, 1) := by decide +kernel
theorem dX4_firstLinkFrom_6 : decode cX4_firstLinkFrom 6 = .ok (.istore 4, 2) := by decide +kernel
theorem dX4_firstLinkFrom_8 : decode cX4_firstLinkFrom 8 = .ok (.iload 4, 2) := by decide +kernel
theorem dX4_firstLinkFrom_10 : decode cX4_firstLinkFrom 10 = .ok (.aload_n 0, 1) := by decide +kernel
theorem dX4_firstLinkFrom_11 : decode cX4_firstLinkFrom 11 = .ok (.getfield 19, 3) := by decide +kernel
theorem dX4_firstLinkFrom_14 : decode cX4_firstLinkFrom 14 = .ok (.getfield 38, 3) := by decide +kernel
theorem dX4_firstLinkFrom_17 : decode cX4_firstLinkFrom 17 = .ok (.if_icmp .ge 79, 3) := by decide +kernel
theorem dX4_firstLinkFrom_20 : decode cX4_firstLinkFrom 20 = .ok (.aload_n 0, 1) := by decide +kernel
theorem dX4_firstLinkFrom_21 : decode cX4_firstLinkFrom 21 = .ok (.getfield 15, 3) := by decide +kernel
theorem dX4_firstLinkFrom_24 : decode cX4_firstLinkFrom 24 = .ok (.iload 4, 2) := by decide +kernel
theorem dX4_firstLinkFrom_26 : decode cX4_firstLinkFrom 26 = .ok (.invokestatic 41, 3) := by decide +kernel
theorem dX4_firstLinkFrom_29 : decode cX4_firstLinkFrom 29 = .ok (.iconst 1, 1) := by decide +kernel
theorem dX4_firstLinkFrom_30 : decode cX4_firstLinkFrom 30 = .ok (.if_icmp .ne 16, 3) := by decide +kernel
theorem dX4_firstLinkFrom_33 : decode cX4_firstLinkFrom 33 = .ok (.aload_n 0, 1) := by decide +kernel
theorem dX4_firstLinkFrom_34 : decode cX4_firstLinkFrom 34 = .ok (.getfield 19, 3) := by decide +kernel
theorem dX4_firstLinkFrom_37 : decode cX4_firstLinkFrom 37 = .ok (.iload 4, 2) := by decide +kernel
theorem dX4_firstLinkFrom_39 : decode cX4_firstLinkFrom 39 = .ok (.iload_n 1, 1) := by decide +kernel
theorem dX4_firstLinkFrom_40 : decode cX4_firstLinkFrom 40 = .ok (.invokevirtual 59, 3) := by decide +kernel
theorem dX4_firstLinkFrom_43 : decode cX4_firstLinkFrom 43 = .ok (.goto 4, 3) := by decide +kernel
theorem dX4_firstLinkFrom_46 : decode cX4_firstLinkFrom 46 = .ok (.iconst (-1), 1) := by decide +kernel
theorem dX4_firstLinkFrom_47 : decode cX4_firstLinkFrom 47 = .ok (.istore 5, 2) := by decide +kernel
theorem dX4_firstLinkFrom_49 : decode cX4_firstLinkFrom 49 = .ok (.iload 5, 2) := by decide +kernel
theorem dX4_firstLinkFrom_51 : decode cX4_firstLinkFrom 51 = .ok (.iconst (-1), 1) := by decide +kernel
theorem dX4_firstLinkFrom_52 : decode cX4_firstLinkFrom 52 = .ok (.if_icmp .eq 38, 3) := by decide +kernel
theorem dX4_firstLinkFrom_55 : decode cX4_firstLinkFrom 55 = .ok (.iload 5, 2) := by decide +kernel
theorem dX4_firstLinkFrom_57 : decode cX4_firstLinkFrom 57 = .ok (.iload_n 3, 1) := by decide +kernel
theorem dX4_firstLinkFrom_58 : decode cX4_firstLinkFrom 58 = .ok (.if_icmp .ge 32, 3) := by decide +kernel
theorem dX4_firstLinkFrom_61 : decode cX4_firstLinkFrom 61 = .ok (.aload_n 0, 1) := by decide +kernel
theorem dX4_firstLinkFrom_62 : decode cX4_firstLinkFrom 62 = .ok (.getfield 9, 3) := by decide +kernel
theorem dX4_firstLinkFrom_65 : decode cX4_firstLinkFrom 65 = .ok (.iload 5, 2) := by decide +kernel
theorem dX4_firstLinkFrom_67 : decode cX4_firstLinkFrom 67 = .ok (.iaload, 1) := by decide +kernel
theorem dX4_firstLinkFrom_68 : decode cX4_firstLinkFrom 68 = .ok (.aload_n 0, 1) := by decide +kernel
theorem dX4_firstLinkFrom_69 : decode cX4_firstLinkFrom 69 = .ok (.iload 4, 2) := by decide +kernel
theorem dX4_firstLinkFrom_71 : decode cX4_firstLinkFrom 71 = .ok (.invokevirtual 55, 3) := by decide +kernel
theorem dX4_firstLinkFrom_74 : decode cX4_firstLinkFrom 74 = .ok (.iadd, 1) := by decide +kernel
theorem dX4_firstLinkFrom_75 : decode cX4_firstLinkFrom 75 = .ok (.aload_n 0, 1) := by decide +kernel
theorem dX4_firstLinkFrom_76 : decode cX4_firstLinkFrom 76 = .ok (.getfield 9, 3) := by decide +kernel
theorem dX4_firstLinkFrom_79 : decode cX4_firstLinkFrom 79 = .ok (.iload_n 1, 1) := by decide +kernel
theorem dX4_firstLinkFrom_80 : decode cX4_firstLinkFrom 80 = .ok (.iaload, 1) := by decide +kernel
theorem dX4_firstLinkFrom_81 : decode cX4_firstLinkFrom 81 = .ok (.if_icmp .ne 9, 3) := by decide +kernel
theorem dX4_firstLinkFrom_84 : decode cX4_firstLinkFrom 84 = .ok (.iload 5, 2) := by decide +kernel
theorem dX4_firstLinkFrom_86 : decode cX4_firstLinkFrom 86 = .ok (.istore_n 3, 1) := by decide +kernel
theorem dX4_firstLinkFrom_87 : decode cX4_firstLinkFrom 87 = .ok (.iload 4, 2) := by decide +kernel
theorem dX4_firstLinkFrom_89 : decode cX4_firstLinkFrom 89 = .ok (.istore_n 2, 1) := by decide +kernel
theorem dX4_firstLinkFrom_90 : decode cX4_firstLinkFrom 90 = .ok (.iinc 4 1, 3) := by decide +kernel
theorem dX4_firstLinkFrom_93 : decode cX4_firstLinkFrom 93 = .ok (.goto (-85), 3) := by decide +kernel
theorem dX4_firstLinkFrom_96 : decode cX4_firstLinkFrom 96 = .ok (.iload_n 2, 1) := by decide +kernel
theorem dX4_firstLinkFrom_97 : decode cX4_firstLinkFrom 97 = .ok (.ireturn, 1) := by decide +kernel
theorem dX4_nodeAfter_0 : decode cX4_nodeAfter 0 = .ok (.iload_n 1, 1) := by decide +kernel
theorem dX4_nodeAfter_1 : decode cX4_nodeAfter 1 = .ok (.istore_n 3, 1) := by decide +kernel
theorem dX4_nodeAfter_2 : decode cX4_nodeAfter 2 = .ok (.iconst 0, 1) := by decide +kernel
theorem dX4_nodeAfter_3 : decode cX4_nodeAfter 3 = .ok (.istore 4, 2) := by decide +kernel
theorem dX4_nodeAfter_5 : decode cX4_nodeAfter 5 = .ok (.iload 4, 2) := by decide +kernel
theorem dX4_nodeAfter_7 : decode cX4_nodeAfter 7 = .ok (.iload_n 2, 1) := by decide +kernel
theorem dX4_nodeAfter_8 : decode cX4_nodeAfter 8 = .ok (.if_icmp .ge 43, 3) := by decide +kernel
theorem dX4_nodeAfter_11 : decode cX4_nodeAfter 11 = .ok (.iload 4, 2) := by decide +kernel
theorem dX4_nodeAfter_13 : decode cX4_nodeAfter 13 = .ok (.bipush 9, 2) := by decide +kernel
theorem dX4_nodeAfter_15 : decode cX4_nodeAfter 15 = .ok (.if_icmp .ge 36, 3) := by decide +kernel
theorem dX4_nodeAfter_18 : decode cX4_nodeAfter 18 = .ok (.aload_n 0, 1) := by decide +kernel
theorem dX4_nodeAfter_19 : decode cX4_nodeAfter 19 = .ok (.iload_n 3, 1) := by decide +kernel
theorem dX4_nodeAfter_20 : decode cX4_nodeAfter 20 = .ok (.invokevirtual 62, 3) := by decide +kernel
theorem dX4_nodeAfter_23 : decode cX4_nodeAfter 23 = .ok (.istore 5, 2) := by decide +kernel
theorem dX4_nodeAfter_25 : decode cX4_nodeAfter 25 = .ok (.iload 5, 2) := by decide +kernel
theorem dX4_nodeAfter_27 : decode cX4_nodeAfter 27 = .ok (.iconst (-1), 1) := by decide +kernel
theorem dX4_nodeAfter_28 : decode cX4_nodeAfter 28 = .ok (.if_icmp .ne 6, 3) := by decide +kernel
theorem dX4_nodeAfter_31 : decode cX4_nodeAfter 31 = .ok (.bipush (-9), 2) := by decide +kernel
theorem dX4_nodeAfter_33 : decode cX4_nodeAfter 33 = .ok (.ireturn, 1) := by decide +kernel
theorem dX4_nodeAfter_34 : decode cX4_nodeAfter 34 = .ok (.aload_n 0, 1) := by decide +kernel
theorem dX4_nodeAfter_35 : decode cX4_nodeAfter 35 = .ok (.getfield 19, 3) := by decide +kernel
theorem dX4_nodeAfter_38 : decode cX4_nodeAfter 38 = .ok (.iload 5, 2) := by decide +kernel
theorem dX4_nodeAfter_40 : decode cX4_nodeAfter 40 = .ok (.iload_n 3, 1) := by decide +kernel
theorem dX4_nodeAfter_41 : decode cX4_nodeAfter 41 = .ok (.invokevirtual 59, 3) := by decide +kernel
theorem dX4_nodeAfter_44 : decode cX4_nodeAfter 44 = .ok (.istore_n 3, 1) := by decide +kernel
theorem dX4_nodeAfter_45 : decode cX4_nodeAfter 45 = .ok (.iinc 4 1, 3) := by decide +kernel
theorem dX4_nodeAfter_48 : decode cX4_nodeAfter 48 = .ok (.goto (-43), 3) := by decide +kernel
theorem dX4_nodeAfter_51 : decode cX4_nodeAfter 51 = .ok (.iload_n 3, 1) := by decide +kernel
theorem dX4_nodeAfter_52 : decode cX4_nodeAfter 52 = .ok (.ireturn, 1) := by decide +kernel
theorem dJ6_bitCount_0f7a4_0 : decode cJ6_bitCount_0f7a4 0 = .ok (.iload_n 0, 1) := by decide +kernel
theorem dJ6_bitCount_0f7a4_1 : decode cJ6_bitCount_0f7a4 1 = .ok (.iload_n 0, 1) := by decide +kernel
theorem dJ6_bitCount_0f7a4_2 : decode cJ6_bitCount_0f7a4 2 = .ok (.iconst 1, 1) := by decide +kernel
theorem dJ6_bitCount_0f7a4_3 : decode cJ6_bitCount_0f7a4 3 = .ok (.iushr, 1) := by decide +kernel
theorem dJ6_bitCount_0f7a4_4 : decode cJ6_bitCount_0f7a4 4 = .ok (.ldc_w 265, 3) := by decide +kernel
theorem dJ6_bitCount_0f7a4_7 : decode cJ6_bitCount_0f7a4 7 = .ok (.iand, 1) := by decide +kernel
theorem dJ6_bitCount_0f7a4_8 : decode cJ6_bitCount_0f7a4 8 = .ok (.isub, 1) := by decide +kernel
theorem dJ6_bitCount_0f7a4_9 : decode cJ6_bitCount_0f7a4 9 = .ok (.istore_n 0, 1) := by decide +kernel
theorem dJ6_bitCount_0f7a4_10 : decode cJ6_bitCount_0f7a4 10 = .ok (.iload_n 0, 1) := by decide +kernel
theorem dJ6_bitCount_0f7a4_11 : decode cJ6_bitCount_0f7a4 11 = .ok (.ldc_w 266, 3) := by decide +kernel
theorem dJ6_bitCount_0f7a4_14 : decode cJ6_bitCount_0f7a4 14 = .ok (.iand, 1) := by decide +kernel
theorem dJ6_bitCount_0f7a4_15 : decode cJ6_bitCount_0f7a4 15 = .ok (.iload_n 0, 1) := by decide +kernel
theorem dJ6_bitCount_0f7a4_16 : decode cJ6_bitCount_0f7a4 16 = .ok (.iconst 2, 1) := by decide +kernel
theorem dJ6_bitCount_0f7a4_17 : decode cJ6_bitCount_0f7a4 17 = .ok (.iushr, 1) := by decide +kernel
theorem dJ6_bitCount_0f7a4_18 : decode cJ6_bitCount_0f7a4 18 = .ok (.ldc_w 266, 3) := by decide +kernel
theorem dJ6_bitCount_0f7a4_21 : decode cJ6_bitCount_0f7a4 21 = .ok (.iand, 1) := by decide +kernel
theorem dJ6_bitCount_0f7a4_22 : decode cJ6_bitCount_0f7a4 22 = .ok (.iadd, 1) := by decide +kernel
theorem dJ6_bitCount_0f7a4_23 : decode cJ6_bitCount_0f7a4 23 = .ok (.istore_n 0, 1) := by decide +kernel
theorem dJ6_bitCount_0f7a4_24 : decode cJ6_bitCount_0f7a4 24 = .ok (.iload_n 0, 1) := by decide +kernel
theorem dJ6_bitCount_0f7a4_25 : decode cJ6_bitCount_0f7a4 25 = .ok (.iload_n 0, 1) := by decide +kernel
theorem dJ6_bitCount_0f7a4_26 : decode cJ6_bitCount_0f7a4 26 = .ok (.iconst 4, 1) := by decide +kernel
theorem dJ6_bitCount_0f7a4_27 : decode cJ6_bitCount_0f7a4 27 = .ok (.iushr, 1) := by decide +kernel
theorem dJ6_bitCount_0f7a4_28 : decode cJ6_bitCount_0f7a4 28 = .ok (.iadd, 1) := by decide +kernel
theorem dJ6_bitCount_0f7a4_29 : decode cJ6_bitCount_0f7a4 29 = .ok (.ldc_w 267, 3) := by decide +kernel
theorem dJ6_bitCount_0f7a4_32 : decode cJ6_bitCount_0f7a4 32 = .ok (.iand, 1) := by decide +kernel
theorem dJ6_bitCount_0f7a4_33 : decode cJ6_bitCount_0f7a4 33 = .ok (.istore_n 0, 1) := by decide +kernel
theorem dJ6_bitCount_0f7a4_34 : decode cJ6_bitCount_0f7a4 34 = .ok (.iload_n 0, 1) := by decide +kernel
theorem dJ6_bitCount_0f7a4_35 : decode cJ6_bitCount_0f7a4 35 = .ok (.iload_n 0, 1) := by decide +kernel
theorem dJ6_bitCount_0f7a4_36 : decode cJ6_bitCount_0f7a4 36 = .ok (.bipush 8, 2) := by decide +kernel
theorem dJ6_bitCount_0f7a4_38 : decode cJ6_bitCount_0f7a4 38 = .ok (.iushr, 1) := by decide +kernel
theorem dJ6_bitCount_0f7a4_39 : decode cJ6_bitCount_0f7a4 39 = .ok (.iadd, 1) := by decide +kernel
theorem dJ6_bitCount_0f7a4_40 : decode cJ6_bitCount_0f7a4 40 = .ok (.istore_n 0, 1) := by decide +kernel
theorem dJ6_bitCount_0f7a4_41 : decode cJ6_bitCount_0f7a4 41 = .ok (.iload_n 0, 1) := by decide +kernel
theorem dJ6_bitCount_0f7a4_42 : decode cJ6_bitCount_0f7a4 42 = .ok (.iload_n 0, 1) := by decide +kernel
theorem dJ6_bitCount_0f7a4_43 : decode cJ6_bitCount_0f7a4 43 = .ok (.bipush 16, 2) := by decide +kernel
theorem dJ6_bitCount_0f7a4_45 : decode cJ6_bitCount_0f7a4 45 = .ok (.iushr, 1) := by decide +kernel
theorem dJ6_bitCount_0f7a4_46 : decode cJ6_bitCount_0f7a4 46 = .ok (.iadd, 1) := by decide +kernel
theorem dJ6_bitCount_0f7a4_47 : decode cJ6_bitCount_0f7a4 47 = .ok (.istore_n 0, 1) := by decide +kernel
theorem dJ6_bitCount_0f7a4_48 : decode cJ6_bitCount_0f7a4 48 = .ok (.iload_n 0, 1) := by decide +kernel
theorem dJ6_bitCount_0f7a4_49 : decode cJ6_bitCount_0f7a4 49 = .ok (.bipush 63, 2) := by decide +kernel
theorem dJ6_bitCount_0f7a4_51 : decode cJ6_bitCount_0f7a4 51 = .ok (.iand, 1) := by decide +kernel
theorem dJ6_bitCount_0f7a4_52 : decode cJ6_bitCount_0f7a4 52 = .ok (.ireturn, 1) := by decide +kernel
theorem dJ9_max_7cf53_0 : decode cJ9_max_7cf53 0 = .ok (.iload_n 0, 1) := by decide +kernel
theorem dJ9_max_7cf53_1 : decode cJ9_max_7cf53 1 = .ok (.iload_n 1, 1) := by decide +kernel
theorem dJ9_max_7cf53_2 : decode cJ9_max_7cf53 2 = .ok (.if_icmp .lt 7, 3) := by decide +kernel
theorem dJ9_max_7cf53_5 : decode cJ9_max_7cf53 5 = .ok (.iload_n 0, 1) := by decide +kernel
theorem dJ9_max_7cf53_6 : decode cJ9_max_7cf53 6 = .ok (.goto 4, 3) := by decide +kernel
theorem dJ9_max_7cf53_9 : decode cJ9_max_7cf53 9 = .ok (.iload_n 1, 1) := by decide +kernel
theorem dJ9_max_7cf53_10 : decode cJ9_max_7cf53 10 = .ok (.ireturn, 1) := by decide +kernel
theorem dJ9_min_7cf53_0 : decode cJ9_min_7cf53 0 = .ok (.iload_n 0, 1) := by decide +kernel
theorem dJ9_min_7cf53_1 : decode cJ9_min_7cf53 1 = .ok (.iload_n 1, 1) := by decide +kernel
theorem dJ9_min_7cf53_2 : decode cJ9_min_7cf53 2 = .ok (.if_icmp .gt 7, 3) := by decide +kernel
theorem dJ9_min_7cf53_5 : decode cJ9_min_7cf53 5 = .ok (.iload_n 0, 1) := by decide +kernel
theorem dJ9_min_7cf53_6 : decode cJ9_min_7cf53 6 = .ok (.goto 4, 3) := by decide +kernel
theorem dJ9_min_7cf53_9 : decode cJ9_min_7cf53 9 = .ok (.iload_n 1, 1) := by decide +kernel
theorem dJ9_min_7cf53_10 : decode cJ9_min_7cf53 10 = .ok (.ireturn, 1) := by decide +kernel
theorem dJ0_length_8abf5_0 : decode cJ0_length_8abf5 0 = .ok (.aload_n 0, 1) := by decide +kernel
theorem dJ0_length_8abf5_1 : decode cJ0_length_8abf5 1 = .ok (.getfield 9, 3) := by decide +kernel
theorem dJ0_length_8abf5_4 : decode cJ0_length_8abf5 4 = .ok (.arraylength, 1) := by decide +kernel
theorem dJ0_length_8abf5_5 : decode cJ0_length_8abf5 5 = .ok (.aload_n 0, 1) := by decide +kernel
theorem dJ0_length_8abf5_6 : decode cJ0_length_8abf5 6 = .ok (.invokevirtual 335, 3) := by decide +kernel
theorem dJ0_length_8abf5_9 : decode cJ0_length_8abf5 9 = .ok (.ishr, 1) := by decide +kernel
theorem dJ0_length_8abf5_10 : decode cJ0_length_8abf5 10 = .ok (.ireturn, 1) := by decide +kernel
theorem dJ0_charAt_5068e_0 : decode cJ0_charAt_5068e 0 = .ok (.aload_n 0, 1) := by decide +kernel
theorem dJ0_charAt_5068e_1 : decode cJ0_charAt_5068e 1 = .ok (.invokevirtual 492, 3) := by decide +kernel
theorem dJ0_charAt_5068e_4 : decode cJ0_charAt_5068e 4 = .ok (.ifCond .eq 12, 3) := by decide +kernel
theorem dJ0_charAt_5068e_7 : decode cJ0_charAt_5068e 7 = .ok (.aload_n 0, 1) := by decide +kernel
theorem dJ0_charAt_5068e_8 : decode cJ0_charAt_5068e 8 = .ok (.getfield 9, 3) := by decide +kernel
theorem dJ0_charAt_5068e_11 : decode cJ0_charAt_5068e 11 = .ok (.iload_n 1, 1) := by decide +kernel
theorem dJ0_charAt_5068e_12 : decode cJ0_charAt_5068e 12 = .ok (.invokestatic 495, 3) := by decide +kernel
theorem dJ0_charAt_5068e_15 : decode cJ0_charAt_5068e 15 = .ok (.ireturn, 1) := by decide +kernel
theorem dJ0_charAt_5068e_16 : decode cJ0_charAt_5068e 16 = .ok (.aload_n 0, 1) := by decide +kernel
theorem dJ0_charAt_5068e_17 : decode cJ0_charAt_5068e 17 = .ok (.getfield 9, 3) := by decide +kernel
theorem dJ0_charAt_5068e_20 : decode cJ0_charAt_5068e 20 = .ok (.iload_n 1, 1) := by decide +kernel
theorem dJ0_charAt_5068e_21 : decode cJ0_charAt_5068e 21 = .ok (.invokestatic 498, 3) := by decide +kernel
theorem dJ0_charAt_5068e_24 : decode cJ0_charAt_5068e 24 = .ok (.ireturn, 1) := by decide +kernel
theorem dJ0_coder_7d493_0 : decode cJ0_coder_7d493 0 = .ok (.getstatic 38, 3) := by decide +kernel
theorem dJ0_coder_7d493_3 : decode cJ0_coder_7d493 3 = .ok (.ifCond .eq 10, 3) := by decide +kernel
theorem dJ0_coder_7d493_6 : decode cJ0_coder_7d493 6 = .ok (.aload_n 0, 1) := by decide +kernel
theorem dJ0_coder_7d493_7 : decode cJ0_coder_7d493 7 = .ok (.getfield 15, 3) := by decide +kernel
theorem dJ0_coder_7d493_10 : decode cJ0_coder_7d493 10 = .ok (.goto 4, 3) := by decide +kernel
theorem dJ0_coder_7d493_13 : decode cJ0_coder_7d493 13 = .ok (.iconst 1, 1) := by decide +kernel
theorem dJ0_coder_7d493_14 : decode cJ0_coder_7d493 14 = .ok (.ireturn, 1) := by decide +kernel
theorem dJ0_isLatin1_aae02_0 : decode cJ0_isLatin1_aae02 0 = .ok (.getstatic 38, 3) := by decide +kernel
theorem dJ0_isLatin1_aae02_3 : decode cJ0_isLatin1_aae02 3 = .ok (.ifCond .eq 14, 3) := by decide +kernel
theorem dJ0_isLatin1_aae02_6 : decode cJ0_isLatin1_aae02 6 = .ok (.aload_n 0, 1) := by decide +kernel
theorem dJ0_isLatin1_aae02_7 : decode cJ0_isLatin1_aae02 7 = .ok (.getfield 15, 3) := by decide +kernel
theorem dJ0_isLatin1_aae02_10 : decode cJ0_isLatin1_aae02 10 = .ok (.ifCond .ne 7, 3) := by decide +kernel
theorem dJ0_isLatin1_aae02_13 : decode cJ0_isLatin1_aae02 13 = .ok (.iconst 1, 1) := by decide +kernel
theorem dJ0_isLatin1_aae02_14 : decode cJ0_isLatin1_aae02 14 = .ok (.goto 4, 3) := by decide +kernel
theorem dJ0_isLatin1_aae02_17 : decode cJ0_isLatin1_aae02 17 = .ok (.iconst 0, 1) := by decide +kernel
theorem dJ0_isLatin1_aae02_18 : decode cJ0_isLatin1_aae02 18 = .ok (.ireturn, 1) := by decide +kernel
theorem dJ0_checkIndex_df160_0 : decode cJ0_checkIndex_df160 0 = .ok (.iload_n 0, 1) := by decide +kernel
theorem dJ0_checkIndex_df160_1 : decode cJ0_checkIndex_df160 1 = .ok (.iload_n 1, 1) := by decide +kernel
theorem dJ0_checkIndex_df160_2 : decode cJ0_checkIndex_df160 2 = .ok (.getstatic 1053, 3) := by decide +kernel
theorem dJ0_checkIndex_df160_5 : decode cJ0_checkIndex_df160 5 = .ok (.invokestatic 1059, 3) := by decide +kernel
theorem dJ0_checkIndex_df160_8 : decode cJ0_checkIndex_df160 8 = .ok (.pop, 1) := by decide +kernel
theorem dJ0_checkIndex_df160_9 : decode cJ0_checkIndex_df160 9 = .ok (.return_, 1) := by decide +kernel
theorem dJ1_charAt_3b067_0 : decode cJ1_charAt_3b067 0 = .ok (.iload_n 1, 1) := by decide +kernel
theorem dJ1_charAt_3b067_1 : decode cJ1_charAt_3b067 1 = .ok (.aload_n 0, 1) := by decide +kernel
theorem dJ1_charAt_3b067_2 : decode cJ1_charAt_3b067 2 = .ok (.arraylength, 1) := by decide +kernel
theorem dJ1_charAt_3b067_3 : decode cJ1_charAt_3b067 3 = .ok (.invokestatic 9, 3) := by decide +kernel
theorem dJ1_charAt_3b067_6 : decode cJ1_charAt_3b067 6 = .ok (.aload_n 0, 1) := by decide +kernel
theorem dJ1_charAt_3b067_7 : decode cJ1_charAt_3b067 7 = .ok (.iload_n 1, 1) := by decide +kernel
theorem dJ1_charAt_3b067_8 : decode cJ1_charAt_3b067 8 = .ok (.baload, 1) := by decide +kernel
theorem dJ1_charAt_3b067_9 : decode cJ1_charAt_3b067 9 = .ok (.sipush 255, 3) := by decide +kernel
theorem dJ1_charAt_3b067_12 : decode cJ1_charAt_3b067 12 = .ok (.iand, 1) := by decide +kernel
theorem dJ1_charAt_3b067_13 : decode cJ1_charAt_3b067 13 = .ok (.i2c, 1) := by decide +kernel
theorem dJ1_charAt_3b067_14 : decode cJ1_charAt_3b067 14 = .ok (.ireturn, 1) := by decide +kernel
theorem dJ2_getChar_3b067_0 : decode cJ2_getChar_3b067 0 = .ok (.getstatic 44, 3) := by decide +kernel
theorem dJ2_getChar_3b067_3 : decode cJ2_getChar_3b067 3 = .ok (.ifCond .ne 25, 3) := by decide +kernel
theorem dJ2_getChar_3b067_6 : decode cJ2_getChar_3b067 6 = .ok (.iload_n 1, 1) := by decide +kernel
theorem dJ2_getChar_3b067_7 : decode cJ2_getChar_3b067 7 = .ok (.ifCond .lt 11, 3) := by decide +kernel
theorem dJ2_getChar_3b067_10 : decode cJ2_getChar_3b067 10 = .ok (.iload_n 1, 1) := by decide +kernel
theorem dJ2_getChar_3b067_11 : decode cJ2_getChar_3b067 11 = .ok (.aload_n 0, 1) := by decide +kernel
theorem dJ2_getChar_3b067_12 : decode cJ2_getChar_3b067 12 = .ok (.invokestatic 48, 3) := by decide +kernel
theorem dJ2_getChar_3b067_15 : decode cJ2_getChar_3b067 15 = .ok (.if_icmp .lt 13, 3) := by decide +kernel
theorem dJ2_getChar_3b067_18 : decode cJ2_getChar_3b067 18 = .ok (.new 52, 3) := by decide +kernel
theorem dJ2_getChar_3b067_21 : decode cJ2_getChar_3b067 21 = .ok (.dup, 1) := by decide +kernel
theorem dJ2_getChar_3b067_22 : decode cJ2_getChar_3b067 22 = .ok (.ldc 54, 2) := by decide +kernel
theorem dJ2_getChar_3b067_24 : decode cJ2_getChar_3b067 24 = .ok (.invokespecial 56, 3) := by decide +kernel
theorem dJ2_getChar_3b067_27 : decode cJ2_getChar_3b067 27 = .ok (.athrow, 1) := by decide +kernel
theorem dJ2_getChar_3b067_28 : decode cJ2_getChar_3b067 28 = .ok (.iload_n 1, 1) := by decide +kernel
theorem dJ2_getChar_3b067_29 : decode cJ2_getChar_3b067 29 = .ok (.iconst 1, 1) := by decide +kernel
theorem dJ2_getChar_3b067_30 : decode cJ2_getChar_3b067 30 = .ok (.ishl, 1) := by decide +kernel
theorem dJ2_getChar_3b067_31 : decode cJ2_getChar_3b067 31 = .ok (.istore_n 1, 1) := by decide +kernel
theorem dJ2_getChar_3b067_32 : decode cJ2_getChar_3b067 32 = .ok (.aload_n 0, 1) := by decide +kernel
theorem dJ2_getChar_3b067_33 : decode cJ2_getChar_3b067 33 = .ok (.iload_n 1, 1) := by decide +kernel
theorem dJ2_getChar_3b067_34 : decode cJ2_getChar_3b067 34 = .ok (.iinc 1 1, 3) := by decide +kernel
theorem dJ2_getChar_3b067_37 : decode cJ2_getChar_3b067 37 = .ok (.baload, 1) := by decide +kernel
theorem dJ2_getChar_3b067_38 : decode cJ2_getChar_3b067 38 = .ok (.sipush 255, 3) := by decide +kernel
theorem dJ2_getChar_3b067_41 : decode cJ2_getChar_3b067 41 = .ok (.iand, 1) := by decide +kernel
theorem dJ2_getChar_3b067_42 : decode cJ2_getChar_3b067 42 = .ok (.getstatic 59, 3) := by decide +kernel
theorem dJ2_getChar_3b067_45 : decode cJ2_getChar_3b067 45 = .ok (.ishl, 1) := by decide +kernel
theorem dJ2_getChar_3b067_46 : decode cJ2_getChar_3b067 46 = .ok (.aload_n 0, 1) := by decide +kernel
theorem dJ2_getChar_3b067_47 : decode cJ2_getChar_3b067 47 = .ok (.iload_n 1, 1) := by decide +kernel
theorem dJ2_getChar_3b067_48 : decode cJ2_getChar_3b067 48 = .ok (.baload, 1) := by decide +kernel
theorem dJ2_getChar_3b067_49 : decode cJ2_getChar_3b067 49 = .ok (.sipush 255, 3) := by decide +kernel
theorem dJ2_getChar_3b067_52 : decode cJ2_getChar_3b067 52 = .ok (.iand, 1) := by decide +kernel
theorem dJ2_getChar_3b067_53 : decode cJ2_getChar_3b067 53 = .ok (.getstatic 63, 3) := by decide +kernel
theorem dJ2_getChar_3b067_56 : decode cJ2_getChar_3b067 56 = .ok (.ishl, 1) := by decide +kernel
theorem dJ2_getChar_3b067_57 : decode cJ2_getChar_3b067 57 = .ok (.ior, 1) := by decide +kernel
theorem dJ2_getChar_3b067_58 : decode cJ2_getChar_3b067 58 = .ok (.i2c, 1) := by decide +kernel
theorem dJ2_getChar_3b067_59 : decode cJ2_getChar_3b067 59 = .ok (.ireturn, 1) := by decide +kernel
theorem dJ2_length_9d52b_0 : decode cJ2_length_9d52b 0 = .ok (.aload_n 0, 1) := by decide +kernel
theorem dJ2_length_9d52b_1 : decode cJ2_length_9d52b 1 = .ok (.arraylength, 1) := by decide +kernel
theorem dJ2_length_9d52b_2 : decode cJ2_length_9d52b 2 = .ok (.iconst 1, 1) := by decide +kernel
theorem dJ2_length_9d52b_3 : decode cJ2_length_9d52b 3 = .ok (.ishr, 1) := by decide +kernel
theorem dJ2_length_9d52b_4 : decode cJ2_length_9d52b 4 = .ok (.ireturn, 1) := by decide +kernel
theorem dJ2_charAt_3b067_0 : decode cJ2_charAt_3b067 0 = .ok (.iload_n 1, 1) := by decide +kernel
theorem dJ2_charAt_3b067_1 : decode cJ2_charAt_3b067 1 = .ok (.aload_n 0, 1) := by decide +kernel
theorem dJ2_charAt_3b067_2 : decode cJ2_charAt_3b067 2 = .ok (.invokestatic 67, 3) := by decide +kernel
theorem dJ2_charAt_3b067_5 : decode cJ2_charAt_3b067 5 = .ok (.aload_n 0, 1) := by decide +kernel
theorem dJ2_charAt_3b067_6 : decode cJ2_charAt_3b067 6 = .ok (.iload_n 1, 1) := by decide +kernel
theorem dJ2_charAt_3b067_7 : decode cJ2_charAt_3b067 7 = .ok (.invokestatic 71, 3) := by decide +kernel
theorem dJ2_charAt_3b067_10 : decode cJ2_charAt_3b067 10 = .ok (.ireturn, 1) := by decide +kernel
theorem dJ2_checkIndex_2214a_0 : decode cJ2_checkIndex_2214a 0 = .ok (.iload_n 0, 1) := by decide +kernel
theorem dJ2_checkIndex_2214a_1 : decode cJ2_checkIndex_2214a 1 = .ok (.aload_n 1, 1) := by decide +kernel
theorem dJ2_checkIndex_2214a_2 : decode cJ2_checkIndex_2214a 2 = .ok (.invokestatic 48, 3) := by decide +kernel
theorem dJ2_checkIndex_2214a_5 : decode cJ2_checkIndex_2214a 5 = .ok (.invokestatic 414, 3) := by decide +kernel
theorem dJ2_checkIndex_2214a_8 : decode cJ2_checkIndex_2214a 8 = .ok (.return_, 1) := by decide +kernel
theorem dJ7_fill_53178_0 : decode cJ7_fill_53178 0 = .ok (.iconst 0, 1) := by decide +kernel
theorem dJ7_fill_53178_1 : decode cJ7_fill_53178 1 = .ok (.istore_n 2, 1) := by decide +kernel
theorem dJ7_fill_53178_2 : decode cJ7_fill_53178 2 = .ok (.aload_n 0, 1) := by decide +kernel
theorem dJ7_fill_53178_3 : decode cJ7_fill_53178 3 = .ok (.arraylength, 1) := by decide +kernel
theorem dJ7_fill_53178_4 : decode cJ7_fill_53178 4 = .ok (.istore_n 3, 1) := by decide +kernel
theorem dJ7_fill_53178_5 : decode cJ7_fill_53178 5 = .ok (.iload_n 2, 1) := by decide +kernel
theorem dJ7_fill_53178_6 : decode cJ7_fill_53178 6 = .ok (.iload_n 3, 1) := by decide +kernel
theorem dJ7_fill_53178_7 : decode cJ7_fill_53178 7 = .ok (.if_icmp .ge 13, 3) := by decide +kernel
theorem dJ7_fill_53178_10 : decode cJ7_fill_53178 10 = .ok (.aload_n 0, 1) := by decide +kernel
theorem dJ7_fill_53178_11 : decode cJ7_fill_53178 11 = .ok (.iload_n 2, 1) := by decide +kernel
theorem dJ7_fill_53178_12 : decode cJ7_fill_53178 12 = .ok (.iload_n 1, 1) := by decide +kernel
theorem dJ7_fill_53178_13 : decode cJ7_fill_53178 13 = .ok (.iastore, 1) := by decide +kernel
theorem dJ7_fill_53178_14 : decode cJ7_fill_53178 14 = .ok (.iinc 2 1, 3) := by decide +kernel
theorem dJ7_fill_53178_17 : decode cJ7_fill_53178 17 = .ok (.goto (-12), 3) := by decide +kernel
theorem dJ7_fill_53178_20 : decode cJ7_fill_53178 20 = .ok (.return_, 1) := by decide +kernel
theorem dJ3_checkIndex_8e157_0 : decode cJ3_checkIndex_8e157 0 = .ok (.iload_n 0, 1) := by decide +kernel
theorem dJ3_checkIndex_8e157_1 : decode cJ3_checkIndex_8e157 1 = .ok (.ifCond .lt 8, 3) := by decide +kernel
theorem dJ3_checkIndex_8e157_4 : decode cJ3_checkIndex_8e157 4 = .ok (.iload_n 0, 1) := by decide +kernel
theorem dJ3_checkIndex_8e157_5 : decode cJ3_checkIndex_8e157 5 = .ok (.iload_n 1, 1) := by decide +kernel
theorem dJ3_checkIndex_8e157_6 : decode cJ3_checkIndex_8e157 6 = .ok (.if_icmp .lt 10, 3) := by decide +kernel
theorem dJ3_checkIndex_8e157_9 : decode cJ3_checkIndex_8e157 9 = .ok (.aload_n 2, 1) := by decide +kernel
theorem dJ3_checkIndex_8e157_10 : decode cJ3_checkIndex_8e157 10 = .ok (.iload_n 0, 1) := by decide +kernel
theorem dJ3_checkIndex_8e157_11 : decode cJ3_checkIndex_8e157 11 = .ok (.iload_n 1, 1) := by decide +kernel
theorem dJ3_checkIndex_8e157_12 : decode cJ3_checkIndex_8e157 12 = .ok (.invokestatic 95, 3) := by decide +kernel
theorem dJ3_checkIndex_8e157_15 : decode cJ3_checkIndex_8e157 15 = .ok (.athrow, 1) := by decide +kernel
theorem dJ3_checkIndex_8e157_16 : decode cJ3_checkIndex_8e157 16 = .ok (.iload_n 0, 1) := by decide +kernel
theorem dJ3_checkIndex_8e157_17 : decode cJ3_checkIndex_8e157 17 = .ok (.ireturn, 1) := by decide +kernel
