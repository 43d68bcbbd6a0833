theorem dX0_init_0 : decode cX0_init 0 = .ok (.aload_n 0, 1) := by decide +kernel
theorem dX0_init_1 : decode cX0_init 1 = .ok (.invokespecial 3, 3) := by decide +kernel
theorem dX0_init_4 : decode cX0_init 4 = .ok (.aload_n 0, 1) := by decide +kernel
theorem dX0_init_5 : decode cX0_init 5 = .ok (.bipush 9, 2) := by decide +kernel
theorem dX0_init_7 : decode cX0_init 7 = .ok (.anewarray 9, 3) := by decide +kernel
theorem dX0_init_10 : decode cX0_init 10 = .ok (.putfield 11, 3) := by decide +kernel
theorem dX0_init_13 : decode cX0_init 13 = .ok (.aload_n 0, 1) := by decide +kernel
theorem dX0_init_14 : decode cX0_init 14 = .ok (.iconst 0, 1) := by decide +kernel
theorem dX0_init_15 : decode cX0_init 15 = .ok (.putfield 17, 3) := by decide +kernel
theorem dX0_init_18 : decode cX0_init 18 = .ok (.aload_n 0, 1) := by decide +kernel
theorem dX0_init_19 : decode cX0_init 19 = .ok (.iconst 0, 1) := by decide +kernel
theorem dX0_init_20 : decode cX0_init 20 = .ok (.putfield 21, 3) := by decide +kernel
theorem dX0_init_23 : decode cX0_init 23 = .ok (.aload_n 0, 1) := by decide +kernel
theorem dX0_init_24 : decode cX0_init 24 = .ok (.iconst 0, 1) := by decide +kernel
theorem dX0_init_25 : decode cX0_init 25 = .ok (.putfield 24, 3) := by decide +kernel
theorem dX0_init_28 : decode cX0_init 28 = .ok (.aload_n 0, 1) := by decide +kernel
theorem dX0_init_29 : decode cX0_init 29 = .ok (.iconst 0, 1) := by decide +kernel
theorem dX0_init_30 : decode cX0_init 30 = .ok (.putfield 27, 3) := by decide +kernel
theorem dX0_init_33 : decode cX0_init 33 = .ok (.aload_n 0, 1) := by decide +kernel
theorem dX0_init_34 : decode cX0_init 34 = .ok (.iconst 0, 1) := by decide +kernel
theorem dX0_init_35 : decode cX0_init 35 = .ok (.putfield 30, 3) := by decide +kernel
theorem dX0_init_38 : decode cX0_init 38 = .ok (.aload_n 0, 1) := by decide +kernel
theorem dX0_init_39 : decode cX0_init 39 = .ok (.iconst 1, 1) := by decide +kernel
theorem dX0_init_40 : decode cX0_init 40 = .ok (.putfield 33, 3) := by decide +kernel
theorem dX0_init_43 : decode cX0_init 43 = .ok (.aload_n 0, 1) := by decide +kernel
theorem dX0_init_44 : decode cX0_init 44 = .ok (.bipush 14, 2) := by decide +kernel
theorem dX0_init_46 : decode cX0_init 46 = .ok (.anewarray 36, 3) := by decide +kernel
theorem dX0_init_49 : decode cX0_init 49 = .ok (.putfield 38, 3) := by decide +kernel
theorem dX0_init_52 : decode cX0_init 52 = .ok (.aload_n 0, 1) := by decide +kernel
theorem dX0_init_53 : decode cX0_init 53 = .ok (.iconst 0, 1) := by decide +kernel
theorem dX0_init_54 : decode cX0_init 54 = .ok (.putfield 42, 3) := by decide +kernel
theorem dX0_init_57 : decode cX0_init 57 = .ok (.aload_n 0, 1) := by decide +kernel
theorem dX0_init_58 : decode cX0_init 58 = .ok (.iconst 3, 1) := by decide +kernel
theorem dX0_init_59 : decode cX0_init 59 = .ok (.newarray .int, 2) := by decide +kernel
theorem dX0_init_61 : decode cX0_init 61 = .ok (.putfield 45, 3) := by decide +kernel
theorem dX0_init_64 : decode cX0_init 64 = .ok (.iconst 0, 1) := by decide +kernel
theorem dX0_init_65 : decode cX0_init 65 = .ok (.istore_n 1, 1) := by decide +kernel
theorem dX0_init_66 : decode cX0_init 66 = .ok (.iload_n 1, 1) := by decide +kernel
theorem dX0_init_67 : decode cX0_init 67 = .ok (.bipush 9, 2) := by decide +kernel
theorem dX0_init_69 : decode cX0_init 69 = .ok (.if_icmp .ge 22, 3) := by decide +kernel
theorem dX0_init_72 : decode cX0_init 72 = .ok (.aload_n 0, 1) := by decide +kernel
theorem dX0_init_73 : decode cX0_init 73 = .ok (.getfield 11, 3) := by decide +kernel
theorem dX0_init_76 : decode cX0_init 76 = .ok (.iload_n 1, 1) := by decide +kernel
theorem dX0_init_77 : decode cX0_init 77 = .ok (.new 9, 3) := by decide +kernel
theorem dX0_init_80 : decode cX0_init 80 = .ok (.dup, 1) := by decide +kernel
theorem dX0_init_81 : decode cX0_init 81 = .ok (.invokespecial 49, 3) := by decide +kernel
theorem dX0_init_84 : decode cX0_init 84 = .ok (.aastore, 1) := by decide +kernel
theorem dX0_init_85 : decode cX0_init 85 = .ok (.iinc 1 1, 3) := by decide +kernel
theorem dX0_init_88 : decode cX0_init 88 = .ok (.goto (-22), 3) := by decide +kernel
theorem dX0_init_91 : decode cX0_init 91 = .ok (.aload_n 0, 1) := by decide +kernel
theorem dX0_init_92 : decode cX0_init 92 = .ok (.getfield 45, 3) := by decide +kernel
theorem dX0_init_95 : decode cX0_init 95 = .ok (.ldc 50, 2) := by decide +kernel
theorem dX0_init_97 : decode cX0_init 97 = .ok (.invokestatic 51, 3) := by decide +kernel
theorem dX0_init_100 : decode cX0_init 100 = .ok (.return_, 1) := by decide +kernel
theorem dX0_becomeAs_0 : decode cX0_becomeAs 0 = .ok (.iconst 0, 1) := by decide +kernel
theorem dX0_becomeAs_1 : decode cX0_becomeAs 1 = .ok (.istore_n 2, 1) := by decide +kernel
theorem dX0_becomeAs_2 : decode cX0_becomeAs 2 = .ok (.iload_n 2, 1) := by decide +kernel
theorem dX0_becomeAs_3 : decode cX0_becomeAs 3 = .ok (.aload_n 1, 1) := by decide +kernel
theorem dX0_becomeAs_4 : decode cX0_becomeAs 4 = .ok (.getfield 17, 3) := by decide +kernel
theorem dX0_becomeAs_7 : decode cX0_becomeAs 7 = .ok (.if_icmp .ge 24, 3) := by decide +kernel
theorem dX0_becomeAs_10 : decode cX0_becomeAs 10 = .ok (.aload_n 0, 1) := by decide +kernel
theorem dX0_becomeAs_11 : decode cX0_becomeAs 11 = .ok (.getfield 11, 3) := by decide +kernel
theorem dX0_becomeAs_14 : decode cX0_becomeAs 14 = .ok (.iload_n 2, 1) := by decide +kernel
theorem dX0_becomeAs_15 : decode cX0_becomeAs 15 = .ok (.aaload, 1) := by decide +kernel
theorem dX0_becomeAs_16 : decode cX0_becomeAs 16 = .ok (.aload_n 1, 1) := by decide +kernel
theorem dX0_becomeAs_17 : decode cX0_becomeAs 17 = .ok (.getfield 11, 3) := by decide +kernel
theorem dX0_becomeAs_20 : decode cX0_becomeAs 20 = .ok (.iload_n 2, 1) := by decide +kernel
theorem dX0_becomeAs_21 : decode cX0_becomeAs 21 = .ok (.aaload, 1) := by decide +kernel
theorem dX0_becomeAs_22 : decode cX0_becomeAs 22 = .ok (.invokevirtual 57, 3) := by decide +kernel
theorem dX0_becomeAs_25 : decode cX0_becomeAs 25 = .ok (.iinc 2 1, 3) := by decide +kernel
theorem dX0_becomeAs_28 : decode cX0_becomeAs 28 = .ok (.goto (-26), 3) := by decide +kernel
theorem dX0_becomeAs_31 : decode cX0_becomeAs 31 = .ok (.aload_n 0, 1) := by decide +kernel
theorem dX0_becomeAs_32 : decode cX0_becomeAs 32 = .ok (.aload_n 1, 1) := by decide +kernel
theorem dX0_becomeAs_33 : decode cX0_becomeAs 33 = .ok (.getfield 17, 3) := by decide +kernel
theorem dX0_becomeAs_36 : decode cX0_becomeAs 36 = .ok (.putfield 17, 3) := by decide +kernel
theorem dX0_becomeAs_39 : decode cX0_becomeAs 39 = .ok (.aload_n 0, 1) := by decide +kernel
theorem dX0_becomeAs_40 : decode cX0_becomeAs 40 = .ok (.aload_n 1, 1) := by decide +kernel
theorem dX0_becomeAs_41 : decode cX0_becomeAs 41 = .ok (.getfield 21, 3) := by decide +kernel
theorem dX0_becomeAs_44 : decode cX0_becomeAs 44 = .ok (.putfield 21, 3) := by decide +kernel
theorem dX0_becomeAs_47 : decode cX0_becomeAs 47 = .ok (.aload_n 0, 1) := by decide +kernel
theorem dX0_becomeAs_48 : decode cX0_becomeAs 48 = .ok (.aload_n 1, 1) := by decide +kernel
theorem dX0_becomeAs_49 : decode cX0_becomeAs 49 = .ok (.getfield 24, 3) := by decide +kernel
theorem dX0_becomeAs_52 : decode cX0_becomeAs 52 = .ok (.putfield 24, 3) := by decide +kernel
theorem dX0_becomeAs_55 : decode cX0_becomeAs 55 = .ok (.aload_n 0, 1) := by decide +kernel
theorem dX0_becomeAs_56 : decode cX0_becomeAs 56 = .ok (.aload_n 1, 1) := by decide +kernel
theorem dX0_becomeAs_57 : decode cX0_becomeAs 57 = .ok (.getfield 27, 3) := by decide +kernel
theorem dX0_becomeAs_60 : decode cX0_becomeAs 60 = .ok (.putfield 27, 3) := by decide +kernel
theorem dX0_becomeAs_63 : decode cX0_becomeAs 63 = .ok (.aload_n 0, 1) := by decide +kernel
theorem dX0_becomeAs_64 : decode cX0_becomeAs 64 = .ok (.aload_n 1, 1) := by decide +kernel
theorem dX0_becomeAs_65 : decode cX0_becomeAs 65 = .ok (.getfield 30, 3) := by decide +kernel
theorem dX0_becomeAs_68 : decode cX0_becomeAs 68 = .ok (.putfield 30, 3) := by decide +kernel
theorem dX0_becomeAs_71 : decode cX0_becomeAs 71 = .ok (.aload_n 0, 1) := by decide +kernel
theorem dX0_becomeAs_72 : decode cX0_becomeAs 72 = .ok (.aload_n 1, 1) := by decide +kernel
theorem dX0_becomeAs_73 : decode cX0_becomeAs 73 = .ok (.getfield 33, 3) := by decide +kernel
theorem dX0_becomeAs_76 : decode cX0_becomeAs 76 = .ok (.putfield 33, 3) := by decide +kernel
theorem dX0_becomeAs_79 : decode cX0_becomeAs 79 = .ok (.iconst 0, 1) := by decide +kernel
theorem dX0_becomeAs_80 : decode cX0_becomeAs 80 = .ok (.istore_n 2, 1) := by decide +kernel
theorem dX0_becomeAs_81 : decode cX0_becomeAs 81 = .ok (.iload_n 2, 1) := by decide +kernel
theorem dX0_becomeAs_82 : decode cX0_becomeAs 82 = .ok (.aload_n 1, 1) := by decide +kernel
theorem dX0_becomeAs_83 : decode cX0_becomeAs 83 = .ok (.getfield 42, 3) := by decide +kernel
theorem dX0_becomeAs_86 : decode cX0_becomeAs 86 = .ok (.if_icmp .ge 21, 3) := by decide +kernel
theorem dX0_becomeAs_89 : decode cX0_becomeAs 89 = .ok (.aload_n 0, 1) := by decide +kernel
theorem dX0_becomeAs_90 : decode cX0_becomeAs 90 = .ok (.getfield 38, 3) := by decide +kernel
theorem dX0_becomeAs_93 : decode cX0_becomeAs 93 = .ok (.iload_n 2, 1) := by decide +kernel
theorem dX0_becomeAs_94 : decode cX0_becomeAs 94 = .ok (.aload_n 1, 1) := by decide +kernel
theorem dX0_becomeAs_95 : decode cX0_becomeAs 95 = .ok (.getfield 38, 3) := by decide +kernel
theorem dX0_becomeAs_98 : decode cX0_becomeAs 98 = .ok (.iload_n 2, 1) := by decide +kernel
theorem dX0_becomeAs_99 : decode cX0_becomeAs 99 = .ok (.aaload, 1) := by decide +kernel
theorem dX0_becomeAs_100 : decode cX0_becomeAs 100 = .ok (.aastore, 1) := by decide +kernel
theorem dX0_becomeAs_101 : decode cX0_becomeAs 101 = .ok (.iinc 2 1, 3) := by decide +kernel
theorem dX0_becomeAs_104 : decode cX0_becomeAs 104 = .ok (.goto (-23), 3) := by decide +kernel
theorem dX0_becomeAs_107 : decode cX0_becomeAs 107 = .ok (.aload_n 0, 1) := by decide +kernel
theorem dX0_becomeAs_108 : decode cX0_becomeAs 108 = .ok (.aload_n 1, 1) := by decide +kernel
theorem dX0_becomeAs_109 : decode cX0_becomeAs 109 = .ok (.getfield 42, 3) := by decide +kernel
theorem dX0_becomeAs_112 : decode cX0_becomeAs 112 = .ok (.putfield 42, 3) := by decide +kernel
theorem dX0_becomeAs_115 : decode cX0_becomeAs 115 = .ok (.aload_n 1, 1) := by decide +kernel
theorem dX0_becomeAs_116 : decode cX0_becomeAs 116 = .ok (.getfield 45, 3) := by decide +kernel
theorem dX0_becomeAs_119 : decode cX0_becomeAs 119 = .ok (.iconst 0, 1) := by decide +kernel
theorem dX0_becomeAs_120 : decode cX0_becomeAs 120 = .ok (.aload_n 0, 1) := by decide +kernel
theorem dX0_becomeAs_121 : decode cX0_becomeAs 121 = .ok (.getfield 45, 3) := by decide +kernel
theorem dX0_becomeAs_124 : decode cX0_becomeAs 124 = .ok (.iconst 0, 1) := by decide +kernel
theorem dX0_becomeAs_125 : decode cX0_becomeAs 125 = .ok (.iconst 3, 1) := by decide +kernel
theorem dX0_becomeAs_126 : decode cX0_becomeAs 126 = .ok (.invokestatic 61, 3) := by decide +kernel
theorem dX0_becomeAs_129 : decode cX0_becomeAs 129 = .ok (.return_, 1) := by decide +kernel
theorem dX0_has_0 : decode cX0_has 0 = .ok (.iload_n 1, 1) := by decide +kernel
theorem dX0_has_1 : decode cX0_has 1 = .ok (.ifCond .lt 15, 3) := by decide +kernel
theorem dX0_has_4 : decode cX0_has 4 = .ok (.iload_n 1, 1) := by decide +kernel
theorem dX0_has_5 : decode cX0_has 5 = .ok (.aload_n 0, 1) := by decide +kernel
theorem dX0_has_6 : decode cX0_has 6 = .ok (.getfield 17, 3) := by decide +kernel
theorem dX0_has_9 : decode cX0_has 9 = .ok (.if_icmp .ge 7, 3) := by decide +kernel
theorem dX0_has_12 : decode cX0_has 12 = .ok (.iconst 1, 1) := by decide +kernel
theorem dX0_has_13 : decode cX0_has 13 = .ok (.goto 4, 3) := by decide +kernel
theorem dX0_has_16 : decode cX0_has 16 = .ok (.iconst 0, 1) := by decide +kernel
theorem dX0_has_17 : decode cX0_has 17 = .ok (.ireturn, 1) := by decide +kernel
theorem dX0_stands_0 : decode cX0_stands 0 = .ok (.aload_n 0, 1) := by decide +kernel
theorem dX0_stands_1 : decode cX0_stands 1 = .ok (.iload_n 1, 1) := by decide +kernel
theorem dX0_stands_2 : decode cX0_stands 2 = .ok (.invokevirtual 67, 3) := by decide +kernel
theorem dX0_stands_5 : decode cX0_stands 5 = .ok (.ifCond .eq 19, 3) := by decide +kernel
theorem dX0_stands_8 : decode cX0_stands 8 = .ok (.aload_n 0, 1) := by decide +kernel
theorem dX0_stands_9 : decode cX0_stands 9 = .ok (.getfield 11, 3) := by decide +kernel
theorem dX0_stands_12 : decode cX0_stands 12 = .ok (.iload_n 1, 1) := by decide +kernel
theorem dX0_stands_13 : decode cX0_stands 13 = .ok (.aaload, 1) := by decide +kernel
theorem dX0_stands_14 : decode cX0_stands 14 = .ok (.getfield 71, 3) := by decide +kernel
theorem dX0_stands_17 : decode cX0_stands 17 = .ok (.ifCond .ne 7, 3) := by decide +kernel
theorem dX0_stands_20 : decode cX0_stands 20 = .ok (.iconst 1, 1) := by decide +kernel
theorem dX0_stands_21 : decode cX0_stands 21 = .ok (.goto 4, 3) := by decide +kernel
theorem dX0_stands_24 : decode cX0_stands 24 = .ok (.iconst 0, 1) := by decide +kernel
theorem dX0_stands_25 : decode cX0_stands 25 = .ok (.ireturn, 1) := by decide +kernel
theorem dX0_standing_0 : decode cX0_standing 0 = .ok (.aload_n 0, 1) := by decide +kernel
theorem dX0_standing_1 : decode cX0_standing 1 = .ok (.invokevirtual 75, 3) := by decide +kernel
theorem dX0_standing_4 : decode cX0_standing 4 = .ok (.invokestatic 79, 3) := by decide +kernel
theorem dX0_standing_7 : decode cX0_standing 7 = .ok (.ireturn, 1) := by decide +kernel
theorem dX0_standingSet_0 : decode cX0_standingSet 0 = .ok (.iconst 0, 1) := by decide +kernel
theorem dX0_standingSet_1 : decode cX0_standingSet 1 = .ok (.istore_n 1, 1) := by decide +kernel
theorem dX0_standingSet_2 : decode cX0_standingSet 2 = .ok (.iconst 0, 1) := by decide +kernel
theorem dX0_standingSet_3 : decode cX0_standingSet 3 = .ok (.istore_n 2, 1) := by decide +kernel
theorem dX0_standingSet_4 : decode cX0_standingSet 4 = .ok (.iload_n 2, 1) := by decide +kernel
theorem dX0_standingSet_5 : decode cX0_standingSet 5 = .ok (.aload_n 0, 1) := by decide +kernel
theorem dX0_standingSet_6 : decode cX0_standingSet 6 = .ok (.getfield 17, 3) := by decide +kernel
theorem dX0_standingSet_9 : decode cX0_standingSet 9 = .ok (.if_icmp .ge 27, 3) := by decide +kernel
theorem dX0_standingSet_12 : decode cX0_standingSet 12 = .ok (.aload_n 0, 1) := by decide +kernel
theorem dX0_standingSet_13 : decode cX0_standingSet 13 = .ok (.getfield 11, 3) := by decide +kernel
theorem dX0_standingSet_16 : decode cX0_standingSet 16 = .ok (.iload_n 2, 1) := by decide +kernel
theorem dX0_standingSet_17 : decode cX0_standingSet 17 = .ok (.aaload, 1) := by decide +kernel
theorem dX0_standingSet_18 : decode cX0_standingSet 18 = .ok (.getfield 71, 3) := by decide +kernel
theorem dX0_standingSet_21 : decode cX0_standingSet 21 = .ok (.ifCond .ne 9, 3) := by decide +kernel
theorem dX0_standingSet_24 : decode cX0_standingSet 24 = .ok (.iload_n 1, 1) := by decide +kernel
theorem dX0_standingSet_25 : decode cX0_standingSet 25 = .ok (.iconst 1, 1) := by decide +kernel
theorem dX0_standingSet_26 : decode cX0_standingSet 26 = .ok (.iload_n 2, 1) := by decide +kernel
theorem dX0_standingSet_27 : decode cX0_standingSet 27 = .ok (.ishl, 1) := by decide +kernel
theorem dX0_standingSet_28 : decode cX0_standingSet 28 = .ok (.ior, 1) := by decide +kernel
theorem dX0_standingSet_29 : decode cX0_standingSet 29 = .ok (.istore_n 1, 1) := by decide +kernel
theorem dX0_standingSet_30 : decode cX0_standingSet 30 = .ok (.iinc 2 1, 3) := by decide +kernel
theorem dX0_standingSet_33 : decode cX0_standingSet 33 = .ok (.goto (-29), 3) := by decide +kernel
theorem dX0_standingSet_36 : decode cX0_standingSet 36 = .ok (.iload_n 1, 1) := by decide +kernel
theorem dX0_standingSet_37 : decode cX0_standingSet 37 = .ok (.ireturn, 1) := by decide +kernel
theorem dX0_nerveOfAll_0 : decode cX0_nerveOfAll 0 = .ok (.iconst 0, 1) := by decide +kernel
theorem dX0_nerveOfAll_1 : decode cX0_nerveOfAll 1 = .ok (.istore_n 1, 1) := by decide +kernel
theorem dX0_nerveOfAll_2 : decode cX0_nerveOfAll 2 = .ok (.iconst 0, 1) := by decide +kernel
theorem dX0_nerveOfAll_3 : decode cX0_nerveOfAll 3 = .ok (.istore_n 2, 1) := by decide +kernel
theorem dX0_nerveOfAll_4 : decode cX0_nerveOfAll 4 = .ok (.iload_n 2, 1) := by decide +kernel
theorem dX0_nerveOfAll_5 : decode cX0_nerveOfAll 5 = .ok (.aload_n 0, 1) := by decide +kernel
theorem dX0_nerveOfAll_6 : decode cX0_nerveOfAll 6 = .ok (.getfield 17, 3) := by decide +kernel
theorem dX0_nerveOfAll_9 : decode cX0_nerveOfAll 9 = .ok (.if_icmp .ge 21, 3) := by decide +kernel
theorem dX0_nerveOfAll_12 : decode cX0_nerveOfAll 12 = .ok (.iload_n 1, 1) := by decide +kernel
theorem dX0_nerveOfAll_13 : decode cX0_nerveOfAll 13 = .ok (.aload_n 0, 1) := by decide +kernel
theorem dX0_nerveOfAll_14 : decode cX0_nerveOfAll 14 = .ok (.getfield 11, 3) := by decide +kernel
theorem dX0_nerveOfAll_17 : decode cX0_nerveOfAll 17 = .ok (.iload_n 2, 1) := by decide +kernel
theorem dX0_nerveOfAll_18 : decode cX0_nerveOfAll 18 = .ok (.aaload, 1) := by decide +kernel
theorem dX0_nerveOfAll_19 : decode cX0_nerveOfAll 19 = .ok (.getfield 85, 3) := by decide +kernel
theorem dX0_nerveOfAll_22 : decode cX0_nerveOfAll 22 = .ok (.iadd, 1) := by decide +kernel
theorem dX0_nerveOfAll_23 : decode cX0_nerveOfAll 23 = .ok (.istore_n 1, 1) := by decide +kernel
theorem dX0_nerveOfAll_24 : decode cX0_nerveOfAll 24 = .ok (.iinc 2 1, 3) := by decide +kernel
theorem dX0_nerveOfAll_27 : decode cX0_nerveOfAll 27 = .ok (.goto (-23), 3) := by decide +kernel
theorem dX0_nerveOfAll_30 : decode cX0_nerveOfAll 30 = .ok (.iload_n 1, 1) := by decide +kernel
theorem dX0_nerveOfAll_31 : decode cX0_nerveOfAll 31 = .ok (.ireturn, 1) := by decide +kernel
theorem dX0_mostFelled_0 : decode cX0_mostFelled 0 = .ok (.aload_n 0, 1) := by decide +kernel
theorem dX0_mostFelled_1 : decode cX0_mostFelled 1 = .ok (.getfield 17, 3) := by decide +kernel
theorem dX0_mostFelled_4 : decode cX0_mostFelled 4 = .ok (.ifCond .ne 6, 3) := by decide +kernel
theorem dX0_mostFelled_7 : decode cX0_mostFelled 7 = .ok (.ldc 50, 2) := by decide +kernel
theorem dX0_mostFelled_9 : decode cX0_mostFelled 9 = .ok (.ireturn, 1) := by decide +kernel
theorem dX0_mostFelled_10 : decode cX0_mostFelled 10 = .ok (.iconst 0, 1) := by decide +kernel
theorem dX0_mostFelled_11 : decode cX0_mostFelled 11 = .ok (.istore_n 1, 1) := by decide +kernel
theorem dX0_mostFelled_12 : decode cX0_mostFelled 12 = .ok (.iconst 1, 1) := by decide +kernel
theorem dX0_mostFelled_13 : decode cX0_mostFelled 13 = .ok (.istore_n 2, 1) := by decide +kernel
theorem dX0_mostFelled_14 : decode cX0_mostFelled 14 = .ok (.iload_n 2, 1) := by decide +kernel
theorem dX0_mostFelled_15 : decode cX0_mostFelled 15 = .ok (.aload_n 0, 1) := by decide +kernel
theorem dX0_mostFelled_16 : decode cX0_mostFelled 16 = .ok (.getfield 17, 3) := by decide +kernel
theorem dX0_mostFelled_19 : decode cX0_mostFelled 19 = .ok (.if_icmp .ge 32, 3) := by decide +kernel
theorem dX0_mostFelled_22 : decode cX0_mostFelled 22 = .ok (.aload_n 0, 1) := by decide +kernel
theorem dX0_mostFelled_23 : decode cX0_mostFelled 23 = .ok (.getfield 11, 3) := by decide +kernel
theorem dX0_mostFelled_26 : decode cX0_mostFelled 26 = .ok (.iload_n 2, 1) := by decide +kernel
theorem dX0_mostFelled_27 : decode cX0_mostFelled 27 = .ok (.aaload, 1) := by decide +kernel
theorem dX0_mostFelled_28 : decode cX0_mostFelled 28 = .ok (.getfield 88, 3) := by decide +kernel
theorem dX0_mostFelled_31 : decode cX0_mostFelled 31 = .ok (.aload_n 0, 1) := by decide +kernel
theorem dX0_mostFelled_32 : decode cX0_mostFelled 32 = .ok (.getfield 11, 3) := by decide +kernel
theorem dX0_mostFelled_35 : decode cX0_mostFelled 35 = .ok (.iload_n 1, 1) := by decide +kernel
theorem dX0_mostFelled_36 : decode cX0_mostFelled 36 = .ok (.aaload, 1) := by decide +kernel
theorem dX0_mostFelled_37 : decode cX0_mostFelled 37 = .ok (.getfield 88, 3) := by decide +kernel
theorem dX0_mostFelled_40 : decode cX0_mostFelled 40 = .ok (.if_icmp .le 5, 3) := by decide +kernel
theorem dX0_mostFelled_43 : decode cX0_mostFelled 43 = .ok (.iload_n 2, 1) := by decide +kernel
theorem dX0_mostFelled_44 : decode cX0_mostFelled 44 = .ok (.istore_n 1, 1) := by decide +kernel
theorem dX0_mostFelled_45 : decode cX0_mostFelled 45 = .ok (.iinc 2 1, 3) := by decide +kernel
theorem dX0_mostFelled_48 : decode cX0_mostFelled 48 = .ok (.goto (-34), 3) := by decide +kernel
theorem dX0_mostFelled_51 : decode cX0_mostFelled 51 = .ok (.iload_n 1, 1) := by decide +kernel
theorem dX0_mostFelled_52 : decode cX0_mostFelled 52 = .ok (.ireturn, 1) := by decide +kernel
theorem dX0_draw_0 : decode cX0_draw 0 = .ok (.aload_n 0, 1) := by decide +kernel
theorem dX0_draw_1 : decode cX0_draw 1 = .ok (.aload_n 0, 1) := by decide +kernel
theorem dX0_draw_2 : decode cX0_draw 2 = .ok (.getfield 33, 3) := by decide +kernel
theorem dX0_draw_5 : decode cX0_draw 5 = .ok (.ldc 91, 2) := by decide +kernel
theorem dX0_draw_7 : decode cX0_draw 7 = .ok (.imul, 1) := by decide +kernel
theorem dX0_draw_8 : decode cX0_draw 8 = .ok (.sipush 12345, 3) := by decide +kernel
theorem dX0_draw_11 : decode cX0_draw 11 = .ok (.iadd, 1) := by decide +kernel
theorem dX0_draw_12 : decode cX0_draw 12 = .ok (.putfield 33, 3) := by decide +kernel
theorem dX0_draw_15 : decode cX0_draw 15 = .ok (.aload_n 0, 1) := by decide +kernel
theorem dX0_draw_16 : decode cX0_draw 16 = .ok (.getfield 33, 3) := by decide +kernel
theorem dX0_draw_19 : decode cX0_draw 19 = .ok (.bipush 8, 2) := by decide +kernel
theorem dX0_draw_21 : decode cX0_draw 21 = .ok (.iushr, 1) := by decide +kernel
theorem dX0_draw_22 : decode cX0_draw 22 = .ok (.ireturn, 1) := by decide +kernel
theorem dX0_takeByLot_0 : decode cX0_takeByLot 0 = .ok (.aload_n 0, 1) := by decide +kernel
theorem dX0_takeByLot_1 : decode cX0_takeByLot 1 = .ok (.invokevirtual 92, 3) := by decide +kernel
theorem dX0_takeByLot_4 : decode cX0_takeByLot 4 = .ok (.bipush 6, 2) := by decide +kernel
theorem dX0_takeByLot_6 : decode cX0_takeByLot 6 = .ok (.irem, 1) := by decide +kernel
theorem dX0_takeByLot_7 : decode cX0_takeByLot 7 = .ok (.istore_n 1, 1) := by decide +kernel
theorem dX0_takeByLot_8 : decode cX0_takeByLot 8 = .ok (.aload_n 0, 1) := by decide +kernel
theorem dX0_takeByLot_9 : decode cX0_takeByLot 9 = .ok (.invokevirtual 92, 3) := by decide +kernel
theorem dX0_takeByLot_12 : decode cX0_takeByLot 12 = .ok (.bipush 100, 2) := by decide +kernel
theorem dX0_takeByLot_14 : decode cX0_takeByLot 14 = .ok (.irem, 1) := by decide +kernel
theorem dX0_takeByLot_15 : decode cX0_takeByLot 15 = .ok (.istore_n 2, 1) := by decide +kernel
theorem dX0_takeByLot_16 : decode cX0_takeByLot 16 = .ok (.aload_n 0, 1) := by decide +kernel
theorem dX0_takeByLot_17 : decode cX0_takeByLot 17 = .ok (.invokevirtual 92, 3) := by decide +kernel
theorem dX0_takeByLot_20 : decode cX0_takeByLot 20 = .ok (.bipush 100, 2) := by decide +kernel
theorem dX0_takeByLot_22 : decode cX0_takeByLot 22 = .ok (.irem, 1) := by decide +kernel
theorem dX0_takeByLot_23 : decode cX0_takeByLot 23 = .ok (.istore_n 3, 1) := by decide +kernel
theorem dX0_takeByLot_24 : decode cX0_takeByLot 24 = .ok (.aload_n 0, 1) := by decide +kernel
theorem dX0_takeByLot_25 : decode cX0_takeByLot 25 = .ok (.iload_n 1, 1) := by decide +kernel
theorem dX0_takeByLot_26 : decode cX0_takeByLot 26 = .ok (.iload_n 2, 1) := by decide +kernel
theorem dX0_takeByLot_27 : decode cX0_takeByLot 27 = .ok (.iload_n 3, 1) := by decide +kernel
theorem dX0_takeByLot_28 : decode cX0_takeByLot 28 = .ok (.aload_n 0, 1) := by decide +kernel
theorem dX0_takeByLot_29 : decode cX0_takeByLot 29 = .ok (.invokevirtual 92, 3) := by decide +kernel
theorem dX0_takeByLot_32 : decode cX0_takeByLot 32 = .ok (.bipush 8, 2) := by decide +kernel
theorem dX0_takeByLot_34 : decode cX0_takeByLot 34 = .ok (.irem, 1) := by decide +kernel
theorem dX0_takeByLot_35 : decode cX0_takeByLot 35 = .ok (.invokevirtual 95, 3) := by decide +kernel
theorem dX0_takeByLot_38 : decode cX0_takeByLot 38 = .ok (.pop, 1) := by decide +kernel
theorem dX0_takeByLot_39 : decode cX0_takeByLot 39 = .ok (.return_, 1) := by decide +kernel
theorem dX0_take_0 : decode cX0_take 0 = .ok (.aload_n 0, 1) := by decide +kernel
theorem dX0_take_1 : decode cX0_take 1 = .ok (.getfield 17, 3) := by decide +kernel
theorem dX0_take_4 : decode cX0_take 4 = .ok (.bipush 9, 2) := by decide +kernel
theorem dX0_take_6 : decode cX0_take 6 = .ok (.if_icmp .lt 6, 3) := by decide +kernel
theorem dX0_take_9 : decode cX0_take 9 = .ok (.ldc 99, 2) := by decide +kernel
theorem dX0_take_11 : decode cX0_take 11 = .ok (.ireturn, 1) := by decide +kernel
theorem dX0_take_12 : decode cX0_take 12 = .ok (.aload_n 0, 1) := by decide +kernel
theorem dX0_take_13 : decode cX0_take 13 = .ok (.getfield 11, 3) := by decide +kernel
theorem dX0_take_16 : decode cX0_take 16 = .ok (.aload_n 0, 1) := by decide +kernel
theorem dX0_take_17 : decode cX0_take 17 = .ok (.getfield 17, 3) := by decide +kernel
theorem dX0_take_20 : decode cX0_take 20 = .ok (.aaload, 1) := by decide +kernel
theorem dX0_take_21 : decode cX0_take 21 = .ok (.astore 5, 2) := by decide +kernel
theorem dX0_take_23 : decode cX0_take 23 = .ok (.aload 5, 2) := by decide +kernel
theorem dX0_take_25 : decode cX0_take 25 = .ok (.iload_n 1, 1) := by decide +kernel
theorem dX0_take_26 : decode cX0_take 26 = .ok (.putfield 100, 3) := by decide +kernel
theorem dX0_take_29 : decode cX0_take 29 = .ok (.aload 5, 2) := by decide +kernel
theorem dX0_take_31 : decode cX0_take 31 = .ok (.iload_n 2, 1) := by decide +kernel
theorem dX0_take_32 : decode cX0_take 32 = .ok (.putfield 85, 3) := by decide +kernel
theorem dX0_take_35 : decode cX0_take 35 = .ok (.aload 5, 2) := by decide +kernel
theorem dX0_take_37 : decode cX0_take 37 = .ok (.iload_n 3, 1) := by decide +kernel
theorem dX0_take_38 : decode cX0_take 38 = .ok (.putfield 103, 3) := by decide +kernel
theorem dX0_take_41 : decode cX0_take 41 = .ok (.aload 5, 2) := by decide +kernel
theorem dX0_take_43 : decode cX0_take 43 = .ok (.iload 4, 2) := by decide +kernel
theorem dX0_take_45 : decode cX0_take 45 = .ok (.putfield 106, 3) := by decide +kernel
theorem dX0_take_48 : decode cX0_take 48 = .ok (.aload 5, 2) := by decide +kernel
theorem dX0_take_50 : decode cX0_take 50 = .ok (.iconst 0, 1) := by decide +kernel
theorem dX0_take_51 : decode cX0_take 51 = .ok (.putfield 88, 3) := by decide +kernel
theorem dX0_take_54 : decode cX0_take 54 = .ok (.aload 5, 2) := by decide +kernel
theorem dX0_take_56 : decode cX0_take 56 = .ok (.iconst 0, 1) := by decide +kernel
theorem dX0_take_57 : decode cX0_take 57 = .ok (.putfield 71, 3) := by decide +kernel
theorem dX0_take_60 : decode cX0_take 60 = .ok (.aload_n 0, 1) := by decide +kernel
theorem dX0_take_61 : decode cX0_take 61 = .ok (.dup, 1) := by decide +kernel
theorem dX0_take_62 : decode cX0_take 62 = .ok (.getfield 17, 3) := by decide +kernel
theorem dX0_take_65 : decode cX0_take 65 = .ok (.iconst 1, 1) := by decide +kernel
theorem dX0_take_66 : decode cX0_take 66 = .ok (.iadd, 1) := by decide +kernel
theorem dX0_take_67 : decode cX0_take 67 = .ok (.putfield 17, 3) := by decide +kernel
theorem dX0_take_70 : decode cX0_take 70 = .ok (.aload_n 0, 1) := by decide +kernel
theorem dX0_take_71 : decode cX0_take 71 = .ok (.getfield 17, 3) := by decide +kernel
theorem dX0_take_74 : decode cX0_take 74 = .ok (.iconst 1, 1) := by decide +kernel
theorem dX0_take_75 : decode cX0_take 75 = .ok (.isub, 1) := by decide +kernel
theorem dX0_take_76 : decode cX0_take 76 = .ok (.ireturn, 1) := by decide +kernel
theorem dX0_takeText_0 : decode cX0_takeText 0 = .ok (.aload_n 0, 1) := by decide +kernel
theorem dX0_takeText_1 : decode cX0_takeText 1 = .ok (.getfield 42, 3) := by decide +kernel
theorem dX0_takeText_4 : decode cX0_takeText 4 = .ok (.bipush 14, 2) := by decide +kernel
theorem dX0_takeText_6 : decode cX0_takeText 6 = .ok (.if_icmp .ge 15, 3) := by decide +kernel
theorem dX0_takeText_9 : decode cX0_takeText 9 = .ok (.aload_n 1, 1) := by decide +kernel
theorem dX0_takeText_10 : decode cX0_takeText 10 = .ok (.getfield 109, 3) := by decide +kernel
theorem dX0_takeText_13 : decode cX0_takeText 13 = .ok (.iconst 0, 1) := by decide +kernel
theorem dX0_takeText_14 : decode cX0_takeText 14 = .ok (.iconst 2, 1) := by decide +kernel
theorem dX0_takeText_15 : decode cX0_takeText 15 = .ok (.invokestatic 112, 3) := by decide +kernel
theorem dX0_takeText_18 : decode cX0_takeText 18 = .ok (.ifCond .ne 6, 3) := by decide +kernel
theorem dX0_takeText_21 : decode cX0_takeText 21 = .ok (.ldc 99, 2) := by decide +kernel
theorem dX0_takeText_23 : decode cX0_takeText 23 = .ok (.ireturn, 1) := by decide +kernel
theorem dX0_takeText_24 : decode cX0_takeText 24 = .ok (.aload_n 0, 1) := by decide +kernel
theorem dX0_takeText_25 : decode cX0_takeText 25 = .ok (.getfield 38, 3) := by decide +kernel
theorem dX0_takeText_28 : decode cX0_takeText 28 = .ok (.aload_n 0, 1) := by decide +kernel
theorem dX0_takeText_29 : decode cX0_takeText 29 = .ok (.getfield 42, 3) := by decide +kernel
theorem dX0_takeText_32 : decode cX0_takeText 32 = .ok (.aload_n 1, 1) := by decide +kernel
theorem dX0_takeText_33 : decode cX0_takeText 33 = .ok (.aastore, 1) := by decide +kernel
theorem dX0_takeText_34 : decode cX0_takeText 34 = .ok (.aload_n 0, 1) := by decide +kernel
theorem dX0_takeText_35 : decode cX0_takeText 35 = .ok (.getfield 45, 3) := by decide +kernel
theorem dX0_takeText_38 : decode cX0_takeText 38 = .ok (.aload_n 1, 1) := by decide +kernel
theorem dX0_takeText_39 : decode cX0_takeText 39 = .ok (.getfield 109, 3) := by decide +kernel
theorem dX0_takeText_42 : decode cX0_takeText 42 = .ok (.aload_n 0, 1) := by decide +kernel
theorem dX0_takeText_43 : decode cX0_takeText 43 = .ok (.getfield 42, 3) := by decide +kernel
theorem dX0_takeText_46 : decode cX0_takeText 46 = .ok (.iastore, 1) := by decide +kernel
theorem dX0_takeText_47 : decode cX0_takeText 47 = .ok (.aload_n 0, 1) := by decide +kernel
theorem dX0_takeText_48 : decode cX0_takeText 48 = .ok (.dup, 1) := by decide +kernel
theorem dX0_takeText_49 : decode cX0_takeText 49 = .ok (.getfield 42, 3) := by decide +kernel
theorem dX0_takeText_52 : decode cX0_takeText 52 = .ok (.iconst 1, 1) := by decide +kernel
theorem dX0_takeText_53 : decode cX0_takeText 53 = .ok (.iadd, 1) := by decide +kernel
theorem dX0_takeText_54 : decode cX0_takeText 54 = .ok (.putfield 42, 3) := by decide +kernel
theorem dX0_takeText_57 : decode cX0_takeText 57 = .ok (.aload_n 0, 1) := by decide +kernel
theorem dX0_takeText_58 : decode cX0_takeText 58 = .ok (.getfield 42, 3) := by decide +kernel
theorem dX0_takeText_61 : decode cX0_takeText 61 = .ok (.iconst 1, 1) := by decide +kernel
theorem dX0_takeText_62 : decode cX0_takeText 62 = .ok (.isub, 1) := by decide +kernel
theorem dX0_takeText_63 : decode cX0_takeText 63 = .ok (.ireturn, 1) := by decide +kernel
theorem dX0_counted_0 : decode cX0_counted 0 = .ok (.aload_n 0, 1) := by decide +kernel
theorem dX0_counted_1 : decode cX0_counted 1 = .ok (.getfield 45, 3) := by decide +kernel
theorem dX0_counted_4 : decode cX0_counted 4 = .ok (.iload_n 1, 1) := by decide +kernel
theorem dX0_counted_5 : decode cX0_counted 5 = .ok (.iaload, 1) := by decide +kernel
theorem dX0_counted_6 : decode cX0_counted 6 = .ok (.istore_n 2, 1) := by decide +kernel
theorem dX0_counted_7 : decode cX0_counted 7 = .ok (.iload_n 2, 1) := by decide +kernel
theorem dX0_counted_8 : decode cX0_counted 8 = .ok (.iconst 0, 1) := by decide +kernel
theorem dX0_counted_9 : decode cX0_counted 9 = .ok (.aload_n 0, 1) := by decide +kernel
theorem dX0_counted_10 : decode cX0_counted 10 = .ok (.getfield 42, 3) := by decide +kernel
theorem dX0_counted_13 : decode cX0_counted 13 = .ok (.iconst 1, 1) := by decide +kernel
theorem dX0_counted_14 : decode cX0_counted 14 = .ok (.isub, 1) := by decide +kernel
theorem dX0_counted_15 : decode cX0_counted 15 = .ok (.invokestatic 112, 3) := by decide +kernel
theorem dX0_counted_18 : decode cX0_counted 18 = .ok (.ifCond .eq 12, 3) := by decide +kernel
theorem dX0_counted_21 : decode cX0_counted 21 = .ok (.aload_n 0, 1) := by decide +kernel
theorem dX0_counted_22 : decode cX0_counted 22 = .ok (.getfield 38, 3) := by decide +kernel
theorem dX0_counted_25 : decode cX0_counted 25 = .ok (.iload_n 2, 1) := by decide +kernel
theorem dX0_counted_26 : decode cX0_counted 26 = .ok (.aaload, 1) := by decide +kernel
theorem dX0_counted_27 : decode cX0_counted 27 = .ok (.goto 4, 3) := by decide +kernel
theorem dX0_counted_30 : decode cX0_counted 30 = .ok (.aconst_null, 1) := by decide +kernel
theorem dX0_counted_31 : decode cX0_counted 31 = .ok (.areturn, 1) := by decide +kernel
theorem dX0_plainBearing_0 : decode cX0_plainBearing 0 = .ok (.aload_n 0, 1) := by decide +kernel
theorem dX0_plainBearing_1 : decode cX0_plainBearing 1 = .ok (.getfield 11, 3) := by decide +kernel
theorem dX0_plainBearing_4 : decode cX0_plainBearing 4 = .ok (.iload_n 1, 1) := by decide +kernel
theorem dX0_plainBearing_5 : decode cX0_plainBearing 5 = .ok (.aaload, 1) := by decide +kernel
theorem dX0_plainBearing_6 : decode cX0_plainBearing 6 = .ok (.astore_n 3, 1) := by decide +kernel
theorem dX0_plainBearing_7 : decode cX0_plainBearing 7 = .ok (.aload_n 0, 1) := by decide +kernel
theorem dX0_plainBearing_8 : decode cX0_plainBearing 8 = .ok (.iconst 0, 1) := by decide +kernel
theorem dX0_plainBearing_9 : decode cX0_plainBearing 9 = .ok (.invokevirtual 116, 3) := by decide +kernel
theorem dX0_plainBearing_12 : decode cX0_plainBearing 12 = .ok (.astore 4, 2) := by decide +kernel
theorem dX0_plainBearing_14 : decode cX0_plainBearing 14 = .ok (.aload 4, 2) := by decide +kernel
theorem dX0_plainBearing_16 : decode cX0_plainBearing 16 = .ok (.ifnonnull 10, 3) := by decide +kernel
theorem dX0_plainBearing_19 : decode cX0_plainBearing 19 = .ok (.aload_n 3, 1) := by decide +kernel
theorem dX0_plainBearing_20 : decode cX0_plainBearing 20 = .ok (.getfield 85, 3) := by decide +kernel
theorem dX0_plainBearing_23 : decode cX0_plainBearing 23 = .ok (.goto 26, 3) := by decide +kernel
theorem dX0_plainBearing_26 : decode cX0_plainBearing 26 = .ok (.aload 4, 2) := by decide +kernel
theorem dX0_plainBearing_28 : decode cX0_plainBearing 28 = .ok (.aload_n 3, 1) := by decide +kernel
theorem dX0_plainBearing_29 : decode cX0_plainBearing 29 = .ok (.getfield 85, 3) := by decide +kernel
theorem dX0_plainBearing_32 : decode cX0_plainBearing 32 = .ok (.aload_n 3, 1) := by decide +kernel
theorem dX0_plainBearing_33 : decode cX0_plainBearing 33 = .ok (.getfield 103, 3) := by decide +kernel
theorem dX0_plainBearing_36 : decode cX0_plainBearing 36 = .ok (.aload_n 3, 1) := by decide +kernel
theorem dX0_plainBearing_37 : decode cX0_plainBearing 37 = .ok (.getfield 88, 3) := by decide +kernel
theorem dX0_plainBearing_40 : decode cX0_plainBearing 40 = .ok (.iload_n 2, 1) := by decide +kernel
theorem dX0_plainBearing_41 : decode cX0_plainBearing 41 = .ok (.invokevirtual 120, 3) := by decide +kernel
theorem dX0_plainBearing_44 : decode cX0_plainBearing 44 = .ok (.bipush 99, 2) := by decide +kernel
theorem dX0_plainBearing_46 : decode cX0_plainBearing 46 = .ok (.invokestatic 123, 3) := by decide +kernel
theorem dX0_plainBearing_49 : decode cX0_plainBearing 49 = .ok (.ireturn, 1) := by decide +kernel
theorem dX0_bearing_0 : decode cX0_bearing 0 = .ok (.aload_n 0, 1) := by decide +kernel
theorem dX0_bearing_1 : decode cX0_bearing 1 = .ok (.invokevirtual 127, 3) := by decide +kernel
theorem dX0_bearing_4 : decode cX0_bearing 4 = .ok (.istore_n 3, 1) := by decide +kernel
theorem dX0_bearing_5 : decode cX0_bearing 5 = .ok (.aload_n 0, 1) := by decide +kernel
theorem dX0_bearing_6 : decode cX0_bearing 6 = .ok (.getfield 11, 3) := by decide +kernel
theorem dX0_bearing_9 : decode cX0_bearing 9 = .ok (.iload_n 1, 1) := by decide +kernel
theorem dX0_bearing_10 : decode cX0_bearing 10 = .ok (.aaload, 1) := by decide +kernel
theorem dX0_bearing_11 : decode cX0_bearing 11 = .ok (.getfield 71, 3) := by decide +kernel
theorem dX0_bearing_14 : decode cX0_bearing 14 = .ok (.ifCond .eq 7, 3) := by decide +kernel
theorem dX0_bearing_17 : decode cX0_bearing 17 = .ok (.iload_n 3, 1) := by decide +kernel
theorem dX0_bearing_18 : decode cX0_bearing 18 = .ok (.goto 6, 3) := by decide +kernel
theorem dX0_bearing_21 : decode cX0_bearing 21 = .ok (.iload_n 3, 1) := by decide +kernel
theorem dX0_bearing_22 : decode cX0_bearing 22 = .ok (.iconst 1, 1) := by decide +kernel
theorem dX0_bearing_23 : decode cX0_bearing 23 = .ok (.isub, 1) := by decide +kernel
theorem dX0_bearing_24 : decode cX0_bearing 24 = .ok (.istore 4, 2) := by decide +kernel
theorem dX0_bearing_26 : decode cX0_bearing 26 = .ok (.aload_n 0, 1) := by decide +kernel
theorem dX0_bearing_27 : decode cX0_bearing 27 = .ok (.getfield 11, 3) := by decide +kernel
theorem dX0_bearing_30 : decode cX0_bearing 30 = .ok (.iload_n 1, 1) := by decide +kernel
theorem dX0_bearing_31 : decode cX0_bearing 31 = .ok (.aaload, 1) := by decide +kernel
theorem dX0_bearing_32 : decode cX0_bearing 32 = .ok (.aload_n 0, 1) := by decide +kernel
theorem dX0_bearing_33 : decode cX0_bearing 33 = .ok (.iload_n 1, 1) := by decide +kernel
theorem dX0_bearing_34 : decode cX0_bearing 34 = .ok (.iload_n 3, 1) := by decide +kernel
theorem dX0_bearing_35 : decode cX0_bearing 35 = .ok (.invokevirtual 130, 3) := by decide +kernel
theorem dX0_bearing_38 : decode cX0_bearing 38 = .ok (.iload_n 2, 1) := by decide +kernel
theorem dX0_bearing_39 : decode cX0_bearing 39 = .ok (.iload 4, 2) := by decide +kernel
theorem dX0_bearing_41 : decode cX0_bearing 41 = .ok (.invokevirtual 133, 3) := by decide +kernel
theorem dX0_bearing_44 : decode cX0_bearing 44 = .ok (.ireturn, 1) := by decide +kernel
theorem dX0_hit_0 : decode cX0_hit 0 = .ok (.iload 5, 2) := by decide +kernel
theorem dX0_hit_2 : decode cX0_hit 2 = .ok (.bipush 9, 2) := by decide +kernel
theorem dX0_hit_4 : decode cX0_hit 4 = .ok (.if_icmp .gt 21, 3) := by decide +kernel
theorem dX0_hit_7 : decode cX0_hit 7 = .ok (.aload_n 0, 1) := by decide +kernel
theorem dX0_hit_8 : decode cX0_hit 8 = .ok (.iload_n 1, 1) := by decide +kernel
theorem dX0_hit_9 : decode cX0_hit 9 = .ok (.invokevirtual 137, 3) := by decide +kernel
theorem dX0_hit_12 : decode cX0_hit 12 = .ok (.ifCond .eq 13, 3) := by decide +kernel
theorem dX0_hit_15 : decode cX0_hit 15 = .ok (.aload_n 0, 1) := by decide +kernel
theorem dX0_hit_16 : decode cX0_hit 16 = .ok (.iload_n 1, 1) := by decide +kernel
theorem dX0_hit_17 : decode cX0_hit 17 = .ok (.iload_n 2, 1) := by decide +kernel
theorem dX0_hit_18 : decode cX0_hit 18 = .ok (.invokevirtual 140, 3) := by decide +kernel
theorem dX0_hit_21 : decode cX0_hit 21 = .ok (.iload_n 3, 1) := by decide +kernel
theorem dX0_hit_22 : decode cX0_hit 22 = .ok (.if_icmp .lt 4, 3) := by decide +kernel
theorem dX0_hit_25 : decode cX0_hit 25 = .ok (.return_, 1) := by decide +kernel
theorem dX0_hit_26 : decode cX0_hit 26 = .ok (.aload_n 0, 1) := by decide +kernel
theorem dX0_hit_27 : decode cX0_hit 27 = .ok (.getfield 11, 3) := by decide +kernel
theorem dX0_hit_30 : decode cX0_hit 30 = .ok (.iload_n 1, 1) := by decide +kernel
theorem dX0_hit_31 : decode cX0_hit 31 = .ok (.aaload, 1) := by decide +kernel
theorem dX0_hit_32 : decode cX0_hit 32 = .ok (.astore 6, 2) := by decide +kernel
theorem dX0_hit_34 : decode cX0_hit 34 = .ok (.aload 6, 2) := by decide +kernel
theorem dX0_hit_36 : decode cX0_hit 36 = .ok (.iconst 1, 1) := by decide +kernel
theorem dX0_hit_37 : decode cX0_hit 37 = .ok (.putfield 71, 3) := by decide +kernel
theorem dX0_hit_40 : decode cX0_hit 40 = .ok (.aload 6, 2) := by decide +kernel
theorem dX0_hit_42 : decode cX0_hit 42 = .ok (.aload 6, 2) := by decide +kernel
theorem dX0_hit_44 : decode cX0_hit 44 = .ok (.getfield 88, 3) := by decide +kernel
theorem dX0_hit_47 : decode cX0_hit 47 = .ok (.iconst 1, 1) := by decide +kernel
theorem dX0_hit_48 : decode cX0_hit 48 = .ok (.iadd, 1) := by decide +kernel
theorem dX0_hit_49 : decode cX0_hit 49 = .ok (.sipush 9999, 3) := by decide +kernel
theorem dX0_hit_52 : decode cX0_hit 52 = .ok (.invokestatic 142, 3) := by decide +kernel
theorem dX0_hit_55 : decode cX0_hit 55 = .ok (.putfield 88, 3) := by decide +kernel
theorem dX0_hit_58 : decode cX0_hit 58 = .ok (.aload_n 0, 1) := by decide +kernel
theorem dX0_hit_59 : decode cX0_hit 59 = .ok (.dup, 1) := by decide +kernel
theorem dX0_hit_60 : decode cX0_hit 60 = .ok (.getfield 21, 3) := by decide +kernel
theorem dX0_hit_63 : decode cX0_hit 63 = .ok (.iconst 1, 1) := by decide +kernel
theorem dX0_hit_64 : decode cX0_hit 64 = .ok (.iadd, 1) := by decide +kernel
theorem dX0_hit_65 : decode cX0_hit 65 = .ok (.putfield 21, 3) := by decide +kernel
theorem dX0_hit_68 : decode cX0_hit 68 = .ok (.iload 4, 2) := by decide +kernel
theorem dX0_hit_70 : decode cX0_hit 70 = .ok (.iconst 1, 1) := by decide +kernel
theorem dX0_hit_71 : decode cX0_hit 71 = .ok (.if_icmp .eq 24, 3) := by decide +kernel
theorem dX0_hit_74 : decode cX0_hit 74 = .ok (.aload_n 0, 1) := by decide +kernel
theorem dX0_hit_75 : decode cX0_hit 75 = .ok (.getstatic 147, 3) := by decide +kernel
theorem dX0_hit_78 : decode cX0_hit 78 = .ok (.iload_n 1, 1) := by decide +kernel
theorem dX0_hit_79 : decode cX0_hit 79 = .ok (.iaload, 1) := by decide +kernel
theorem dX0_hit_80 : decode cX0_hit 80 = .ok (.iload_n 2, 1) := by decide +kernel
theorem dX0_hit_81 : decode cX0_hit 81 = .ok (.aload 6, 2) := by decide +kernel
theorem dX0_hit_83 : decode cX0_hit 83 = .ok (.invokevirtual 150, 3) := by decide +kernel
theorem dX0_hit_86 : decode cX0_hit 86 = .ok (.iload 4, 2) := by decide +kernel
theorem dX0_hit_88 : decode cX0_hit 88 = .ok (.iload 5, 2) := by decide +kernel
theorem dX0_hit_90 : decode cX0_hit 90 = .ok (.iconst 1, 1) := by decide +kernel
theorem dX0_hit_91 : decode cX0_hit 91 = .ok (.iadd, 1) := by decide +kernel
theorem dX0_hit_92 : decode cX0_hit 92 = .ok (.invokevirtual 153, 3) := by decide +kernel
theorem dX0_hit_95 : decode cX0_hit 95 = .ok (.iload 4, 2) := by decide +kernel
theorem dX0_hit_97 : decode cX0_hit 97 = .ok (.iconst (-1), 1) := by decide +kernel
theorem dX0_hit_98 : decode cX0_hit 98 = .ok (.if_icmp .eq 24, 3) := by decide +kernel
theorem dX0_hit_101 : decode cX0_hit 101 = .ok (.aload_n 0, 1) := by decide +kernel
theorem dX0_hit_102 : decode cX0_hit 102 = .ok (.getstatic 157, 3) := by decide +kernel
theorem dX0_hit_105 : decode cX0_hit 105 = .ok (.iload_n 1, 1) := by decide +kernel
theorem dX0_hit_106 : decode cX0_hit 106 = .ok (.iaload, 1) := by decide +kernel
theorem dX0_hit_107 : decode cX0_hit 107 = .ok (.iload_n 2, 1) := by decide +kernel
theorem dX0_hit_108 : decode cX0_hit 108 = .ok (.aload 6, 2) := by decide +kernel
theorem dX0_hit_110 : decode cX0_hit 110 = .ok (.invokevirtual 150, 3) := by decide +kernel
theorem dX0_hit_113 : decode cX0_hit 113 = .ok (.iload 4, 2) := by decide +kernel
theorem dX0_hit_115 : decode cX0_hit 115 = .ok (.iload 5, 2) := by decide +kernel
theorem dX0_hit_117 : decode cX0_hit 117 = .ok (.iconst 1, 1) := by decide +kernel
theorem dX0_hit_118 : decode cX0_hit 118 = .ok (.iadd, 1) := by decide +kernel
theorem dX0_hit_119 : decode cX0_hit 119 = .ok (.invokevirtual 153, 3) := by decide +kernel
theorem dX0_hit_122 : decode cX0_hit 122 = .ok (.return_, 1) := by decide +kernel
theorem dX0_setUp_0 : decode cX0_setUp 0 = .ok (.iconst 0, 1) := by decide +kernel
theorem dX0_setUp_1 : decode cX0_setUp 1 = .ok (.istore_n 1, 1) := by decide +kernel
theorem dX0_setUp_2 : decode cX0_setUp 2 = .ok (.iload_n 1, 1) := by decide +kernel
theorem dX0_setUp_3 : decode cX0_setUp 3 = .ok (.aload_n 0, 1) := by decide +kernel
theorem dX0_setUp_4 : decode cX0_setUp 4 = .ok (.getfield 17, 3) := by decide +kernel
theorem dX0_setUp_7 : decode cX0_setUp 7 = .ok (.if_icmp .ge 19, 3) := by decide +kernel
theorem dX0_setUp_10 : decode cX0_setUp 10 = .ok (.aload_n 0, 1) := by decide +kernel
theorem dX0_setUp_11 : decode cX0_setUp 11 = .ok (.getfield 11, 3) := by decide +kernel
theorem dX0_setUp_14 : decode cX0_setUp 14 = .ok (.iload_n 1, 1) := by decide +kernel
theorem dX0_setUp_15 : decode cX0_setUp 15 = .ok (.aaload, 1) := by decide +kernel
theorem dX0_setUp_16 : decode cX0_setUp 16 = .ok (.iconst 0, 1) := by decide +kernel
theorem dX0_setUp_17 : decode cX0_setUp 17 = .ok (.putfield 71, 3) := by decide +kernel
theorem dX0_setUp_20 : decode cX0_setUp 20 = .ok (.iinc 1 1, 3) := by decide +kernel
theorem dX0_setUp_23 : decode cX0_setUp 23 = .ok (.goto (-21), 3) := by decide +kernel
theorem dX0_setUp_26 : decode cX0_setUp 26 = .ok (.aload_n 0, 1) := by decide +kernel
theorem dX0_setUp_27 : decode cX0_setUp 27 = .ok (.iconst 0, 1) := by decide +kernel
theorem dX0_setUp_28 : decode cX0_setUp 28 = .ok (.putfield 27, 3) := by decide +kernel
theorem dX0_setUp_31 : decode cX0_setUp 31 = .ok (.aload_n 0, 1) := by decide +kernel
theorem dX0_setUp_32 : decode cX0_setUp 32 = .ok (.dup, 1) := by decide +kernel
theorem dX0_setUp_33 : decode cX0_setUp 33 = .ok (.getfield 24, 3) := by decide +kernel
theorem dX0_setUp_36 : decode cX0_setUp 36 = .ok (.iconst 1, 1) := by decide +kernel
theorem dX0_setUp_37 : decode cX0_setUp 37 = .ok (.iadd, 1) := by decide +kernel
theorem dX0_setUp_38 : decode cX0_setUp 38 = .ok (.putfield 24, 3) := by decide +kernel
theorem dX0_setUp_41 : decode cX0_setUp 41 = .ok (.return_, 1) := by decide +kernel
theorem dX0_goOn_0 : decode cX0_goOn 0 = .ok (.iconst 0, 1) := by decide +kernel
theorem dX0_goOn_1 : decode cX0_goOn 1 = .ok (.istore_n 2, 1) := by decide +kernel
theorem dX0_goOn_2 : decode cX0_goOn 2 = .ok (.iload_n 2, 1) := by decide +kernel
theorem dX0_goOn_3 : decode cX0_goOn 3 = .ok (.iload_n 1, 1) := by decide +kernel
theorem dX0_goOn_4 : decode cX0_goOn 4 = .ok (.if_icmp .ge 13, 3) := by decide +kernel
theorem dX0_goOn_7 : decode cX0_goOn 7 = .ok (.aload_n 0, 1) := by decide +kernel
theorem dX0_goOn_8 : decode cX0_goOn 8 = .ok (.invokevirtual 160, 3) := by decide +kernel
theorem dX0_goOn_11 : decode cX0_goOn 11 = .ok (.iinc 2 1, 3) := by decide +kernel
theorem dX0_goOn_14 : decode cX0_goOn 14 = .ok (.goto (-12), 3) := by decide +kernel
theorem dX0_goOn_17 : decode cX0_goOn 17 = .ok (.return_, 1) := by decide +kernel
theorem dX0_goOnce_0 : decode cX0_goOnce 0 = .ok (.aload_n 0, 1) := by decide +kernel
theorem dX0_goOnce_1 : decode cX0_goOnce 1 = .ok (.getfield 27, 3) := by decide +kernel
theorem dX0_goOnce_4 : decode cX0_goOnce 4 = .ok (.iconst 3, 1) := by decide +kernel
theorem dX0_goOnce_5 : decode cX0_goOnce 5 = .ok (.if_icmp .eq 10, 3) := by decide +kernel
theorem dX0_goOnce_8 : decode cX0_goOnce 8 = .ok (.aload_n 0, 1) := by decide +kernel
theorem dX0_goOnce_9 : decode cX0_goOnce 9 = .ok (.invokevirtual 127, 3) := by decide +kernel
theorem dX0_goOnce_12 : decode cX0_goOnce 12 = .ok (.ifCond .ne 7, 3) := by decide +kernel
theorem dX0_goOnce_15 : decode cX0_goOnce 15 = .ok (.aload_n 0, 1) := by decide +kernel
theorem dX0_goOnce_16 : decode cX0_goOnce 16 = .ok (.invokevirtual 163, 3) := by decide +kernel
theorem dX0_goOnce_19 : decode cX0_goOnce 19 = .ok (.aload_n 0, 1) := by decide +kernel
theorem dX0_goOnce_20 : decode cX0_goOnce 20 = .ok (.invokevirtual 92, 3) := by decide +kernel
theorem dX0_goOnce_23 : decode cX0_goOnce 23 = .ok (.bipush 8, 2) := by decide +kernel
theorem dX0_goOnce_25 : decode cX0_goOnce 25 = .ok (.irem, 1) := by decide +kernel
theorem dX0_goOnce_26 : decode cX0_goOnce 26 = .ok (.istore_n 1, 1) := by decide +kernel
theorem dX0_goOnce_27 : decode cX0_goOnce 27 = .ok (.aload_n 0, 1) := by decide +kernel
theorem dX0_goOnce_28 : decode cX0_goOnce 28 = .ok (.invokevirtual 92, 3) := by decide +kernel
theorem dX0_goOnce_31 : decode cX0_goOnce 31 = .ok (.bipush 100, 2) := by decide +kernel
theorem dX0_goOnce_33 : decode cX0_goOnce 33 = .ok (.irem, 1) := by decide +kernel
theorem dX0_goOnce_34 : decode cX0_goOnce 34 = .ok (.istore_n 2, 1) := by decide +kernel
theorem dX0_goOnce_35 : decode cX0_goOnce 35 = .ok (.aload_n 0, 1) := by decide +kernel
theorem dX0_goOnce_36 : decode cX0_goOnce 36 = .ok (.invokevirtual 92, 3) := by decide +kernel
theorem dX0_goOnce_39 : decode cX0_goOnce 39 = .ok (.iconst 3, 1) := by decide +kernel
theorem dX0_goOnce_40 : decode cX0_goOnce 40 = .ok (.irem, 1) := by decide +kernel
theorem dX0_goOnce_41 : decode cX0_goOnce 41 = .ok (.iconst 1, 1) := by decide +kernel
theorem dX0_goOnce_42 : decode cX0_goOnce 42 = .ok (.isub, 1) := by decide +kernel
theorem dX0_goOnce_43 : decode cX0_goOnce 43 = .ok (.istore_n 3, 1) := by decide +kernel
theorem dX0_goOnce_44 : decode cX0_goOnce 44 = .ok (.aload_n 0, 1) := by decide +kernel
theorem dX0_goOnce_45 : decode cX0_goOnce 45 = .ok (.invokevirtual 92, 3) := by decide +kernel
theorem dX0_goOnce_48 : decode cX0_goOnce 48 = .ok (.istore 4, 2) := by decide +kernel
theorem dX0_goOnce_50 : decode cX0_goOnce 50 = .ok (.aload_n 0, 1) := by decide +kernel
theorem dX0_goOnce_51 : decode cX0_goOnce 51 = .ok (.getfield 17, 3) := by decide +kernel
theorem dX0_goOnce_54 : decode cX0_goOnce 54 = .ok (.ifCond .le 22, 3) := by decide +kernel
theorem dX0_goOnce_57 : decode cX0_goOnce 57 = .ok (.aload_n 0, 1) := by decide +kernel
theorem dX0_goOnce_58 : decode cX0_goOnce 58 = .ok (.aload_n 0, 1) := by decide +kernel
theorem dX0_goOnce_59 : decode cX0_goOnce 59 = .ok (.iload 4, 2) := by decide +kernel
theorem dX0_goOnce_61 : decode cX0_goOnce 61 = .ok (.aload_n 0, 1) := by decide +kernel
theorem dX0_goOnce_62 : decode cX0_goOnce 62 = .ok (.getfield 17, 3) := by decide +kernel
theorem dX0_goOnce_65 : decode cX0_goOnce 65 = .ok (.irem, 1) := by decide +kernel
theorem dX0_goOnce_66 : decode cX0_goOnce 66 = .ok (.invokevirtual 166, 3) := by decide +kernel
theorem dX0_goOnce_69 : decode cX0_goOnce 69 = .ok (.iload_n 1, 1) := by decide +kernel
theorem dX0_goOnce_70 : decode cX0_goOnce 70 = .ok (.iload_n 2, 1) := by decide +kernel
theorem dX0_goOnce_71 : decode cX0_goOnce 71 = .ok (.iload_n 3, 1) := by decide +kernel
theorem dX0_goOnce_72 : decode cX0_goOnce 72 = .ok (.iconst 0, 1) := by decide +kernel
theorem dX0_goOnce_73 : decode cX0_goOnce 73 = .ok (.invokevirtual 153, 3) := by decide +kernel
theorem dX0_goOnce_76 : decode cX0_goOnce 76 = .ok (.aload_n 0, 1) := by decide +kernel
theorem dX0_goOnce_77 : decode cX0_goOnce 77 = .ok (.invokevirtual 169, 3) := by decide +kernel
theorem dX0_goOnce_80 : decode cX0_goOnce 80 = .ok (.aload_n 0, 1) := by decide +kernel
theorem dX0_goOnce_81 : decode cX0_goOnce 81 = .ok (.dup, 1) := by decide +kernel
theorem dX0_goOnce_82 : decode cX0_goOnce 82 = .ok (.getfield 27, 3) := by decide +kernel
theorem dX0_goOnce_85 : decode cX0_goOnce 85 = .ok (.iconst 1, 1) := by decide +kernel
theorem dX0_goOnce_86 : decode cX0_goOnce 86 = .ok (.iadd, 1) := by decide +kernel
theorem dX0_goOnce_87 : decode cX0_goOnce 87 = .ok (.putfield 27, 3) := by decide +kernel
theorem dX0_goOnce_90 : decode cX0_goOnce 90 = .ok (.aload_n 0, 1) := by decide +kernel
theorem dX0_goOnce_91 : decode cX0_goOnce 91 = .ok (.dup, 1) := by decide +kernel
theorem dX0_goOnce_92 : decode cX0_goOnce 92 = .ok (.getfield 30, 3) := by decide +kernel
theorem dX0_goOnce_95 : decode cX0_goOnce 95 = .ok (.iconst 1, 1) := by decide +kernel
theorem dX0_goOnce_96 : decode cX0_goOnce 96 = .ok (.iadd, 1) := by decide +kernel
theorem dX0_goOnce_97 : decode cX0_goOnce 97 = .ok (.putfield 30, 3) := by decide +kernel
theorem dX0_goOnce_100 : decode cX0_goOnce 100 = .ok (.return_, 1) := by decide +kernel
theorem dX0_firstStandingFrom_0 : decode cX0_firstStandingFrom 0 = .ok (.iconst 0, 1) := by decide +kernel
theorem dX0_firstStandingFrom_1 : decode cX0_firstStandingFrom 1 = .ok (.istore_n 2, 1) := by decide +kernel
theorem dX0_firstStandingFrom_2 : decode cX0_firstStandingFrom 2 = .ok (.iload_n 2, 1) := by decide +kernel
theorem dX0_firstStandingFrom_3 : decode cX0_firstStandingFrom 3 = .ok (.aload_n 0, 1) := by decide +kernel
theorem dX0_firstStandingFrom_4 : decode cX0_firstStandingFrom 4 = .ok (.getfield 17, 3) := by decide +kernel
theorem dX0_firstStandingFrom_7 : decode cX0_firstStandingFrom 7 = .ok (.if_icmp .ge 28, 3) := by decide +kernel
theorem dX0_firstStandingFrom_10 : decode cX0_firstStandingFrom 10 = .ok (.iload_n 1, 1) := by decide +kernel
theorem dX0_firstStandingFrom_11 : decode cX0_firstStandingFrom 11 = .ok (.iload_n 2, 1) := by decide +kernel
theorem dX0_firstStandingFrom_12 : decode cX0_firstStandingFrom 12 = .ok (.iadd, 1) := by decide +kernel
theorem dX0_firstStandingFrom_13 : decode cX0_firstStandingFrom 13 = .ok (.aload_n 0, 1) := by decide +kernel
theorem dX0_firstStandingFrom_14 : decode cX0_firstStandingFrom 14 = .ok (.getfield 17, 3) := by decide +kernel
theorem dX0_firstStandingFrom_17 : decode cX0_firstStandingFrom 17 = .ok (.irem, 1) := by decide +kernel
theorem dX0_firstStandingFrom_18 : decode cX0_firstStandingFrom 18 = .ok (.istore_n 3, 1) := by decide +kernel
theorem dX0_firstStandingFrom_19 : decode cX0_firstStandingFrom 19 = .ok (.aload_n 0, 1) := by decide +kernel
theorem dX0_firstStandingFrom_20 : decode cX0_firstStandingFrom 20 = .ok (.iload_n 3, 1) := by decide +kernel
theorem dX0_firstStandingFrom_21 : decode cX0_firstStandingFrom 21 = .ok (.invokevirtual 137, 3) := by decide +kernel
theorem dX0_firstStandingFrom_24 : decode cX0_firstStandingFrom 24 = .ok (.ifCond .eq 5, 3) := by decide +kernel
theorem dX0_firstStandingFrom_27 : decode cX0_firstStandingFrom 27 = .ok (.iload_n 3, 1) := by decide +kernel
theorem dX0_firstStandingFrom_28 : decode cX0_firstStandingFrom 28 = .ok (.ireturn, 1) := by decide +kernel
theorem dX0_firstStandingFrom_29 : decode cX0_firstStandingFrom 29 = .ok (.iinc 2 1, 3) := by decide +kernel
theorem dX0_firstStandingFrom_32 : decode cX0_firstStandingFrom 32 = .ok (.goto (-30), 3) := by decide +kernel
theorem dX0_firstStandingFrom_35 : decode cX0_firstStandingFrom 35 = .ok (.iconst (-1), 1) := by decide +kernel
theorem dX0_firstStandingFrom_36 : decode cX0_firstStandingFrom 36 = .ok (.ireturn, 1) := by decide +kernel
theorem dX0_moveNerves_0 : decode cX0_moveNerves 0 = .ok (.iconst 0, 1) := by decide +kernel
theorem dX0_moveNerves_1 : decode cX0_moveNerves 1 = .ok (.istore_n 1, 1) := by decide +kernel
theorem dX0_moveNerves_2 : decode cX0_moveNerves 2 = .ok (.iload_n 1, 1) := by decide +kernel
theorem dX0_moveNerves_3 : decode cX0_moveNerves 3 = .ok (.aload_n 0, 1) := by decide +kernel
theorem dX0_moveNerves_4 : decode cX0_moveNerves 4 = .ok (.getfield 17, 3) := by decide +kernel
theorem dX0_moveNerves_7 : decode cX0_moveNerves 7 = .ok (.if_icmp .ge 47, 3) := by decide +kernel
theorem dX0_moveNerves_10 : decode cX0_moveNerves 10 = .ok (.aload_n 0, 1) := by decide +kernel
theorem dX0_moveNerves_11 : decode cX0_moveNerves 11 = .ok (.getfield 11, 3) := by decide +kernel
theorem dX0_moveNerves_14 : decode cX0_moveNerves 14 = .ok (.iload_n 1, 1) := by decide +kernel
theorem dX0_moveNerves_15 : decode cX0_moveNerves 15 = .ok (.aaload, 1) := by decide +kernel
theorem dX0_moveNerves_16 : decode cX0_moveNerves 16 = .ok (.astore_n 2, 1) := by decide +kernel
theorem dX0_moveNerves_17 : decode cX0_moveNerves 17 = .ok (.aload_n 2, 1) := by decide +kernel
theorem dX0_moveNerves_18 : decode cX0_moveNerves 18 = .ok (.aload_n 2, 1) := by decide +kernel
theorem dX0_moveNerves_19 : decode cX0_moveNerves 19 = .ok (.getfield 71, 3) := by decide +kernel
theorem dX0_moveNerves_22 : decode cX0_moveNerves 22 = .ok (.ifCond .eq 12, 3) := by decide +kernel
theorem dX0_moveNerves_25 : decode cX0_moveNerves 25 = .ok (.aload_n 2, 1) := by decide +kernel
theorem dX0_moveNerves_26 : decode cX0_moveNerves 26 = .ok (.getfield 85, 3) := by decide +kernel
theorem dX0_moveNerves_29 : decode cX0_moveNerves 29 = .ok (.iconst 1, 1) := by decide +kernel
theorem dX0_moveNerves_30 : decode cX0_moveNerves 30 = .ok (.isub, 1) := by decide +kernel
theorem dX0_moveNerves_31 : decode cX0_moveNerves 31 = .ok (.goto 9, 3) := by decide +kernel
theorem dX0_moveNerves_34 : decode cX0_moveNerves 34 = .ok (.aload_n 2, 1) := by decide +kernel
theorem dX0_moveNerves_35 : decode cX0_moveNerves 35 = .ok (.getfield 85, 3) := by decide +kernel
theorem dX0_moveNerves_38 : decode cX0_moveNerves 38 = .ok (.iconst 1, 1) := by decide +kernel
theorem dX0_moveNerves_39 : decode cX0_moveNerves 39 = .ok (.iadd, 1) := by decide +kernel
theorem dX0_moveNerves_40 : decode cX0_moveNerves 40 = .ok (.bipush 99, 2) := by decide +kernel
theorem dX0_moveNerves_42 : decode cX0_moveNerves 42 = .ok (.invokestatic 123, 3) := by decide +kernel
theorem dX0_moveNerves_45 : decode cX0_moveNerves 45 = .ok (.putfield 85, 3) := by decide +kernel
theorem dX0_moveNerves_48 : decode cX0_moveNerves 48 = .ok (.iinc 1 1, 3) := by decide +kernel
theorem dX0_moveNerves_51 : decode cX0_moveNerves 51 = .ok (.goto (-49), 3) := by decide +kernel
theorem dX0_moveNerves_54 : decode cX0_moveNerves 54 = .ok (.return_, 1) := by decide +kernel
theorem dX1_init_0 : decode cX1_init 0 = .ok (.aload_n 0, 1) := by decide +kernel
theorem dX1_init_1 : decode cX1_init 1 = .ok (.invokespecial 3, 3) := by decide +kernel
theorem dX1_init_4 : decode cX1_init 4 = .ok (.aload_n 0, 1) := by decide +kernel
theorem dX1_init_5 : decode cX1_init 5 = .ok (.iconst 0, 1) := by decide +kernel
theorem dX1_init_6 : decode cX1_init 6 = .ok (.putfield 9, 3) := by decide +kernel
theorem dX1_init_9 : decode cX1_init 9 = .ok (.aload_n 0, 1) := by decide +kernel
theorem dX1_init_10 : decode cX1_init 10 = .ok (.iconst 0, 1) := by decide +kernel
theorem dX1_init_11 : decode cX1_init 11 = .ok (.putfield 15, 3) := by decide +kernel
theorem dX1_init_14 : decode cX1_init 14 = .ok (.aload_n 0, 1) := by decide +kernel
theorem dX1_init_15 : decode cX1_init 15 = .ok (.iconst 0, 1) := by decide +kernel
theorem dX1_init_16 : decode cX1_init 16 = .ok (.putfield 18, 3) := by decide +kernel
theorem dX1_init_19 : decode cX1_init 19 = .ok (.aload_n 0, 1) := by decide +kernel
theorem dX1_init_20 : decode cX1_init 20 = .ok (.iconst 0, 1) := by decide +kernel
theorem dX1_init_21 : decode cX1_init 21 = .ok (.putfield 21, 3) := by decide +kernel
theorem dX1_init_24 : decode cX1_init 24 = .ok (.aload_n 0, 1) := by decide +kernel
theorem dX1_init_25 : decode cX1_init 25 = .ok (.iconst 0, 1) := by decide +kernel
theorem dX1_init_26 : decode cX1_init 26 = .ok (.putfield 24, 3) := by decide +kernel
theorem dX1_init_29 : decode cX1_init 29 = .ok (.aload_n 0, 1) := by decide +kernel
theorem dX1_init_30 : decode cX1_init 30 = .ok (.iconst 0, 1) := by decide +kernel
theorem dX1_init_31 : decode cX1_init 31 = .ok (.putfield 27, 3) := by decide +kernel
theorem dX1_init_34 : decode cX1_init 34 = .ok (.return_, 1) := by decide +kernel
theorem dX1_becomeAs_0 : decode cX1_becomeAs 0 = .ok (.aload_n 0, 1) := by decide +kernel
theorem dX1_becomeAs_1 : decode cX1_becomeAs 1 = .ok (.aload_n 1, 1) := by decide +kernel
theorem dX1_becomeAs_2 : decode cX1_becomeAs 2 = .ok (.getfield 9, 3) := by decide +kernel
theorem dX1_becomeAs_5 : decode cX1_becomeAs 5 = .ok (.putfield 9, 3) := by decide +kernel
theorem dX1_becomeAs_8 : decode cX1_becomeAs 8 = .ok (.aload_n 0, 1) := by decide +kernel
theorem dX1_becomeAs_9 : decode cX1_becomeAs 9 = .ok (.aload_n 1, 1) := by decide +kernel
theorem dX1_becomeAs_10 : decode cX1_becomeAs 10 = .ok (.getfield 15, 3) := by decide +kernel
theorem dX1_becomeAs_13 : decode cX1_becomeAs 13 = .ok (.putfield 15, 3) := by decide +kernel
theorem dX1_becomeAs_16 : decode cX1_becomeAs 16 = .ok (.aload_n 0, 1) := by decide +kernel
theorem dX1_becomeAs_17 : decode cX1_becomeAs 17 = .ok (.aload_n 1, 1) := by decide +kernel
theorem dX1_becomeAs_18 : decode cX1_becomeAs 18 = .ok (.getfield 18, 3) := by decide +kernel
theorem dX1_becomeAs_21 : decode cX1_becomeAs 21 = .ok (.putfield 18, 3) := by decide +kernel
theorem dX1_becomeAs_24 : decode cX1_becomeAs 24 = .ok (.aload_n 0, 1) := by decide +kernel
theorem dX1_becomeAs_25 : decode cX1_becomeAs 25 = .ok (.aload_n 1, 1) := by decide +kernel
theorem dX1_becomeAs_26 : decode cX1_becomeAs 26 = .ok (.getfield 21, 3) := by decide +kernel
theorem dX1_becomeAs_29 : decode cX1_becomeAs 29 = .ok (.putfield 21, 3) := by decide +kernel
theorem dX1_becomeAs_32 : decode cX1_becomeAs 32 = .ok (.aload_n 0, 1) := by decide +kernel
theorem dX1_becomeAs_33 : decode cX1_becomeAs 33 = .ok (.aload_n 1, 1) := by decide +kernel
theorem dX1_becomeAs_34 : decode cX1_becomeAs 34 = .ok (.getfield 24, 3) := by decide +kernel
theorem dX1_becomeAs_37 : decode cX1_becomeAs 37 = .ok (.putfield 24, 3) := by decide +kernel
theorem dX1_becomeAs_40 : decode cX1_becomeAs 40 = .ok (.aload_n 0, 1) := by decide +kernel
theorem dX1_becomeAs_41 : decode cX1_becomeAs 41 = .ok (.aload_n 1, 1) := by decide +kernel
theorem dX1_becomeAs_42 : decode cX1_becomeAs 42 = .ok (.getfield 27, 3) := by decide +kernel
theorem dX1_becomeAs_45 : decode cX1_becomeAs 45 = .ok (.putfield 27, 3) := by decide +kernel
theorem dX1_becomeAs_48 : decode cX1_becomeAs 48 = .ok (.return_, 1) := by decide +kernel
theorem dX1_isOf_0 : decode cX1_isOf 0 = .ok (.aload_n 0, 1) := by decide +kernel
theorem dX1_isOf_1 : decode cX1_isOf 1 = .ok (.getfield 9, 3) := by decide +kernel
theorem dX1_isOf_4 : decode cX1_isOf 4 = .ok (.istore_n 2, 1) := by decide +kernel
theorem dX1_isOf_5 : decode cX1_isOf 5 = .ok (.iconst 0, 1) := by decide +kernel
theorem dX1_isOf_6 : decode cX1_isOf 6 = .ok (.istore_n 3, 1) := by decide +kernel
theorem dX1_isOf_7 : decode cX1_isOf 7 = .ok (.iload_n 3, 1) := by decide +kernel
theorem dX1_isOf_8 : decode cX1_isOf 8 = .ok (.bipush 6, 2) := by decide +kernel
theorem dX1_isOf_10 : decode cX1_isOf 10 = .ok (.if_icmp .ge 31, 3) := by decide +kernel
theorem dX1_isOf_13 : decode cX1_isOf 13 = .ok (.iload_n 2, 1) := by decide +kernel
theorem dX1_isOf_14 : decode cX1_isOf 14 = .ok (.iconst 0, 1) := by decide +kernel
theorem dX1_isOf_15 : decode cX1_isOf 15 = .ok (.iconst 5, 1) := by decide +kernel
theorem dX1_isOf_16 : decode cX1_isOf 16 = .ok (.invokestatic 31, 3) := by decide +kernel
theorem dX1_isOf_19 : decode cX1_isOf 19 = .ok (.ifCond .eq 22, 3) := by decide +kernel
theorem dX1_isOf_22 : decode cX1_isOf 22 = .ok (.iload_n 2, 1) := by decide +kernel
theorem dX1_isOf_23 : decode cX1_isOf 23 = .ok (.iload_n 1, 1) := by decide +kernel
theorem dX1_isOf_24 : decode cX1_isOf 24 = .ok (.if_icmp .ne 5, 3) := by decide +kernel
theorem dX1_isOf_27 : decode cX1_isOf 27 = .ok (.iconst 1, 1) := by decide +kernel
theorem dX1_isOf_28 : decode cX1_isOf 28 = .ok (.ireturn, 1) := by decide +kernel
theorem dX1_isOf_29 : decode cX1_isOf 29 = .ok (.getstatic 35, 3) := by decide +kernel
theorem dX1_isOf_32 : decode cX1_isOf 32 = .ok (.iload_n 2, 1) := by decide +kernel
theorem dX1_isOf_33 : decode cX1_isOf 33 = .ok (.iaload, 1) := by decide +kernel
theorem dX1_isOf_34 : decode cX1_isOf 34 = .ok (.istore_n 2, 1) := by decide +kernel
theorem dX1_isOf_35 : decode cX1_isOf 35 = .ok (.iinc 3 1, 3) := by decide +kernel
theorem dX1_isOf_38 : decode cX1_isOf 38 = .ok (.goto (-31), 3) := by decide +kernel
theorem dX1_isOf_41 : decode cX1_isOf 41 = .ok (.iconst 0, 1) := by decide +kernel
theorem dX1_isOf_42 : decode cX1_isOf 42 = .ok (.ireturn, 1) := by decide +kernel
theorem dX1_bearing_0 : decode cX1_bearing 0 = .ok (.iload_n 2, 1) := by decide +kernel
theorem dX1_bearing_1 : decode cX1_bearing 1 = .ok (.aload_n 0, 1) := by decide +kernel
theorem dX1_bearing_2 : decode cX1_bearing 2 = .ok (.getfield 21, 3) := by decide +kernel
theorem dX1_bearing_5 : decode cX1_bearing 5 = .ok (.if_icmp .ne 14, 3) := by decide +kernel
theorem dX1_bearing_8 : decode cX1_bearing 8 = .ok (.iconst 0, 1) := by decide +kernel
theorem dX1_bearing_9 : decode cX1_bearing 9 = .ok (.iload_n 1, 1) := by decide +kernel
theorem dX1_bearing_10 : decode cX1_bearing 10 = .ok (.bipush 20, 2) := by decide +kernel
theorem dX1_bearing_12 : decode cX1_bearing 12 = .ok (.isub, 1) := by decide +kernel
theorem dX1_bearing_13 : decode cX1_bearing 13 = .ok (.invokestatic 39, 3) := by decide +kernel
theorem dX1_bearing_16 : decode cX1_bearing 16 = .ok (.goto 4, 3) := by decide +kernel
theorem dX1_bearing_19 : decode cX1_bearing 19 = .ok (.iload_n 1, 1) := by decide +kernel
theorem dX1_bearing_20 : decode cX1_bearing 20 = .ok (.istore 4, 2) := by decide +kernel
theorem dX1_bearing_22 : decode cX1_bearing 22 = .ok (.iload 4, 2) := by decide +kernel
theorem dX1_bearing_24 : decode cX1_bearing 24 = .ok (.aload_n 0, 1) := by decide +kernel
theorem dX1_bearing_25 : decode cX1_bearing 25 = .ok (.getfield 18, 3) := by decide +kernel
theorem dX1_bearing_28 : decode cX1_bearing 28 = .ok (.bipush 10, 2) := by decide +kernel
theorem dX1_bearing_30 : decode cX1_bearing 30 = .ok (.idiv, 1) := by decide +kernel
theorem dX1_bearing_31 : decode cX1_bearing 31 = .ok (.iadd, 1) := by decide +kernel
theorem dX1_bearing_32 : decode cX1_bearing 32 = .ok (.istore 5, 2) := by decide +kernel
theorem dX1_bearing_34 : decode cX1_bearing 34 = .ok (.iload_n 2, 1) := by decide +kernel
theorem dX1_bearing_35 : decode cX1_bearing 35 = .ok (.ifCond .ne 8, 3) := by decide +kernel
theorem dX1_bearing_38 : decode cX1_bearing 38 = .ok (.bipush 99, 2) := by decide +kernel
theorem dX1_bearing_40 : decode cX1_bearing 40 = .ok (.goto 5, 3) := by decide +kernel
theorem dX1_bearing_43 : decode cX1_bearing 43 = .ok (.iload 4, 2) := by decide +kernel
theorem dX1_bearing_45 : decode cX1_bearing 45 = .ok (.istore 6, 2) := by decide +kernel
theorem dX1_bearing_47 : decode cX1_bearing 47 = .ok (.aload_n 0, 1) := by decide +kernel
theorem dX1_bearing_48 : decode cX1_bearing 48 = .ok (.getfield 9, 3) := by decide +kernel
theorem dX1_bearing_51 : decode cX1_bearing 51 = .ok (.tableswitch 59 1 5 #[33, 43, 36, 46, 56], 33) := by decide +kernel
theorem dX1_bearing_84 : decode cX1_bearing 84 = .ok (.iload 5, 2) := by decide +kernel
theorem dX1_bearing_86 : decode cX1_bearing 86 = .ok (.ireturn, 1) := by decide +kernel
theorem dX1_bearing_87 : decode cX1_bearing 87 = .ok (.iload 5, 2) := by decide +kernel
theorem dX1_bearing_89 : decode cX1_bearing 89 = .ok (.iconst 5, 1) := by decide +kernel
theorem dX1_bearing_90 : decode cX1_bearing 90 = .ok (.iload_n 3, 1) := by decide +kernel
theorem dX1_bearing_91 : decode cX1_bearing 91 = .ok (.imul, 1) := by decide +kernel
theorem dX1_bearing_92 : decode cX1_bearing 92 = .ok (.iadd, 1) := by decide +kernel
theorem dX1_bearing_93 : decode cX1_bearing 93 = .ok (.ireturn, 1) := by decide +kernel
theorem dX1_bearing_94 : decode cX1_bearing 94 = .ok (.iload 6, 2) := by decide +kernel
theorem dX1_bearing_96 : decode cX1_bearing 96 = .ok (.ireturn, 1) := by decide +kernel
theorem dX1_bearing_97 : decode cX1_bearing 97 = .ok (.iconst 0, 1) := by decide +kernel
theorem dX1_bearing_98 : decode cX1_bearing 98 = .ok (.iload 6, 2) := by decide +kernel
theorem dX1_bearing_100 : decode cX1_bearing 100 = .ok (.bipush 10, 2) := by decide +kernel
theorem dX1_bearing_102 : decode cX1_bearing 102 = .ok (.isub, 1) := by decide +kernel
theorem dX1_bearing_103 : decode cX1_bearing 103 = .ok (.invokestatic 39, 3) := by decide +kernel
theorem dX1_bearing_106 : decode cX1_bearing 106 = .ok (.ireturn, 1) := by decide +kernel
theorem dX1_bearing_107 : decode cX1_bearing 107 = .ok (.bipush 99, 2) := by decide +kernel
theorem dX1_bearing_109 : decode cX1_bearing 109 = .ok (.ireturn, 1) := by decide +kernel
theorem dX1_bearing_110 : decode cX1_bearing 110 = .ok (.iload 4, 2) := by decide +kernel
theorem dX1_bearing_112 : decode cX1_bearing 112 = .ok (.ireturn, 1) := by decide +kernel
theorem dX1_pushing_0 : decode cX1_pushing 0 = .ok (.aload_n 0, 1) := by decide +kernel
theorem dX1_pushing_1 : decode cX1_pushing 1 = .ok (.getfield 9, 3) := by decide +kernel
theorem dX1_pushing_4 : decode cX1_pushing 4 = .ok (.tableswitch 74 1 5 #[36, 54, 44, 62, 72], 36) := by decide +kernel
theorem dX1_pushing_40 : decode cX1_pushing 40 = .ok (.aload_n 0, 1) := by decide +kernel
theorem dX1_pushing_41 : decode cX1_pushing 41 = .ok (.getfield 18, 3) := by decide +kernel
theorem dX1_pushing_44 : decode cX1_pushing 44 = .ok (.bipush 15, 2) := by decide +kernel
theorem dX1_pushing_46 : decode cX1_pushing 46 = .ok (.iadd, 1) := by decide +kernel
theorem dX1_pushing_47 : decode cX1_pushing 47 = .ok (.ireturn, 1) := by decide +kernel
theorem dX1_pushing_48 : decode cX1_pushing 48 = .ok (.aload_n 0, 1) := by decide +kernel
theorem dX1_pushing_49 : decode cX1_pushing 49 = .ok (.getfield 18, 3) := by decide +kernel
theorem dX1_pushing_52 : decode cX1_pushing 52 = .ok (.bipush 15, 2) := by decide +kernel
theorem dX1_pushing_54 : decode cX1_pushing 54 = .ok (.iadd, 1) := by decide +kernel
theorem dX1_pushing_55 : decode cX1_pushing 55 = .ok (.iconst 2, 1) := by decide +kernel
theorem dX1_pushing_56 : decode cX1_pushing 56 = .ok (.idiv, 1) := by decide +kernel
theorem dX1_pushing_57 : decode cX1_pushing 57 = .ok (.ireturn, 1) := by decide +kernel
theorem dX1_pushing_58 : decode cX1_pushing 58 = .ok (.aload_n 0, 1) := by decide +kernel
theorem dX1_pushing_59 : decode cX1_pushing 59 = .ok (.getfield 18, 3) := by decide +kernel
theorem dX1_pushing_62 : decode cX1_pushing 62 = .ok (.bipush 10, 2) := by decide +kernel
theorem dX1_pushing_64 : decode cX1_pushing 64 = .ok (.isub, 1) := by decide +kernel
theorem dX1_pushing_65 : decode cX1_pushing 65 = .ok (.ireturn, 1) := by decide +kernel
theorem dX1_pushing_66 : decode cX1_pushing 66 = .ok (.iconst 2, 1) := by decide +kernel
theorem dX1_pushing_67 : decode cX1_pushing 67 = .ok (.aload_n 0, 1) := by decide +kernel
theorem dX1_pushing_68 : decode cX1_pushing 68 = .ok (.getfield 18, 3) := by decide +kernel
theorem dX1_pushing_71 : decode cX1_pushing 71 = .ok (.bipush 10, 2) := by decide +kernel
theorem dX1_pushing_73 : decode cX1_pushing 73 = .ok (.isub, 1) := by decide +kernel
theorem dX1_pushing_74 : decode cX1_pushing 74 = .ok (.imul, 1) := by decide +kernel
theorem dX1_pushing_75 : decode cX1_pushing 75 = .ok (.ireturn, 1) := by decide +kernel
theorem dX1_pushing_76 : decode cX1_pushing 76 = .ok (.iconst 0, 1) := by decide +kernel
theorem dX1_pushing_77 : decode cX1_pushing 77 = .ok (.ireturn, 1) := by decide +kernel
theorem dX1_pushing_78 : decode cX1_pushing 78 = .ok (.aload_n 0, 1) := by decide +kernel
theorem dX1_pushing_79 : decode cX1_pushing 79 = .ok (.getfield 18, 3) := by decide +kernel
theorem dX1_pushing_82 : decode cX1_pushing 82 = .ok (.ireturn, 1) := by decide +kernel
theorem dX1_worth_0 : decode cX1_worth 0 = .ok (.aload_n 0, 1) := by decide +kernel
theorem dX1_worth_1 : decode cX1_worth 1 = .ok (.getfield 9, 3) := by decide +kernel
theorem dX1_worth_4 : decode cX1_worth 4 = .ok (.tableswitch 80 1 5 #[36, 58, 46, 66, 76], 36) := by decide +kernel
theorem dX1_worth_40 : decode cX1_worth 40 = .ok (.aload_n 0, 1) := by decide +kernel
theorem dX1_worth_41 : decode cX1_worth 41 = .ok (.getfield 24, 3) := by decide +kernel
theorem dX1_worth_44 : decode cX1_worth 44 = .ok (.aload_n 0, 1) := by decide +kernel
theorem dX1_worth_45 : decode cX1_worth 45 = .ok (.getfield 18, 3) := by decide +kernel
theorem dX1_worth_48 : decode cX1_worth 48 = .ok (.iadd, 1) := by decide +kernel
theorem dX1_worth_49 : decode cX1_worth 49 = .ok (.ireturn, 1) := by decide +kernel
theorem dX1_worth_50 : decode cX1_worth 50 = .ok (.iconst 5, 1) := by decide +kernel
theorem dX1_worth_51 : decode cX1_worth 51 = .ok (.aload_n 0, 1) := by decide +kernel
theorem dX1_worth_52 : decode cX1_worth 52 = .ok (.getfield 24, 3) := by decide +kernel
theorem dX1_worth_55 : decode cX1_worth 55 = .ok (.aload_n 0, 1) := by decide +kernel
theorem dX1_worth_56 : decode cX1_worth 56 = .ok (.getfield 18, 3) := by decide +kernel
theorem dX1_worth_59 : decode cX1_worth 59 = .ok (.iadd, 1) := by decide +kernel
theorem dX1_worth_60 : decode cX1_worth 60 = .ok (.imul, 1) := by decide +kernel
theorem dX1_worth_61 : decode cX1_worth 61 = .ok (.ireturn, 1) := by decide +kernel
theorem dX1_worth_62 : decode cX1_worth 62 = .ok (.bipush 99, 2) := by decide +kernel
theorem dX1_worth_64 : decode cX1_worth 64 = .ok (.aload_n 0, 1) := by decide +kernel
theorem dX1_worth_65 : decode cX1_worth 65 = .ok (.getfield 15, 3) := by decide +kernel
theorem dX1_worth_68 : decode cX1_worth 68 = .ok (.isub, 1) := by decide +kernel
theorem dX1_worth_69 : decode cX1_worth 69 = .ok (.ireturn, 1) := by decide +kernel
theorem dX1_worth_70 : decode cX1_worth 70 = .ok (.bipush 99, 2) := by decide +kernel
theorem dX1_worth_72 : decode cX1_worth 72 = .ok (.aload_n 0, 1) := by decide +kernel
theorem dX1_worth_73 : decode cX1_worth 73 = .ok (.getfield 15, 3) := by decide +kernel
theorem dX1_worth_76 : decode cX1_worth 76 = .ok (.isub, 1) := by decide +kernel
theorem dX1_worth_77 : decode cX1_worth 77 = .ok (.iconst 2, 1) := by decide +kernel
theorem dX1_worth_78 : decode cX1_worth 78 = .ok (.idiv, 1) := by decide +kernel
theorem dX1_worth_79 : decode cX1_worth 79 = .ok (.ireturn, 1) := by decide +kernel
theorem dX1_worth_80 : decode cX1_worth 80 = .ok (.sipush 500, 3) := by decide +kernel
theorem dX1_worth_83 : decode cX1_worth 83 = .ok (.ireturn, 1) := by decide +kernel
theorem dX1_worth_84 : decode cX1_worth 84 = .ok (.aload_n 0, 1) := by decide +kernel
theorem dX1_worth_85 : decode cX1_worth 85 = .ok (.getfield 24, 3) := by decide +kernel
theorem dX1_worth_88 : decode cX1_worth 88 = .ok (.ireturn, 1) := by decide +kernel
theorem dX2_init_0 : decode cX2_init 0 = .ok (.aload_n 0, 1) := by decide +kernel
theorem dX2_init_1 : decode cX2_init 1 = .ok (.invokespecial 3, 3) := by decide +kernel
theorem dX2_init_4 : decode cX2_init 4 = .ok (.aload_n 0, 1) := by decide +kernel
theorem dX2_init_5 : decode cX2_init 5 = .ok (.sipush 720, 3) := by decide +kernel
theorem dX2_init_8 : decode cX2_init 8 = .ok (.newarray .int, 2) := by decide +kernel
theorem dX2_init_10 : decode cX2_init 10 = .ok (.putfield 11, 3) := by decide +kernel
theorem dX2_init_13 : decode cX2_init 13 = .ok (.aload_n 0, 1) := by decide +kernel
theorem dX2_init_14 : decode cX2_init 14 = .ok (.bipush 9, 2) := by decide +kernel
theorem dX2_init_16 : decode cX2_init 16 = .ok (.newarray .int, 2) := by decide +kernel
theorem dX2_init_18 : decode cX2_init 18 = .ok (.putfield 15, 3) := by decide +kernel
theorem dX2_init_21 : decode cX2_init 21 = .ok (.aload_n 0, 1) := by decide +kernel
theorem dX2_init_22 : decode cX2_init 22 = .ok (.sipush 512, 3) := by decide +kernel
theorem dX2_init_25 : decode cX2_init 25 = .ok (.newarray .int, 2) := by decide +kernel
theorem dX2_init_27 : decode cX2_init 27 = .ok (.putfield 18, 3) := by decide +kernel
theorem dX2_init_30 : decode cX2_init 30 = .ok (.aload_n 0, 1) := by decide +kernel
theorem dX2_init_31 : decode cX2_init 31 = .ok (.sipush 512, 3) := by decide +kernel
theorem dX2_init_34 : decode cX2_init 34 = .ok (.newarray .int, 2) := by decide +kernel
theorem dX2_init_36 : decode cX2_init 36 = .ok (.putfield 21, 3) := by decide +kernel
theorem dX2_init_39 : decode cX2_init 39 = .ok (.aload_n 0, 1) := by decide +kernel
theorem dX2_init_40 : decode cX2_init 40 = .ok (.iconst 0, 1) := by decide +kernel
theorem dX2_init_41 : decode cX2_init 41 = .ok (.putfield 24, 3) := by decide +kernel
theorem dX2_init_44 : decode cX2_init 44 = .ok (.aload_n 0, 1) := by decide +kernel
theorem dX2_init_45 : decode cX2_init 45 = .ok (.iconst 0, 1) := by decide +kernel
theorem dX2_init_46 : decode cX2_init 46 = .ok (.putfield 28, 3) := by decide +kernel
theorem dX2_init_49 : decode cX2_init 49 = .ok (.aload_n 0, 1) := by decide +kernel
theorem dX2_init_50 : decode cX2_init 50 = .ok (.iconst 0, 1) := by decide +kernel
theorem dX2_init_51 : decode cX2_init 51 = .ok (.putfield 31, 3) := by decide +kernel
theorem dX2_init_54 : decode cX2_init 54 = .ok (.aload_n 0, 1) := by decide +kernel
theorem dX2_init_55 : decode cX2_init 55 = .ok (.iconst 0, 1) := by decide +kernel
theorem dX2_init_56 : decode cX2_init 56 = .ok (.putfield 34, 3) := by decide +kernel
theorem dX2_init_59 : decode cX2_init 59 = .ok (.aload_n 0, 1) := by decide +kernel
theorem dX2_init_60 : decode cX2_init 60 = .ok (.iconst 0, 1) := by decide +kernel
theorem dX2_init_61 : decode cX2_init 61 = .ok (.putfield 37, 3) := by decide +kernel
theorem dX2_init_64 : decode cX2_init 64 = .ok (.aload_n 0, 1) := by decide +kernel
theorem dX2_init_65 : decode cX2_init 65 = .ok (.iconst 0, 1) := by decide +kernel
theorem dX2_init_66 : decode cX2_init 66 = .ok (.putfield 40, 3) := by decide +kernel
theorem dX2_init_69 : decode cX2_init 69 = .ok (.aload_n 0, 1) := by decide +kernel
theorem dX2_init_70 : decode cX2_init 70 = .ok (.iconst 0, 1) := by decide +kernel
theorem dX2_init_71 : decode cX2_init 71 = .ok (.putfield 43, 3) := by decide +kernel
theorem dX2_init_74 : decode cX2_init 74 = .ok (.return_, 1) := by decide +kernel
theorem dX2_lookAt_0 : decode cX2_lookAt 0 = .ok (.aload_n 0, 1) := by decide +kernel
theorem dX2_lookAt_1 : decode cX2_lookAt 1 = .ok (.iload_n 2, 1) := by decide +kernel
theorem dX2_lookAt_2 : decode cX2_lookAt 2 = .ok (.putfield 31, 3) := by decide +kernel
theorem dX2_lookAt_5 : decode cX2_lookAt 5 = .ok (.aload_n 0, 1) := by decide +kernel
theorem dX2_lookAt_6 : decode cX2_lookAt 6 = .ok (.aload_n 1, 1) := by decide +kernel
theorem dX2_lookAt_7 : decode cX2_lookAt 7 = .ok (.invokevirtual 46, 3) := by decide +kernel
theorem dX2_lookAt_10 : decode cX2_lookAt 10 = .ok (.putfield 28, 3) := by decide +kernel
theorem dX2_lookAt_13 : decode cX2_lookAt 13 = .ok (.aload_n 0, 1) := by decide +kernel
theorem dX2_lookAt_14 : decode cX2_lookAt 14 = .ok (.getfield 28, 3) := by decide +kernel
theorem dX2_lookAt_17 : decode cX2_lookAt 17 = .ok (.invokestatic 52, 3) := by decide +kernel
theorem dX2_lookAt_20 : decode cX2_lookAt 20 = .ok (.istore_n 3, 1) := by decide +kernel
theorem dX2_lookAt_21 : decode cX2_lookAt 21 = .ok (.iconst 0, 1) := by decide +kernel
theorem dX2_lookAt_22 : decode cX2_lookAt 22 = .ok (.istore 4, 2) := by decide +kernel
theorem dX2_lookAt_24 : decode cX2_lookAt 24 = .ok (.iload 4, 2) := by decide +kernel
theorem dX2_lookAt_26 : decode cX2_lookAt 26 = .ok (.bipush 9, 2) := by decide +kernel
theorem dX2_lookAt_28 : decode cX2_lookAt 28 = .ok (.if_icmp .ge 59, 3) := by decide +kernel
theorem dX2_lookAt_31 : decode cX2_lookAt 31 = .ok (.aload_n 1, 1) := by decide +kernel
theorem dX2_lookAt_32 : decode cX2_lookAt 32 = .ok (.iload 4, 2) := by decide +kernel
theorem dX2_lookAt_34 : decode cX2_lookAt 34 = .ok (.invokevirtual 58, 3) := by decide +kernel
theorem dX2_lookAt_37 : decode cX2_lookAt 37 = .ok (.ifCond .eq 44, 3) := by decide +kernel
theorem dX2_lookAt_40 : decode cX2_lookAt 40 = .ok (.aload_n 0, 1) := by decide +kernel
theorem dX2_lookAt_41 : decode cX2_lookAt 41 = .ok (.getfield 15, 3) := by decide +kernel
theorem dX2_lookAt_44 : decode cX2_lookAt 44 = .ok (.iload 4, 2) := by decide +kernel
theorem dX2_lookAt_46 : decode cX2_lookAt 46 = .ok (.aload_n 1, 1) := by decide +kernel
theorem dX2_lookAt_47 : decode cX2_lookAt 47 = .ok (.getfield 62, 3) := by decide +kernel
theorem dX2_lookAt_50 : decode cX2_lookAt 50 = .ok (.iload 4, 2) := by decide +kernel
theorem dX2_lookAt_52 : decode cX2_lookAt 52 = .ok (.aaload, 1) := by decide +kernel
theorem dX2_lookAt_53 : decode cX2_lookAt 53 = .ok (.invokevirtual 66, 3) := by decide +kernel
theorem dX2_lookAt_56 : decode cX2_lookAt 56 = .ok (.iastore, 1) := by decide +kernel
theorem dX2_lookAt_57 : decode cX2_lookAt 57 = .ok (.iconst 1, 1) := by decide +kernel
theorem dX2_lookAt_58 : decode cX2_lookAt 58 = .ok (.istore 5, 2) := by decide +kernel
theorem dX2_lookAt_60 : decode cX2_lookAt 60 = .ok (.iload 5, 2) := by decide +kernel
theorem dX2_lookAt_62 : decode cX2_lookAt 62 = .ok (.iload_n 3, 1) := by decide +kernel
theorem dX2_lookAt_63 : decode cX2_lookAt 63 = .ok (.if_icmp .gt 18, 3) := by decide +kernel
theorem dX2_lookAt_66 : decode cX2_lookAt 66 = .ok (.aload_n 0, 1) := by decide +kernel
theorem dX2_lookAt_67 : decode cX2_lookAt 67 = .ok (.aload_n 1, 1) := by decide +kernel
theorem dX2_lookAt_68 : decode cX2_lookAt 68 = .ok (.iload 4, 2) := by decide +kernel
theorem dX2_lookAt_70 : decode cX2_lookAt 70 = .ok (.iload 5, 2) := by decide +kernel
theorem dX2_lookAt_72 : decode cX2_lookAt 72 = .ok (.invokevirtual 71, 3) := by decide +kernel
theorem dX2_lookAt_75 : decode cX2_lookAt 75 = .ok (.iinc 5 1, 3) := by decide +kernel
theorem dX2_lookAt_78 : decode cX2_lookAt 78 = .ok (.goto (-18), 3) := by decide +kernel
theorem dX2_lookAt_81 : decode cX2_lookAt 81 = .ok (.iinc 4 1, 3) := by decide +kernel
theorem dX2_lookAt_84 : decode cX2_lookAt 84 = .ok (.goto (-60), 3) := by decide +kernel
theorem dX2_lookAt_87 : decode cX2_lookAt 87 = .ok (.return_, 1) := by decide +kernel
theorem dX2_writeBearings_0 : decode cX2_writeBearings 0 = .ok (.aload_n 1, 1) := by decide +kernel
theorem dX2_writeBearings_1 : decode cX2_writeBearings 1 = .ok (.iload_n 2, 1) := by decide +kernel
theorem dX2_writeBearings_2 : decode cX2_writeBearings 2 = .ok (.iload_n 3, 1) := by decide +kernel
theorem dX2_writeBearings_3 : decode cX2_writeBearings 3 = .ok (.invokevirtual 75, 3) := by decide +kernel
theorem dX2_writeBearings_6 : decode cX2_writeBearings 6 = .ok (.istore 4, 2) := by decide +kernel
theorem dX2_writeBearings_8 : decode cX2_writeBearings 8 = .ok (.iconst 0, 1) := by decide +kernel
theorem dX2_writeBearings_9 : decode cX2_writeBearings 9 = .ok (.istore 5, 2) := by decide +kernel
theorem dX2_writeBearings_11 : decode cX2_writeBearings 11 = .ok (.iload 5, 2) := by decide +kernel
theorem dX2_writeBearings_13 : decode cX2_writeBearings 13 = .ok (.bipush 8, 2) := by decide +kernel
theorem dX2_writeBearings_15 : decode cX2_writeBearings 15 = .ok (.if_icmp .ge 37, 3) := by decide +kernel
theorem dX2_writeBearings_18 : decode cX2_writeBearings 18 = .ok (.aload_n 0, 1) := by decide +kernel
theorem dX2_writeBearings_19 : decode cX2_writeBearings 19 = .ok (.getfield 11, 3) := by decide +kernel
theorem dX2_writeBearings_22 : decode cX2_writeBearings 22 = .ok (.iload_n 2, 1) := by decide +kernel
theorem dX2_writeBearings_23 : decode cX2_writeBearings 23 = .ok (.iload 5, 2) := by decide +kernel
theorem dX2_writeBearings_25 : decode cX2_writeBearings 25 = .ok (.iload_n 3, 1) := by decide +kernel
theorem dX2_writeBearings_26 : decode cX2_writeBearings 26 = .ok (.invokestatic 79, 3) := by decide +kernel
theorem dX2_writeBearings_29 : decode cX2_writeBearings 29 = .ok (.aload_n 1, 1) := by decide +kernel
theorem dX2_writeBearings_30 : decode cX2_writeBearings 30 = .ok (.getfield 62, 3) := by decide +kernel
theorem dX2_writeBearings_33 : decode cX2_writeBearings 33 = .ok (.iload_n 2, 1) := by decide +kernel
theorem dX2_writeBearings_34 : decode cX2_writeBearings 34 = .ok (.aaload, 1) := by decide +kernel
theorem dX2_writeBearings_35 : decode cX2_writeBearings 35 = .ok (.iload 4, 2) := by decide +kernel
theorem dX2_writeBearings_37 : decode cX2_writeBearings 37 = .ok (.iload 5, 2) := by decide +kernel
theorem dX2_writeBearings_39 : decode cX2_writeBearings 39 = .ok (.iload_n 3, 1) := by decide +kernel
theorem dX2_writeBearings_40 : decode cX2_writeBearings 40 = .ok (.iconst 1, 1) := by decide +kernel
theorem dX2_writeBearings_41 : decode cX2_writeBearings 41 = .ok (.isub, 1) := by decide +kernel
theorem dX2_writeBearings_42 : decode cX2_writeBearings 42 = .ok (.invokevirtual 83, 3) := by decide +kernel
theorem dX2_writeBearings_45 : decode cX2_writeBearings 45 = .ok (.iastore, 1) := by decide +kernel
theorem dX2_writeBearings_46 : decode cX2_writeBearings 46 = .ok (.iinc 5 1, 3) := by decide +kernel
theorem dX2_writeBearings_49 : decode cX2_writeBearings 49 = .ok (.goto (-38), 3) := by decide +kernel
theorem dX2_writeBearings_52 : decode cX2_writeBearings 52 = .ok (.return_, 1) := by decide +kernel
theorem dX2_bearingPlace_0 : decode cX2_bearingPlace 0 = .ok (.iload_n 0, 1) := by decide +kernel
theorem dX2_bearingPlace_1 : decode cX2_bearingPlace 1 = .ok (.bipush 8, 2) := by decide +kernel
theorem dX2_bearingPlace_3 : decode cX2_bearingPlace 3 = .ok (.imul, 1) := by decide +kernel
theorem dX2_bearingPlace_4 : decode cX2_bearingPlace 4 = .ok (.iload_n 1, 1) := by decide +kernel
theorem dX2_bearingPlace_5 : decode cX2_bearingPlace 5 = .ok (.iadd, 1) := by decide +kernel
theorem dX2_bearingPlace_6 : decode cX2_bearingPlace 6 = .ok (.bipush 10, 2) := by decide +kernel
theorem dX2_bearingPlace_8 : decode cX2_bearingPlace 8 = .ok (.imul, 1) := by decide +kernel
theorem dX2_bearingPlace_9 : decode cX2_bearingPlace 9 = .ok (.iload_n 2, 1) := by decide +kernel
theorem dX2_bearingPlace_10 : decode cX2_bearingPlace 10 = .ok (.iadd, 1) := by decide +kernel
theorem dX2_bearingPlace_11 : decode cX2_bearingPlace 11 = .ok (.ireturn, 1) := by decide +kernel
theorem dX2_isIn_0 : decode cX2_isIn 0 = .ok (.iload_n 0, 1) := by decide +kernel
theorem dX2_isIn_1 : decode cX2_isIn 1 = .ok (.ifCond .lt 15, 3) := by decide +kernel
theorem dX2_isIn_4 : decode cX2_isIn 4 = .ok (.iload_n 1, 1) := by decide +kernel
theorem dX2_isIn_5 : decode cX2_isIn 5 = .ok (.iload_n 0, 1) := by decide +kernel
theorem dX2_isIn_6 : decode cX2_isIn 6 = .ok (.ishr, 1) := by decide +kernel
theorem dX2_isIn_7 : decode cX2_isIn 7 = .ok (.iconst 1, 1) := by decide +kernel
theorem dX2_isIn_8 : decode cX2_isIn 8 = .ok (.iand, 1) := by decide +kernel
theorem dX2_isIn_9 : decode cX2_isIn 9 = .ok (.ifCond .eq 7, 3) := by decide +kernel
theorem dX2_isIn_12 : decode cX2_isIn 12 = .ok (.iconst 1, 1) := by decide +kernel
theorem dX2_isIn_13 : decode cX2_isIn 13 = .ok (.goto 4, 3) := by decide +kernel
theorem dX2_isIn_16 : decode cX2_isIn 16 = .ok (.iconst 0, 1) := by decide +kernel
theorem dX2_isIn_17 : decode cX2_isIn 17 = .ok (.ireturn, 1) := by decide +kernel
theorem dX2_fallsBy_0 : decode cX2_fallsBy 0 = .ok (.iload_n 2, 1) := by decide +kernel
theorem dX2_fallsBy_1 : decode cX2_fallsBy 1 = .ok (.iload 4, 2) := by decide +kernel
theorem dX2_fallsBy_3 : decode cX2_fallsBy 3 = .ok (.invokestatic 86, 3) := by decide +kernel
theorem dX2_fallsBy_6 : decode cX2_fallsBy 6 = .ok (.ifCond .eq 26, 3) := by decide +kernel
theorem dX2_fallsBy_9 : decode cX2_fallsBy 9 = .ok (.aload_n 0, 1) := by decide +kernel
theorem dX2_fallsBy_10 : decode cX2_fallsBy 10 = .ok (.getfield 11, 3) := by decide +kernel
theorem dX2_fallsBy_13 : decode cX2_fallsBy 13 = .ok (.iload_n 2, 1) := by decide +kernel
theorem dX2_fallsBy_14 : decode cX2_fallsBy 14 = .ok (.iload_n 3, 1) := by decide +kernel
theorem dX2_fallsBy_15 : decode cX2_fallsBy 15 = .ok (.iload 4, 2) := by decide +kernel
theorem dX2_fallsBy_17 : decode cX2_fallsBy 17 = .ok (.invokestatic 52, 3) := by decide +kernel
theorem dX2_fallsBy_20 : decode cX2_fallsBy 20 = .ok (.invokestatic 79, 3) := by decide +kernel
theorem dX2_fallsBy_23 : decode cX2_fallsBy 23 = .ok (.iaload, 1) := by decide +kernel
theorem dX2_fallsBy_24 : decode cX2_fallsBy 24 = .ok (.iload_n 1, 1) := by decide +kernel
theorem dX2_fallsBy_25 : decode cX2_fallsBy 25 = .ok (.if_icmp .ge 7, 3) := by decide +kernel
theorem dX2_fallsBy_28 : decode cX2_fallsBy 28 = .ok (.iconst 1, 1) := by decide +kernel
theorem dX2_fallsBy_29 : decode cX2_fallsBy 29 = .ok (.goto 4, 3) := by decide +kernel
theorem dX2_fallsBy_32 : decode cX2_fallsBy 32 = .ok (.iconst 0, 1) := by decide +kernel
theorem dX2_fallsBy_33 : decode cX2_fallsBy 33 = .ok (.ireturn, 1) := by decide +kernel
theorem dX2_leftBehind_0 : decode cX2_leftBehind 0 = .ok (.iload_n 1, 1) := by decide +kernel
theorem dX2_leftBehind_1 : decode cX2_leftBehind 1 = .ok (.iconst 1, 1) := by decide +kernel
theorem dX2_leftBehind_2 : decode cX2_leftBehind 2 = .ok (.iload_n 2, 1) := by decide +kernel
theorem dX2_leftBehind_3 : decode cX2_leftBehind 3 = .ok (.ishl, 1) := by decide +kernel
theorem dX2_leftBehind_4 : decode cX2_leftBehind 4 = .ok (.iconst (-1), 1) := by decide +kernel
theorem dX2_leftBehind_5 : decode cX2_leftBehind 5 = .ok (.ixor, 1) := by decide +kernel
theorem dX2_leftBehind_6 : decode cX2_leftBehind 6 = .ok (.iand, 1) := by decide +kernel
theorem dX2_leftBehind_7 : decode cX2_leftBehind 7 = .ok (.istore 6, 2) := by decide +kernel
theorem dX2_leftBehind_9 : decode cX2_leftBehind 9 = .ok (.iload 5, 2) := by decide +kernel
theorem dX2_leftBehind_11 : decode cX2_leftBehind 11 = .ok (.bipush 9, 2) := by decide +kernel
theorem dX2_leftBehind_13 : decode cX2_leftBehind 13 = .ok (.if_icmp .lt 6, 3) := by decide +kernel
theorem dX2_leftBehind_16 : decode cX2_leftBehind 16 = .ok (.iload 6, 2) := by decide +kernel
theorem dX2_leftBehind_18 : decode cX2_leftBehind 18 = .ok (.ireturn, 1) := by decide +kernel
theorem dX2_leftBehind_19 : decode cX2_leftBehind 19 = .ok (.getstatic 90, 3) := by decide +kernel
theorem dX2_leftBehind_22 : decode cX2_leftBehind 22 = .ok (.iload_n 2, 1) := by decide +kernel
theorem dX2_leftBehind_23 : decode cX2_leftBehind 23 = .ok (.iaload, 1) := by decide +kernel
theorem dX2_leftBehind_24 : decode cX2_leftBehind 24 = .ok (.istore 7, 2) := by decide +kernel
theorem dX2_leftBehind_26 : decode cX2_leftBehind 26 = .ok (.iload 4, 2) := by decide +kernel
theorem dX2_leftBehind_28 : decode cX2_leftBehind 28 = .ok (.iconst 1, 1) := by decide +kernel
theorem dX2_leftBehind_29 : decode cX2_leftBehind 29 = .ok (.if_icmp .eq 38, 3) := by decide +kernel
theorem dX2_leftBehind_32 : decode cX2_leftBehind 32 = .ok (.aload_n 0, 1) := by decide +kernel
theorem dX2_leftBehind_33 : decode cX2_leftBehind 33 = .ok (.aload_n 0, 1) := by decide +kernel
theorem dX2_leftBehind_34 : decode cX2_leftBehind 34 = .ok (.getfield 15, 3) := by decide +kernel
theorem dX2_leftBehind_37 : decode cX2_leftBehind 37 = .ok (.iload_n 2, 1) := by decide +kernel
theorem dX2_leftBehind_38 : decode cX2_leftBehind 38 = .ok (.iaload, 1) := by decide +kernel
theorem dX2_leftBehind_39 : decode cX2_leftBehind 39 = .ok (.iload 7, 2) := by decide +kernel
theorem dX2_leftBehind_41 : decode cX2_leftBehind 41 = .ok (.iload_n 3, 1) := by decide +kernel
theorem dX2_leftBehind_42 : decode cX2_leftBehind 42 = .ok (.iload 6, 2) := by decide +kernel
theorem dX2_leftBehind_44 : decode cX2_leftBehind 44 = .ok (.invokevirtual 93, 3) := by decide +kernel
theorem dX2_leftBehind_47 : decode cX2_leftBehind 47 = .ok (.ifCond .eq 20, 3) := by decide +kernel
theorem dX2_leftBehind_50 : decode cX2_leftBehind 50 = .ok (.aload_n 0, 1) := by decide +kernel
theorem dX2_leftBehind_51 : decode cX2_leftBehind 51 = .ok (.iload 6, 2) := by decide +kernel
theorem dX2_leftBehind_53 : decode cX2_leftBehind 53 = .ok (.iload 7, 2) := by decide +kernel
theorem dX2_leftBehind_55 : decode cX2_leftBehind 55 = .ok (.iload_n 3, 1) := by decide +kernel
theorem dX2_leftBehind_56 : decode cX2_leftBehind 56 = .ok (.iload 4, 2) := by decide +kernel
theorem dX2_leftBehind_58 : decode cX2_leftBehind 58 = .ok (.iload 5, 2) := by decide +kernel
theorem dX2_leftBehind_60 : decode cX2_leftBehind 60 = .ok (.iconst 1, 1) := by decide +kernel
theorem dX2_leftBehind_61 : decode cX2_leftBehind 61 = .ok (.iadd, 1) := by decide +kernel
theorem dX2_leftBehind_62 : decode cX2_leftBehind 62 = .ok (.invokevirtual 97, 3) := by decide +kernel
theorem dX2_leftBehind_65 : decode cX2_leftBehind 65 = .ok (.istore 6, 2) := by decide +kernel
theorem dX2_leftBehind_67 : decode cX2_leftBehind 67 = .ok (.getstatic 101, 3) := by decide +kernel
theorem dX2_leftBehind_70 : decode cX2_leftBehind 70 = .ok (.iload_n 2, 1) := by decide +kernel
theorem dX2_leftBehind_71 : decode cX2_leftBehind 71 = .ok (.iaload, 1) := by decide +kernel
theorem dX2_leftBehind_72 : decode cX2_leftBehind 72 = .ok (.istore 7, 2) := by decide +kernel
theorem dX2_leftBehind_74 : decode cX2_leftBehind 74 = .ok (.iload 4, 2) := by decide +kernel
theorem dX2_leftBehind_76 : decode cX2_leftBehind 76 = .ok (.iconst (-1), 1) := by decide +kernel
theorem dX2_leftBehind_77 : decode cX2_leftBehind 77 = .ok (.if_icmp .eq 38, 3) := by decide +kernel
theorem dX2_leftBehind_80 : decode cX2_leftBehind 80 = .ok (.aload_n 0, 1) := by decide +kernel
theorem dX2_leftBehind_81 : decode cX2_leftBehind 81 = .ok (.aload_n 0, 1) := by decide +kernel
theorem dX2_leftBehind_82 : decode cX2_leftBehind 82 = .ok (.getfield 15, 3) := by decide +kernel
theorem dX2_leftBehind_85 : decode cX2_leftBehind 85 = .ok (.iload_n 2, 1) := by decide +kernel
theorem dX2_leftBehind_86 : decode cX2_leftBehind 86 = .ok (.iaload, 1) := by decide +kernel
theorem dX2_leftBehind_87 : decode cX2_leftBehind 87 = .ok (.iload 7, 2) := by decide +kernel
theorem dX2_leftBehind_89 : decode cX2_leftBehind 89 = .ok (.iload_n 3, 1) := by decide +kernel
theorem dX2_leftBehind_90 : decode cX2_leftBehind 90 = .ok (.iload 6, 2) := by decide +kernel
theorem dX2_leftBehind_92 : decode cX2_leftBehind 92 = .ok (.invokevirtual 93, 3) := by decide +kernel
theorem dX2_leftBehind_95 : decode cX2_leftBehind 95 = .ok (.ifCond .eq 20, 3) := by decide +kernel
theorem dX2_leftBehind_98 : decode cX2_leftBehind 98 = .ok (.aload_n 0, 1) := by decide +kernel
theorem dX2_leftBehind_99 : decode cX2_leftBehind 99 = .ok (.iload 6, 2) := by decide +kernel
theorem dX2_leftBehind_101 : decode cX2_leftBehind 101 = .ok (.iload 7, 2) := by decide +kernel
theorem dX2_leftBehind_103 : decode cX2_leftBehind 103 = .ok (.iload_n 3, 1) := by decide +kernel
theorem dX2_leftBehind_104 : decode cX2_leftBehind 104 = .ok (.iload 4, 2) := by decide +kernel
theorem dX2_leftBehind_106 : decode cX2_leftBehind 106 = .ok (.iload 5, 2) := by decide +kernel
theorem dX2_leftBehind_108 : decode cX2_leftBehind 108 = .ok (.iconst 1, 1) := by decide +kernel
theorem dX2_leftBehind_109 : decode cX2_leftBehind 109 = .ok (.iadd, 1) := by decide +kernel
theorem dX2_leftBehind_110 : decode cX2_leftBehind 110 = .ok (.invokevirtual 97, 3) := by decide +kernel
theorem dX2_leftBehind_113 : decode cX2_leftBehind 113 = .ok (.istore 6, 2) := by decide +kernel
theorem dX2_leftBehind_115 : decode cX2_leftBehind 115 = .ok (.iload 6, 2) := by decide +kernel
theorem dX2_leftBehind_117 : decode cX2_leftBehind 117 = .ok (.ireturn, 1) := by decide +kernel
theorem dX2_findBest_0 : decode cX2_findBest 0 = .ok (.aload_n 0, 1) := by decide +kernel
theorem dX2_findBest_1 : decode cX2_findBest 1 = .ok (.iconst (-1), 1) := by decide +kernel
theorem dX2_findBest_2 : decode cX2_findBest 2 = .ok (.putfield 34, 3) := by decide +kernel
theorem dX2_findBest_5 : decode cX2_findBest 5 = .ok (.iconst 0, 1) := by decide +kernel
theorem dX2_findBest_6 : decode cX2_findBest 6 = .ok (.istore_n 1, 1) := by decide +kernel
theorem dX2_findBest_7 : decode cX2_findBest 7 = .ok (.iload_n 1, 1) := by decide +kernel
theorem dX2_findBest_8 : decode cX2_findBest 8 = .ok (.bipush 9, 2) := by decide +kernel
theorem dX2_findBest_10 : decode cX2_findBest 10 = .ok (.if_icmp .ge 111, 3) := by decide +kernel
theorem dX2_findBest_13 : decode cX2_findBest 13 = .ok (.iconst 0, 1) := by decide +kernel
theorem dX2_findBest_14 : decode cX2_findBest 14 = .ok (.istore_n 2, 1) := by decide +kernel
theorem dX2_findBest_15 : decode cX2_findBest 15 = .ok (.iload_n 2, 1) := by decide +kernel
theorem dX2_findBest_16 : decode cX2_findBest 16 = .ok (.bipush 8, 2) := by decide +kernel
theorem dX2_findBest_18 : decode cX2_findBest 18 = .ok (.if_icmp .ge 97, 3) := by decide +kernel
theorem dX2_findBest_21 : decode cX2_findBest 21 = .ok (.iload_n 1, 1) := by decide +kernel
theorem dX2_findBest_22 : decode cX2_findBest 22 = .ok (.aload_n 0, 1) := by decide +kernel
theorem dX2_findBest_23 : decode cX2_findBest 23 = .ok (.getfield 28, 3) := by decide +kernel
theorem dX2_findBest_26 : decode cX2_findBest 26 = .ok (.invokestatic 86, 3) := by decide +kernel
theorem dX2_findBest_29 : decode cX2_findBest 29 = .ok (.ifCond .eq 86, 3) := by decide +kernel
theorem dX2_findBest_32 : decode cX2_findBest 32 = .ok (.aload_n 0, 1) := by decide +kernel
theorem dX2_findBest_33 : decode cX2_findBest 33 = .ok (.aload_n 0, 1) := by decide +kernel
theorem dX2_findBest_34 : decode cX2_findBest 34 = .ok (.getfield 31, 3) := by decide +kernel
theorem dX2_findBest_37 : decode cX2_findBest 37 = .ok (.iload_n 1, 1) := by decide +kernel
theorem dX2_findBest_38 : decode cX2_findBest 38 = .ok (.iload_n 2, 1) := by decide +kernel
theorem dX2_findBest_39 : decode cX2_findBest 39 = .ok (.aload_n 0, 1) := by decide +kernel
theorem dX2_findBest_40 : decode cX2_findBest 40 = .ok (.getfield 28, 3) := by decide +kernel
theorem dX2_findBest_43 : decode cX2_findBest 43 = .ok (.invokevirtual 93, 3) := by decide +kernel
theorem dX2_findBest_46 : decode cX2_findBest 46 = .ok (.istore_n 3, 1) := by decide +kernel
theorem dX2_findBest_47 : decode cX2_findBest 47 = .ok (.iconst (-1), 1) := by decide +kernel
theorem dX2_findBest_48 : decode cX2_findBest 48 = .ok (.istore 4, 2) := by decide +kernel
theorem dX2_findBest_50 : decode cX2_findBest 50 = .ok (.iload 4, 2) := by decide +kernel
theorem dX2_findBest_52 : decode cX2_findBest 52 = .ok (.iconst 1, 1) := by decide +kernel
theorem dX2_findBest_53 : decode cX2_findBest 53 = .ok (.if_icmp .gt 56, 3) := by decide +kernel
theorem dX2_findBest_56 : decode cX2_findBest 56 = .ok (.iload_n 3, 1) := by decide +kernel
theorem dX2_findBest_57 : decode cX2_findBest 57 = .ok (.ifCond .eq 19, 3) := by decide +kernel
theorem dX2_findBest_60 : decode cX2_findBest 60 = .ok (.aload_n 0, 1) := by decide +kernel
theorem dX2_findBest_61 : decode cX2_findBest 61 = .ok (.aload_n 0, 1) := by decide +kernel
theorem dX2_findBest_62 : decode cX2_findBest 62 = .ok (.getfield 28, 3) := by decide +kernel
theorem dX2_findBest_65 : decode cX2_findBest 65 = .ok (.iload_n 1, 1) := by decide +kernel
theorem dX2_findBest_66 : decode cX2_findBest 66 = .ok (.iload_n 2, 1) := by decide +kernel
theorem dX2_findBest_67 : decode cX2_findBest 67 = .ok (.iload 4, 2) := by decide +kernel
theorem dX2_findBest_69 : decode cX2_findBest 69 = .ok (.iconst 0, 1) := by decide +kernel
theorem dX2_findBest_70 : decode cX2_findBest 70 = .ok (.invokevirtual 97, 3) := by decide +kernel
theorem dX2_findBest_73 : decode cX2_findBest 73 = .ok (.goto 7, 3) := by decide +kernel
theorem dX2_findBest_76 : decode cX2_findBest 76 = .ok (.aload_n 0, 1) := by decide +kernel
theorem dX2_findBest_77 : decode cX2_findBest 77 = .ok (.getfield 28, 3) := by decide +kernel
theorem dX2_findBest_80 : decode cX2_findBest 80 = .ok (.istore 5, 2) := by decide +kernel
theorem dX2_findBest_82 : decode cX2_findBest 82 = .ok (.aload_n 0, 1) := by decide +kernel
theorem dX2_findBest_83 : decode cX2_findBest 83 = .ok (.aload_n 0, 1) := by decide +kernel
theorem dX2_findBest_84 : decode cX2_findBest 84 = .ok (.getfield 28, 3) := by decide +kernel
theorem dX2_findBest_87 : decode cX2_findBest 87 = .ok (.invokestatic 52, 3) := by decide +kernel
theorem dX2_findBest_90 : decode cX2_findBest 90 = .ok (.iload 5, 2) := by decide +kernel
theorem dX2_findBest_92 : decode cX2_findBest 92 = .ok (.invokestatic 52, 3) := by decide +kernel
theorem dX2_findBest_95 : decode cX2_findBest 95 = .ok (.isub, 1) := by decide +kernel
theorem dX2_findBest_96 : decode cX2_findBest 96 = .ok (.iload_n 1, 1) := by decide +kernel
theorem dX2_findBest_97 : decode cX2_findBest 97 = .ok (.iload_n 2, 1) := by decide +kernel
theorem dX2_findBest_98 : decode cX2_findBest 98 = .ok (.iload 4, 2) := by decide +kernel
theorem dX2_findBest_100 : decode cX2_findBest 100 = .ok (.invokevirtual 104, 3) := by decide +kernel
theorem dX2_findBest_103 : decode cX2_findBest 103 = .ok (.iinc 4 1, 3) := by decide +kernel
theorem dX2_findBest_106 : decode cX2_findBest 106 = .ok (.goto (-56), 3) := by decide +kernel
theorem dX2_findBest_109 : decode cX2_findBest 109 = .ok (.iinc 2 1, 3) := by decide +kernel
theorem dX2_findBest_112 : decode cX2_findBest 112 = .ok (.goto (-97), 3) := by decide +kernel
theorem dX2_findBest_115 : decode cX2_findBest 115 = .ok (.iinc 1 1, 3) := by decide +kernel
theorem dX2_findBest_118 : decode cX2_findBest 118 = .ok (.goto (-111), 3) := by decide +kernel
theorem dX2_findBest_121 : decode cX2_findBest 121 = .ok (.return_, 1) := by decide +kernel
theorem dX2_offer_0 : decode cX2_offer 0 = .ok (.iload_n 1, 1) := by decide +kernel
theorem dX2_offer_1 : decode cX2_offer 1 = .ok (.aload_n 0, 1) := by decide +kernel
theorem dX2_offer_2 : decode cX2_offer 2 = .ok (.getfield 34, 3) := by decide +kernel
theorem dX2_offer_5 : decode cX2_offer 5 = .ok (.if_icmp .le 24, 3) := by decide +kernel
theorem dX2_offer_8 : decode cX2_offer 8 = .ok (.aload_n 0, 1) := by decide +kernel
theorem dX2_offer_9 : decode cX2_offer 9 = .ok (.iload_n 1, 1) := by decide +kernel
theorem dX2_offer_10 : decode cX2_offer 10 = .ok (.putfield 34, 3) := by decide +kernel
theorem dX2_offer_13 : decode cX2_offer 13 = .ok (.aload_n 0, 1) := by decide +kernel
theorem dX2_offer_14 : decode cX2_offer 14 = .ok (.iload_n 2, 1) := by decide +kernel
theorem dX2_offer_15 : decode cX2_offer 15 = .ok (.putfield 37, 3) := by decide +kernel
theorem dX2_offer_18 : decode cX2_offer 18 = .ok (.aload_n 0, 1) := by decide +kernel
theorem dX2_offer_19 : decode cX2_offer 19 = .ok (.iload_n 3, 1) := by decide +kernel
theorem dX2_offer_20 : decode cX2_offer 20 = .ok (.putfield 40, 3) := by decide +kernel
theorem dX2_offer_23 : decode cX2_offer 23 = .ok (.aload_n 0, 1) := by decide +kernel
theorem dX2_offer_24 : decode cX2_offer 24 = .ok (.iload 4, 2) := by decide +kernel
theorem dX2_offer_26 : decode cX2_offer 26 = .ok (.putfield 43, 3) := by decide +kernel
theorem dX2_offer_29 : decode cX2_offer 29 = .ok (.return_, 1) := by decide +kernel
theorem dX2_mostByTwo_0 : decode cX2_mostByTwo 0 = .ok (.aload_n 0, 1) := by decide +kernel
theorem dX2_mostByTwo_1 : decode cX2_mostByTwo 1 = .ok (.invokevirtual 108, 3) := by decide +kernel
theorem dX2_mostByTwo_4 : decode cX2_mostByTwo 4 = .ok (.aload_n 0, 1) := by decide +kernel
theorem dX2_mostByTwo_5 : decode cX2_mostByTwo 5 = .ok (.aload_n 0, 1) := by decide +kernel
theorem dX2_mostByTwo_6 : decode cX2_mostByTwo 6 = .ok (.getfield 28, 3) := by decide +kernel
theorem dX2_mostByTwo_9 : decode cX2_mostByTwo 9 = .ok (.invokevirtual 111, 3) := by decide +kernel
theorem dX2_mostByTwo_12 : decode cX2_mostByTwo 12 = .ok (.aload_n 0, 1) := by decide +kernel
theorem dX2_mostByTwo_13 : decode cX2_mostByTwo 13 = .ok (.getfield 24, 3) := by decide +kernel
theorem dX2_mostByTwo_16 : decode cX2_mostByTwo 16 = .ok (.istore_n 1, 1) := by decide +kernel
theorem dX2_mostByTwo_17 : decode cX2_mostByTwo 17 = .ok (.iconst 1, 1) := by decide +kernel
theorem dX2_mostByTwo_18 : decode cX2_mostByTwo 18 = .ok (.istore_n 2, 1) := by decide +kernel
theorem dX2_mostByTwo_19 : decode cX2_mostByTwo 19 = .ok (.iload_n 2, 1) := by decide +kernel
theorem dX2_mostByTwo_20 : decode cX2_mostByTwo 20 = .ok (.iload_n 1, 1) := by decide +kernel
theorem dX2_mostByTwo_21 : decode cX2_mostByTwo 21 = .ok (.if_icmp .ge 26, 3) := by decide +kernel
theorem dX2_mostByTwo_24 : decode cX2_mostByTwo 24 = .ok (.iload_n 2, 1) := by decide +kernel
theorem dX2_mostByTwo_25 : decode cX2_mostByTwo 25 = .ok (.sipush 512, 3) := by decide +kernel
theorem dX2_mostByTwo_28 : decode cX2_mostByTwo 28 = .ok (.if_icmp .ge 19, 3) := by decide +kernel
theorem dX2_mostByTwo_31 : decode cX2_mostByTwo 31 = .ok (.aload_n 0, 1) := by decide +kernel
theorem dX2_mostByTwo_32 : decode cX2_mostByTwo 32 = .ok (.aload_n 0, 1) := by decide +kernel
theorem dX2_mostByTwo_33 : decode cX2_mostByTwo 33 = .ok (.getfield 21, 3) := by decide +kernel
theorem dX2_mostByTwo_36 : decode cX2_mostByTwo 36 = .ok (.iload_n 2, 1) := by decide +kernel
theorem dX2_mostByTwo_37 : decode cX2_mostByTwo 37 = .ok (.iaload, 1) := by decide +kernel
theorem dX2_mostByTwo_38 : decode cX2_mostByTwo 38 = .ok (.invokevirtual 111, 3) := by decide +kernel
theorem dX2_mostByTwo_41 : decode cX2_mostByTwo 41 = .ok (.iinc 2 1, 3) := by decide +kernel
theorem dX2_mostByTwo_44 : decode cX2_mostByTwo 44 = .ok (.goto (-25), 3) := by decide +kernel
theorem dX2_mostByTwo_47 : decode cX2_mostByTwo 47 = .ok (.bipush 9, 2) := by decide +kernel
theorem dX2_mostByTwo_49 : decode cX2_mostByTwo 49 = .ok (.istore_n 2, 1) := by decide +kernel
theorem dX2_mostByTwo_50 : decode cX2_mostByTwo 50 = .ok (.iconst 0, 1) := by decide +kernel
theorem dX2_mostByTwo_51 : decode cX2_mostByTwo 51 = .ok (.istore_n 3, 1) := by decide +kernel
theorem dX2_mostByTwo_52 : decode cX2_mostByTwo 52 = .ok (.iload_n 3, 1) := by decide +kernel
theorem dX2_mostByTwo_53 : decode cX2_mostByTwo 53 = .ok (.aload_n 0, 1) := by decide +kernel
theorem dX2_mostByTwo_54 : decode cX2_mostByTwo 54 = .ok (.getfield 24, 3) := by decide +kernel
theorem dX2_mostByTwo_57 : decode cX2_mostByTwo 57 = .ok (.if_icmp .ge 23, 3) := by decide +kernel
theorem dX2_mostByTwo_60 : decode cX2_mostByTwo 60 = .ok (.iload_n 2, 1) := by decide +kernel
theorem dX2_mostByTwo_61 : decode cX2_mostByTwo 61 = .ok (.aload_n 0, 1) := by decide +kernel
theorem dX2_mostByTwo_62 : decode cX2_mostByTwo 62 = .ok (.getfield 21, 3) := by decide +kernel
theorem dX2_mostByTwo_65 : decode cX2_mostByTwo 65 = .ok (.iload_n 3, 1) := by decide +kernel
theorem dX2_mostByTwo_66 : decode cX2_mostByTwo 66 = .ok (.iaload, 1) := by decide +kernel
theorem dX2_mostByTwo_67 : decode cX2_mostByTwo 67 = .ok (.invokestatic 52, 3) := by decide +kernel
theorem dX2_mostByTwo_70 : decode cX2_mostByTwo 70 = .ok (.invokestatic 115, 3) := by decide +kernel
theorem dX2_mostByTwo_73 : decode cX2_mostByTwo 73 = .ok (.istore_n 2, 1) := by decide +kernel
theorem dX2_mostByTwo_74 : decode cX2_mostByTwo 74 = .ok (.iinc 3 1, 3) := by decide +kernel
theorem dX2_mostByTwo_77 : decode cX2_mostByTwo 77 = .ok (.goto (-25), 3) := by decide +kernel
theorem dX2_mostByTwo_80 : decode cX2_mostByTwo 80 = .ok (.aload_n 0, 1) := by decide +kernel
theorem dX2_mostByTwo_81 : decode cX2_mostByTwo 81 = .ok (.getfield 28, 3) := by decide +kernel
theorem dX2_mostByTwo_84 : decode cX2_mostByTwo 84 = .ok (.invokestatic 52, 3) := by decide +kernel
theorem dX2_mostByTwo_87 : decode cX2_mostByTwo 87 = .ok (.iload_n 2, 1) := by decide +kernel
theorem dX2_mostByTwo_88 : decode cX2_mostByTwo 88 = .ok (.isub, 1) := by decide +kernel
theorem dX2_mostByTwo_89 : decode cX2_mostByTwo 89 = .ok (.ireturn, 1) := by decide +kernel
theorem dX2_fewestForAll_0 : decode cX2_fewestForAll 0 = .ok (.aload_n 0, 1) := by decide +kernel
theorem dX2_fewestForAll_1 : decode cX2_fewestForAll 1 = .ok (.invokevirtual 108, 3) := by decide +kernel
theorem dX2_fewestForAll_4 : decode cX2_fewestForAll 4 = .ok (.iconst 0, 1) := by decide +kernel
theorem dX2_fewestForAll_5 : decode cX2_fewestForAll 5 = .ok (.istore_n 1, 1) := by decide +kernel
theorem dX2_fewestForAll_6 : decode cX2_fewestForAll 6 = .ok (.iload_n 1, 1) := by decide +kernel
theorem dX2_fewestForAll_7 : decode cX2_fewestForAll 7 = .ok (.aload_n 0, 1) := by decide +kernel
theorem dX2_fewestForAll_8 : decode cX2_fewestForAll 8 = .ok (.getfield 24, 3) := by decide +kernel
theorem dX2_fewestForAll_11 : decode cX2_fewestForAll 11 = .ok (.if_icmp .ge 36, 3) := by decide +kernel
theorem dX2_fewestForAll_14 : decode cX2_fewestForAll 14 = .ok (.iload_n 1, 1) := by decide +kernel
theorem dX2_fewestForAll_15 : decode cX2_fewestForAll 15 = .ok (.sipush 512, 3) := by decide +kernel
theorem dX2_fewestForAll_18 : decode cX2_fewestForAll 18 = .ok (.if_icmp .ge 29, 3) := by decide +kernel
theorem dX2_fewestForAll_21 : decode cX2_fewestForAll 21 = .ok (.aload_n 0, 1) := by decide +kernel
theorem dX2_fewestForAll_22 : decode cX2_fewestForAll 22 = .ok (.getfield 18, 3) := by decide +kernel
theorem dX2_fewestForAll_25 : decode cX2_fewestForAll 25 = .ok (.iconst 0, 1) := by decide +kernel
theorem dX2_fewestForAll_26 : decode cX2_fewestForAll 26 = .ok (.iaload, 1) := by decide +kernel
theorem dX2_fewestForAll_27 : decode cX2_fewestForAll 27 = .ok (.iconst (-1), 1) := by decide +kernel
theorem dX2_fewestForAll_28 : decode cX2_fewestForAll 28 = .ok (.if_icmp .ne 19, 3) := by decide +kernel
theorem dX2_fewestForAll_31 : decode cX2_fewestForAll 31 = .ok (.aload_n 0, 1) := by decide +kernel
theorem dX2_fewestForAll_32 : decode cX2_fewestForAll 32 = .ok (.aload_n 0, 1) := by decide +kernel
theorem dX2_fewestForAll_33 : decode cX2_fewestForAll 33 = .ok (.getfield 21, 3) := by decide +kernel
theorem dX2_fewestForAll_36 : decode cX2_fewestForAll 36 = .ok (.iload_n 1, 1) := by decide +kernel
theorem dX2_fewestForAll_37 : decode cX2_fewestForAll 37 = .ok (.iaload, 1) := by decide +kernel
theorem dX2_fewestForAll_38 : decode cX2_fewestForAll 38 = .ok (.invokevirtual 111, 3) := by decide +kernel
theorem dX2_fewestForAll_41 : decode cX2_fewestForAll 41 = .ok (.iinc 1 1, 3) := by decide +kernel
theorem dX2_fewestForAll_44 : decode cX2_fewestForAll 44 = .ok (.goto (-38), 3) := by decide +kernel
theorem dX2_fewestForAll_47 : decode cX2_fewestForAll 47 = .ok (.aload_n 0, 1) := by decide +kernel
theorem dX2_fewestForAll_48 : decode cX2_fewestForAll 48 = .ok (.getfield 18, 3) := by decide +kernel
theorem dX2_fewestForAll_51 : decode cX2_fewestForAll 51 = .ok (.iconst 0, 1) := by decide +kernel
theorem dX2_fewestForAll_52 : decode cX2_fewestForAll 52 = .ok (.iaload, 1) := by decide +kernel
theorem dX2_fewestForAll_53 : decode cX2_fewestForAll 53 = .ok (.iconst (-1), 1) := by decide +kernel
theorem dX2_fewestForAll_54 : decode cX2_fewestForAll 54 = .ok (.if_icmp .ne 8, 3) := by decide +kernel
theorem dX2_fewestForAll_57 : decode cX2_fewestForAll 57 = .ok (.ldc 120, 2) := by decide +kernel
theorem dX2_fewestForAll_59 : decode cX2_fewestForAll 59 = .ok (.goto 9, 3) := by decide +kernel
theorem dX2_fewestForAll_62 : decode cX2_fewestForAll 62 = .ok (.aload_n 0, 1) := by decide +kernel
theorem dX2_fewestForAll_63 : decode cX2_fewestForAll 63 = .ok (.getfield 18, 3) := by decide +kernel
theorem dX2_fewestForAll_66 : decode cX2_fewestForAll 66 = .ok (.iconst 0, 1) := by decide +kernel
theorem dX2_fewestForAll_67 : decode cX2_fewestForAll 67 = .ok (.iaload, 1) := by decide +kernel
theorem dX2_fewestForAll_68 : decode cX2_fewestForAll 68 = .ok (.ireturn, 1) := by decide +kernel
theorem dX2_startQueue_0 : decode cX2_startQueue 0 = .ok (.aload_n 0, 1) := by decide +kernel
theorem dX2_startQueue_1 : decode cX2_startQueue 1 = .ok (.getfield 18, 3) := by decide +kernel
theorem dX2_startQueue_4 : decode cX2_startQueue 4 = .ok (.iconst (-1), 1) := by decide +kernel
theorem dX2_startQueue_5 : decode cX2_startQueue 5 = .ok (.invokestatic 121, 3) := by decide +kernel
theorem dX2_startQueue_8 : decode cX2_startQueue 8 = .ok (.aload_n 0, 1) := by decide +kernel
theorem dX2_startQueue_9 : decode cX2_startQueue 9 = .ok (.getfield 18, 3) := by decide +kernel
theorem dX2_startQueue_12 : decode cX2_startQueue 12 = .ok (.aload_n 0, 1) := by decide +kernel
theorem dX2_startQueue_13 : decode cX2_startQueue 13 = .ok (.getfield 28, 3) := by decide +kernel
theorem dX2_startQueue_16 : decode cX2_startQueue 16 = .ok (.iconst 0, 1) := by decide +kernel
theorem dX2_startQueue_17 : decode cX2_startQueue 17 = .ok (.iastore, 1) := by decide +kernel
theorem dX2_startQueue_18 : decode cX2_startQueue 18 = .ok (.aload_n 0, 1) := by decide +kernel
theorem dX2_startQueue_19 : decode cX2_startQueue 19 = .ok (.getfield 21, 3) := by decide +kernel
theorem dX2_startQueue_22 : decode cX2_startQueue 22 = .ok (.iconst 0, 1) := by decide +kernel
theorem dX2_startQueue_23 : decode cX2_startQueue 23 = .ok (.aload_n 0, 1) := by decide +kernel
theorem dX2_startQueue_24 : decode cX2_startQueue 24 = .ok (.getfield 28, 3) := by decide +kernel
theorem dX2_startQueue_27 : decode cX2_startQueue 27 = .ok (.iastore, 1) := by decide +kernel
theorem dX2_startQueue_28 : decode cX2_startQueue 28 = .ok (.aload_n 0, 1) := by decide +kernel
theorem dX2_startQueue_29 : decode cX2_startQueue 29 = .ok (.iconst 1, 1) := by decide +kernel
theorem dX2_startQueue_30 : decode cX2_startQueue 30 = .ok (.putfield 24, 3) := by decide +kernel
theorem dX2_startQueue_33 : decode cX2_startQueue 33 = .ok (.return_, 1) := by decide +kernel
theorem dX2_queueAllBehind_0 : decode cX2_queueAllBehind 0 = .ok (.iconst 0, 1) := by decide +kernel
theorem dX2_queueAllBehind_1 : decode cX2_queueAllBehind 1 = .ok (.istore_n 2, 1) := by decide +kernel
theorem dX2_queueAllBehind_2 : decode cX2_queueAllBehind 2 = .ok (.iload_n 2, 1) := by decide +kernel
theorem dX2_queueAllBehind_3 : decode cX2_queueAllBehind 3 = .ok (.bipush 9, 2) := by decide +kernel
theorem dX2_queueAllBehind_5 : decode cX2_queueAllBehind 5 = .ok (.if_icmp .ge 82, 3) := by decide +kernel
theorem dX2_queueAllBehind_8 : decode cX2_queueAllBehind 8 = .ok (.iconst 0, 1) := by decide +kernel
theorem dX2_queueAllBehind_9 : decode cX2_queueAllBehind 9 = .ok (.istore_n 3, 1) := by decide +kernel
theorem dX2_queueAllBehind_10 : decode cX2_queueAllBehind 10 = .ok (.iload_n 3, 1) := by decide +kernel
theorem dX2_queueAllBehind_11 : decode cX2_queueAllBehind 11 = .ok (.bipush 8, 2) := by decide +kernel
theorem dX2_queueAllBehind_13 : decode cX2_queueAllBehind 13 = .ok (.if_icmp .ge 68, 3) := by decide +kernel
theorem dX2_queueAllBehind_16 : decode cX2_queueAllBehind 16 = .ok (.iload_n 2, 1) := by decide +kernel
theorem dX2_queueAllBehind_17 : decode cX2_queueAllBehind 17 = .ok (.iload_n 1, 1) := by decide +kernel
theorem dX2_queueAllBehind_18 : decode cX2_queueAllBehind 18 = .ok (.invokestatic 86, 3) := by decide +kernel
theorem dX2_queueAllBehind_21 : decode cX2_queueAllBehind 21 = .ok (.ifCond .eq 60, 3) := by decide +kernel
theorem dX2_queueAllBehind_24 : decode cX2_queueAllBehind 24 = .ok (.aload_n 0, 1) := by decide +kernel
theorem dX2_queueAllBehind_25 : decode cX2_queueAllBehind 25 = .ok (.aload_n 0, 1) := by decide +kernel
theorem dX2_queueAllBehind_26 : decode cX2_queueAllBehind 26 = .ok (.getfield 31, 3) := by decide +kernel
theorem dX2_queueAllBehind_29 : decode cX2_queueAllBehind 29 = .ok (.iload_n 2, 1) := by decide +kernel
theorem dX2_queueAllBehind_30 : decode cX2_queueAllBehind 30 = .ok (.iload_n 3, 1) := by decide +kernel
theorem dX2_queueAllBehind_31 : decode cX2_queueAllBehind 31 = .ok (.iload_n 1, 1) := by decide +kernel
theorem dX2_queueAllBehind_32 : decode cX2_queueAllBehind 32 = .ok (.invokevirtual 93, 3) := by decide +kernel
theorem dX2_queueAllBehind_35 : decode cX2_queueAllBehind 35 = .ok (.ifCond .eq 40, 3) := by decide +kernel
theorem dX2_queueAllBehind_38 : decode cX2_queueAllBehind 38 = .ok (.iconst (-1), 1) := by decide +kernel
theorem dX2_queueAllBehind_39 : decode cX2_queueAllBehind 39 = .ok (.istore 4, 2) := by decide +kernel
theorem dX2_queueAllBehind_41 : decode cX2_queueAllBehind 41 = .ok (.iload 4, 2) := by decide +kernel
theorem dX2_queueAllBehind_43 : decode cX2_queueAllBehind 43 = .ok (.iconst 1, 1) := by decide +kernel
theorem dX2_queueAllBehind_44 : decode cX2_queueAllBehind 44 = .ok (.if_icmp .gt 31, 3) := by decide +kernel
theorem dX2_queueAllBehind_47 : decode cX2_queueAllBehind 47 = .ok (.aload_n 0, 1) := by decide +kernel
theorem dX2_queueAllBehind_48 : decode cX2_queueAllBehind 48 = .ok (.aload_n 0, 1) := by decide +kernel
theorem dX2_queueAllBehind_49 : decode cX2_queueAllBehind 49 = .ok (.iload_n 1, 1) := by decide +kernel
theorem dX2_queueAllBehind_50 : decode cX2_queueAllBehind 50 = .ok (.iload_n 2, 1) := by decide +kernel
theorem dX2_queueAllBehind_51 : decode cX2_queueAllBehind 51 = .ok (.iload_n 3, 1) := by decide +kernel
theorem dX2_queueAllBehind_52 : decode cX2_queueAllBehind 52 = .ok (.iload 4, 2) := by decide +kernel
theorem dX2_queueAllBehind_54 : decode cX2_queueAllBehind 54 = .ok (.iconst 0, 1) := by decide +kernel
theorem dX2_queueAllBehind_55 : decode cX2_queueAllBehind 55 = .ok (.invokevirtual 97, 3) := by decide +kernel
theorem dX2_queueAllBehind_58 : decode cX2_queueAllBehind 58 = .ok (.aload_n 0, 1) := by decide +kernel
theorem dX2_queueAllBehind_59 : decode cX2_queueAllBehind 59 = .ok (.getfield 18, 3) := by decide +kernel
theorem dX2_queueAllBehind_62 : decode cX2_queueAllBehind 62 = .ok (.iload_n 1, 1) := by decide +kernel
theorem dX2_queueAllBehind_63 : decode cX2_queueAllBehind 63 = .ok (.iaload, 1) := by decide +kernel
theorem dX2_queueAllBehind_64 : decode cX2_queueAllBehind 64 = .ok (.iconst 1, 1) := by decide +kernel
theorem dX2_queueAllBehind_65 : decode cX2_queueAllBehind 65 = .ok (.iadd, 1) := by decide +kernel
theorem dX2_queueAllBehind_66 : decode cX2_queueAllBehind 66 = .ok (.invokevirtual 127, 3) := by decide +kernel
theorem dX2_queueAllBehind_69 : decode cX2_queueAllBehind 69 = .ok (.iinc 4 1, 3) := by decide +kernel
theorem dX2_queueAllBehind_72 : decode cX2_queueAllBehind 72 = .ok (.goto (-31), 3) := by decide +kernel
theorem dX2_queueAllBehind_75 : decode cX2_queueAllBehind 75 = .ok (.iinc 3 1, 3) := by decide +kernel
theorem dX2_queueAllBehind_78 : decode cX2_queueAllBehind 78 = .ok (.goto (-68), 3) := by decide +kernel
theorem dX2_queueAllBehind_81 : decode cX2_queueAllBehind 81 = .ok (.iinc 2 1, 3) := by decide +kernel
theorem dX2_queueAllBehind_84 : decode cX2_queueAllBehind 84 = .ok (.goto (-82), 3) := by decide +kernel
theorem dX2_queueAllBehind_87 : decode cX2_queueAllBehind 87 = .ok (.return_, 1) := by decide +kernel
theorem dX2_enqueue_0 : decode cX2_enqueue 0 = .ok (.aload_n 0, 1) := by decide +kernel
theorem dX2_enqueue_1 : decode cX2_enqueue 1 = .ok (.getfield 18, 3) := by decide +kernel
theorem dX2_enqueue_4 : decode cX2_enqueue 4 = .ok (.iload_n 1, 1) := by decide +kernel
theorem dX2_enqueue_5 : decode cX2_enqueue 5 = .ok (.iaload, 1) := by decide +kernel
theorem dX2_enqueue_6 : decode cX2_enqueue 6 = .ok (.iconst (-1), 1) := by decide +kernel
theorem dX2_enqueue_7 : decode cX2_enqueue 7 = .ok (.if_icmp .ne 40, 3) := by decide +kernel
theorem dX2_enqueue_10 : decode cX2_enqueue 10 = .ok (.aload_n 0, 1) := by decide +kernel
theorem dX2_enqueue_11 : decode cX2_enqueue 11 = .ok (.getfield 24, 3) := by decide +kernel
theorem dX2_enqueue_14 : decode cX2_enqueue 14 = .ok (.sipush 512, 3) := by decide +kernel
theorem dX2_enqueue_17 : decode cX2_enqueue 17 = .ok (.if_icmp .ge 30, 3) := by decide +kernel
theorem dX2_enqueue_20 : decode cX2_enqueue 20 = .ok (.aload_n 0, 1) := by decide +kernel
theorem dX2_enqueue_21 : decode cX2_enqueue 21 = .ok (.getfield 18, 3) := by decide +kernel
theorem dX2_enqueue_24 : decode cX2_enqueue 24 = .ok (.iload_n 1, 1) := by decide +kernel
theorem dX2_enqueue_25 : decode cX2_enqueue 25 = .ok (.iload_n 2, 1) := by decide +kernel
theorem dX2_enqueue_26 : decode cX2_enqueue 26 = .ok (.iastore, 1) := by decide +kernel
theorem dX2_enqueue_27 : decode cX2_enqueue 27 = .ok (.aload_n 0, 1) := by decide +kernel
theorem dX2_enqueue_28 : decode cX2_enqueue 28 = .ok (.getfield 21, 3) := by decide +kernel
theorem dX2_enqueue_31 : decode cX2_enqueue 31 = .ok (.aload_n 0, 1) := by decide +kernel
theorem dX2_enqueue_32 : decode cX2_enqueue 32 = .ok (.getfield 24, 3) := by decide +kernel
theorem dX2_enqueue_35 : decode cX2_enqueue 35 = .ok (.iload_n 1, 1) := by decide +kernel
theorem dX2_enqueue_36 : decode cX2_enqueue 36 = .ok (.iastore, 1) := by decide +kernel
theorem dX2_enqueue_37 : decode cX2_enqueue 37 = .ok (.aload_n 0, 1) := by decide +kernel
theorem dX2_enqueue_38 : decode cX2_enqueue 38 = .ok (.dup, 1) := by decide +kernel
theorem dX2_enqueue_39 : decode cX2_enqueue 39 = .ok (.getfield 24, 3) := by decide +kernel
theorem dX2_enqueue_42 : decode cX2_enqueue 42 = .ok (.iconst 1, 1) := by decide +kernel
theorem dX2_enqueue_43 : decode cX2_enqueue 43 = .ok (.iadd, 1) := by decide +kernel
theorem dX2_enqueue_44 : decode cX2_enqueue 44 = .ok (.putfield 24, 3) := by decide +kernel
theorem dX2_enqueue_47 : decode cX2_enqueue 47 = .ok (.return_, 1) := by decide +kernel
theorem dX3_init_0 : decode cX3_init 0 = .ok (.aload_n 0, 1) := by decide +kernel
theorem dX3_init_1 : decode cX3_init 1 = .ok (.invokespecial 3, 3) := by decide +kernel
theorem dX3_init_4 : decode cX3_init 4 = .ok (.aload_n 0, 1) := by decide +kernel
theorem dX3_init_5 : decode cX3_init 5 = .ok (.iconst (-1), 1) := by decide +kernel
theorem dX3_init_6 : decode cX3_init 6 = .ok (.putfield 11, 3) := by decide +kernel
theorem dX3_init_9 : decode cX3_init 9 = .ok (.aload_n 0, 1) := by decide +kernel
theorem dX3_init_10 : decode cX3_init 10 = .ok (.iconst 0, 1) := by decide +kernel
theorem dX3_init_11 : decode cX3_init 11 = .ok (.putfield 15, 3) := by decide +kernel
theorem dX3_init_14 : decode cX3_init 14 = .ok (.aload_n 0, 1) := by decide +kernel
theorem dX3_init_15 : decode cX3_init 15 = .ok (.bipush 24, 2) := by decide +kernel
theorem dX3_init_17 : decode cX3_init 17 = .ok (.newarray .int, 2) := by decide +kernel
theorem dX3_init_19 : decode cX3_init 19 = .ok (.putfield 18, 3) := by decide +kernel
theorem dX3_init_22 : decode cX3_init 22 = .ok (.return_, 1) := by decide +kernel
theorem dX3_becomeRow_0 : decode cX3_becomeRow 0 = .ok (.aload_n 0, 1) := by decide +kernel
theorem dX3_becomeRow_1 : decode cX3_becomeRow 1 = .ok (.iload_n 1, 1) := by decide +kernel
theorem dX3_becomeRow_2 : decode cX3_becomeRow 2 = .ok (.putfield 11, 3) := by decide +kernel
theorem dX3_becomeRow_5 : decode cX3_becomeRow 5 = .ok (.aload_n 0, 1) := by decide +kernel
theorem dX3_becomeRow_6 : decode cX3_becomeRow 6 = .ok (.iload_n 2, 1) := by decide +kernel
theorem dX3_becomeRow_7 : decode cX3_becomeRow 7 = .ok (.putfield 15, 3) := by decide +kernel
theorem dX3_becomeRow_10 : decode cX3_becomeRow 10 = .ok (.aload_n 0, 1) := by decide +kernel
theorem dX3_becomeRow_11 : decode cX3_becomeRow 11 = .ok (.getfield 18, 3) := by decide +kernel
theorem dX3_becomeRow_14 : decode cX3_becomeRow 14 = .ok (.iconst 0, 1) := by decide +kernel
theorem dX3_becomeRow_15 : decode cX3_becomeRow 15 = .ok (.invokestatic 22, 3) := by decide +kernel
theorem dX3_becomeRow_18 : decode cX3_becomeRow 18 = .ok (.return_, 1) := by decide +kernel
theorem dX3_becomeAs_0 : decode cX3_becomeAs 0 = .ok (.aload_n 0, 1) := by decide +kernel
theorem dX3_becomeAs_1 : decode cX3_becomeAs 1 = .ok (.aload_n 1, 1) := by decide +kernel
theorem dX3_becomeAs_2 : decode cX3_becomeAs 2 = .ok (.getfield 11, 3) := by decide +kernel
theorem dX3_becomeAs_5 : decode cX3_becomeAs 5 = .ok (.putfield 11, 3) := by decide +kernel
theorem dX3_becomeAs_8 : decode cX3_becomeAs 8 = .ok (.aload_n 0, 1) := by decide +kernel
theorem dX3_becomeAs_9 : decode cX3_becomeAs 9 = .ok (.aload_n 1, 1) := by decide +kernel
theorem dX3_becomeAs_10 : decode cX3_becomeAs 10 = .ok (.getfield 15, 3) := by decide +kernel
theorem dX3_becomeAs_13 : decode cX3_becomeAs 13 = .ok (.putfield 15, 3) := by decide +kernel
theorem dX3_becomeAs_16 : decode cX3_becomeAs 16 = .ok (.aload_n 1, 1) := by decide +kernel
theorem dX3_becomeAs_17 : decode cX3_becomeAs 17 = .ok (.getfield 18, 3) := by decide +kernel
theorem dX3_becomeAs_20 : decode cX3_becomeAs 20 = .ok (.iconst 0, 1) := by decide +kernel
theorem dX3_becomeAs_21 : decode cX3_becomeAs 21 = .ok (.aload_n 0, 1) := by decide +kernel
theorem dX3_becomeAs_22 : decode cX3_becomeAs 22 = .ok (.getfield 18, 3) := by decide +kernel
theorem dX3_becomeAs_25 : decode cX3_becomeAs 25 = .ok (.iconst 0, 1) := by decide +kernel
theorem dX3_becomeAs_26 : decode cX3_becomeAs 26 = .ok (.bipush 24, 2) := by decide +kernel
theorem dX3_becomeAs_28 : decode cX3_becomeAs 28 = .ok (.invokestatic 28, 3) := by decide +kernel
theorem dX3_becomeAs_31 : decode cX3_becomeAs 31 = .ok (.return_, 1) := by decide +kernel
theorem dX3_isMissing_0 : decode cX3_isMissing 0 = .ok (.aload_n 0, 1) := by decide +kernel
theorem dX3_isMissing_1 : decode cX3_isMissing 1 = .ok (.getfield 11, 3) := by decide +kernel
theorem dX3_isMissing_4 : decode cX3_isMissing 4 = .ok (.iconst (-1), 1) := by decide +kernel
theorem dX3_isMissing_5 : decode cX3_isMissing 5 = .ok (.if_icmp .ne 7, 3) := by decide +kernel
theorem dX3_isMissing_8 : decode cX3_isMissing 8 = .ok (.iconst 1, 1) := by decide +kernel
theorem dX3_isMissing_9 : decode cX3_isMissing 9 = .ok (.goto 4, 3) := by decide +kernel
theorem dX3_isMissing_12 : decode cX3_isMissing 12 = .ok (.iconst 0, 1) := by decide +kernel
theorem dX3_isMissing_13 : decode cX3_isMissing 13 = .ok (.ireturn, 1) := by decide +kernel
theorem dX3_has_0 : decode cX3_has 0 = .ok (.iload_n 1, 1) := by decide +kernel
theorem dX3_has_1 : decode cX3_has 1 = .ok (.ifCond .lt 15, 3) := by decide +kernel
theorem dX3_has_4 : decode cX3_has 4 = .ok (.iload_n 1, 1) := by decide +kernel
theorem dX3_has_5 : decode cX3_has 5 = .ok (.aload_n 0, 1) := by decide +kernel
theorem dX3_has_6 : decode cX3_has 6 = .ok (.getfield 15, 3) := by decide +kernel
theorem dX3_has_9 : decode cX3_has 9 = .ok (.if_icmp .ge 7, 3) := by decide +kernel
theorem dX3_has_12 : decode cX3_has 12 = .ok (.iconst 1, 1) := by decide +kernel
theorem dX3_has_13 : decode cX3_has 13 = .ok (.goto 4, 3) := by decide +kernel
theorem dX3_has_16 : decode cX3_has 16 = .ok (.iconst 0, 1) := by decide +kernel
theorem dX3_has_17 : decode cX3_has 17 = .ok (.ireturn, 1) := by decide +kernel
theorem dX3_hasRun_0 : decode cX3_hasRun 0 = .ok (.iload_n 1, 1) := by decide +kernel
theorem dX3_hasRun_1 : decode cX3_hasRun 1 = .ok (.ifCond .lt 21, 3) := by decide +kernel
theorem dX3_hasRun_4 : decode cX3_hasRun 4 = .ok (.iload_n 2, 1) := by decide +kernel
theorem dX3_hasRun_5 : decode cX3_hasRun 5 = .ok (.ifCond .lt 17, 3) := by decide +kernel
theorem dX3_hasRun_8 : decode cX3_hasRun 8 = .ok (.iload_n 2, 1) := by decide +kernel
theorem dX3_hasRun_9 : decode cX3_hasRun 9 = .ok (.aload_n 0, 1) := by decide +kernel
theorem dX3_hasRun_10 : decode cX3_hasRun 10 = .ok (.getfield 15, 3) := by decide +kernel
theorem dX3_hasRun_13 : decode cX3_hasRun 13 = .ok (.iload_n 1, 1) := by decide +kernel
theorem dX3_hasRun_14 : decode cX3_hasRun 14 = .ok (.isub, 1) := by decide +kernel
theorem dX3_hasRun_15 : decode cX3_hasRun 15 = .ok (.if_icmp .gt 7, 3) := by decide +kernel
theorem dX3_hasRun_18 : decode cX3_hasRun 18 = .ok (.iconst 1, 1) := by decide +kernel
theorem dX3_hasRun_19 : decode cX3_hasRun 19 = .ok (.goto 4, 3) := by decide +kernel
theorem dX3_hasRun_22 : decode cX3_hasRun 22 = .ok (.iconst 0, 1) := by decide +kernel
theorem dX3_hasRun_23 : decode cX3_hasRun 23 = .ok (.ireturn, 1) := by decide +kernel
theorem dX3_isNumber_0 : decode cX3_isNumber 0 = .ok (.aload_n 0, 1) := by decide +kernel
theorem dX3_isNumber_1 : decode cX3_isNumber 1 = .ok (.iload_n 1, 1) := by decide +kernel
theorem dX3_isNumber_2 : decode cX3_isNumber 2 = .ok (.invokevirtual 34, 3) := by decide +kernel
theorem dX3_isNumber_5 : decode cX3_isNumber 5 = .ok (.ifCond .eq 18, 3) := by decide +kernel
theorem dX3_isNumber_8 : decode cX3_isNumber 8 = .ok (.aload_n 0, 1) := by decide +kernel
theorem dX3_isNumber_9 : decode cX3_isNumber 9 = .ok (.getfield 18, 3) := by decide +kernel
theorem dX3_isNumber_12 : decode cX3_isNumber 12 = .ok (.iload_n 1, 1) := by decide +kernel
theorem dX3_isNumber_13 : decode cX3_isNumber 13 = .ok (.iaload, 1) := by decide +kernel
theorem dX3_isNumber_14 : decode cX3_isNumber 14 = .ok (.ldc 38, 2) := by decide +kernel
theorem dX3_isNumber_16 : decode cX3_isNumber 16 = .ok (.if_icmp .eq 7, 3) := by decide +kernel
theorem dX3_isNumber_19 : decode cX3_isNumber 19 = .ok (.iconst 1, 1) := by decide +kernel
theorem dX3_isNumber_20 : decode cX3_isNumber 20 = .ok (.goto 4, 3) := by decide +kernel
theorem dX3_isNumber_23 : decode cX3_isNumber 23 = .ok (.iconst 0, 1) := by decide +kernel
theorem dX3_isNumber_24 : decode cX3_isNumber 24 = .ok (.ireturn, 1) := by decide +kernel
theorem dX4_init_0 : decode cX4_init 0 = .ok (.aload_n 0, 1) := by decide +kernel
theorem dX4_init_1 : decode cX4_init 1 = .ok (.invokespecial 1, 3) := by decide +kernel
theorem dX4_init_4 : decode cX4_init 4 = .ok (.aload_n 0, 1) := by decide +kernel
theorem dX4_init_5 : decode cX4_init 5 = .ok (.iconst 0, 1) := by decide +kernel
theorem dX4_init_6 : decode cX4_init 6 = .ok (.putfield 9, 3) := by decide +kernel
theorem dX4_init_9 : decode cX4_init 9 = .ok (.aload_n 0, 1) := by decide +kernel
theorem dX4_init_10 : decode cX4_init 10 = .ok (.new 13, 3) := by decide +kernel
theorem dX4_init_13 : decode cX4_init 13 = .ok (.dup, 1) := by decide +kernel
theorem dX4_init_14 : decode cX4_init 14 = .ok (.invokespecial 15, 3) := by decide +kernel
theorem dX4_init_17 : decode cX4_init 17 = .ok (.putfield 16, 3) := by decide +kernel
theorem dX4_init_20 : decode cX4_init 20 = .ok (.aload_n 0, 1) := by decide +kernel
theorem dX4_init_21 : decode cX4_init 21 = .ok (.new 20, 3) := by decide +kernel
theorem dX4_init_24 : decode cX4_init 24 = .ok (.dup, 1) := by decide +kernel
theorem dX4_init_25 : decode cX4_init 25 = .ok (.invokespecial 22, 3) := by decide +kernel
theorem dX4_init_28 : decode cX4_init 28 = .ok (.putfield 23, 3) := by decide +kernel
theorem dX4_init_31 : decode cX4_init 31 = .ok (.aload_n 0, 1) := by decide +kernel
theorem dX4_init_32 : decode cX4_init 32 = .ok (.iconst 0, 1) := by decide +kernel
theorem dX4_init_33 : decode cX4_init 33 = .ok (.putfield 27, 3) := by decide +kernel
theorem dX4_init_36 : decode cX4_init 36 = .ok (.return_, 1) := by decide +kernel
theorem dX5_init_0 : decode cX5_init 0 = .ok (.aload_n 0, 1) := by decide +kernel
theorem dX5_init_1 : decode cX5_init 1 = .ok (.invokespecial 3, 3) := by decide +kernel
theorem dX5_init_4 : decode cX5_init 4 = .ok (.aload_n 0, 1) := by decide +kernel
theorem dX5_init_5 : decode cX5_init 5 = .ok (.bipush 96, 2) := by decide +kernel
theorem dX5_init_7 : decode cX5_init 7 = .ok (.newarray .byte, 2) := by decide +kernel
theorem dX5_init_9 : decode cX5_init 9 = .ok (.putfield 9, 3) := by decide +kernel
theorem dX5_init_12 : decode cX5_init 12 = .ok (.aload_n 0, 1) := by decide +kernel
theorem dX5_init_13 : decode cX5_init 13 = .ok (.iconst 0, 1) := by decide +kernel
theorem dX5_init_14 : decode cX5_init 14 = .ok (.putfield 15, 3) := by decide +kernel
theorem dX5_init_17 : decode cX5_init 17 = .ok (.return_, 1) := by decide +kernel
theorem dX5_put_0 : decode cX5_put 0 = .ok (.bipush 24, 2) := by decide +kernel
theorem dX5_put_2 : decode cX5_put 2 = .ok (.istore_n 2, 1) := by decide +kernel
theorem dX5_put_3 : decode cX5_put 3 = .ok (.iload_n 2, 1) := by decide +kernel
theorem dX5_put_4 : decode cX5_put 4 = .ok (.ifCond .lt 41, 3) := by decide +kernel
theorem dX5_put_7 : decode cX5_put 7 = .ok (.aload_n 0, 1) := by decide +kernel
theorem dX5_put_8 : decode cX5_put 8 = .ok (.getfield 15, 3) := by decide +kernel
theorem dX5_put_11 : decode cX5_put 11 = .ok (.bipush 96, 2) := by decide +kernel
theorem dX5_put_13 : decode cX5_put 13 = .ok (.if_icmp .ge 32, 3) := by decide +kernel
theorem dX5_put_16 : decode cX5_put 16 = .ok (.aload_n 0, 1) := by decide +kernel
theorem dX5_put_17 : decode cX5_put 17 = .ok (.getfield 9, 3) := by decide +kernel
theorem dX5_put_20 : decode cX5_put 20 = .ok (.aload_n 0, 1) := by decide +kernel
theorem dX5_put_21 : decode cX5_put 21 = .ok (.getfield 15, 3) := by decide +kernel
theorem dX5_put_24 : decode cX5_put 24 = .ok (.iload_n 1, 1) := by decide +kernel
theorem dX5_put_25 : decode cX5_put 25 = .ok (.iload_n 2, 1) := by decide +kernel
theorem dX5_put_26 : decode cX5_put 26 = .ok (.ishr, 1) := by decide +kernel
theorem dX5_put_27 : decode cX5_put 27 = .ok (.i2b, 1) := by decide +kernel
theorem dX5_put_28 : decode cX5_put 28 = .ok (.bastore, 1) := by decide +kernel
theorem dX5_put_29 : decode cX5_put 29 = .ok (.aload_n 0, 1) := by decide +kernel
theorem dX5_put_30 : decode cX5_put 30 = .ok (.dup, 1) := by decide +kernel
theorem dX5_put_31 : decode cX5_put 31 = .ok (.getfield 15, 3) := by decide +kernel
theorem dX5_put_34 : decode cX5_put 34 = .ok (.iconst 1, 1) := by decide +kernel
theorem dX5_put_35 : decode cX5_put 35 = .ok (.iadd, 1) := by decide +kernel
theorem dX5_put_36 : decode cX5_put 36 = .ok (.putfield 15, 3) := by decide +kernel
theorem dX5_put_39 : decode cX5_put 39 = .ok (.iinc 2 (-8), 3) := by decide +kernel
theorem dX5_put_42 : decode cX5_put 42 = .ok (.goto (-39), 3) := by decide +kernel
theorem dX5_put_45 : decode cX5_put 45 = .ok (.return_, 1) := by decide +kernel
theorem dX6_init_0 : decode cX6_init 0 = .ok (.aload_n 0, 1) := by decide +kernel
theorem dX6_init_1 : decode cX6_init 1 = .ok (.invokespecial 1, 3) := by decide +kernel
theorem dX6_init_4 : decode cX6_init 4 = .ok (.aload_n 0, 1) := by decide +kernel
theorem dX6_init_5 : decode cX6_init 5 = .ok (.iload_n 1, 1) := by decide +kernel
theorem dX6_init_6 : decode cX6_init 6 = .ok (.putfield 7, 3) := by decide +kernel
theorem dX6_init_9 : decode cX6_init 9 = .ok (.aload_n 0, 1) := by decide +kernel
theorem dX6_init_10 : decode cX6_init 10 = .ok (.iload_n 2, 1) := by decide +kernel
theorem dX6_init_11 : decode cX6_init 11 = .ok (.putfield 13, 3) := by decide +kernel
theorem dX6_init_14 : decode cX6_init 14 = .ok (.aload_n 0, 1) := by decide +kernel
theorem dX6_init_15 : decode cX6_init 15 = .ok (.aload_n 3, 1) := by decide +kernel
theorem dX6_init_16 : decode cX6_init 16 = .ok (.putfield 16, 3) := by decide +kernel
theorem dX6_init_19 : decode cX6_init 19 = .ok (.aload_n 0, 1) := by decide +kernel
theorem dX6_init_20 : decode cX6_init 20 = .ok (.iconst 1, 1) := by decide +kernel
theorem dX6_init_21 : decode cX6_init 21 = .ok (.iload_n 2, 1) := by decide +kernel
theorem dX6_init_22 : decode cX6_init 22 = .ok (.invokestatic 20, 3) := by decide +kernel
theorem dX6_init_25 : decode cX6_init 25 = .ok (.newarray .int, 2) := by decide +kernel
theorem dX6_init_27 : decode cX6_init 27 = .ok (.putfield 26, 3) := by decide +kernel
theorem dX6_init_30 : decode cX6_init 30 = .ok (.return_, 1) := by decide +kernel
theorem dX6_gives_0 : decode cX6_gives 0 = .ok (.iconst 0, 1) := by decide +kernel
theorem dX6_gives_1 : decode cX6_gives 1 = .ok (.istore 5, 2) := by decide +kernel
theorem dX6_gives_3 : decode cX6_gives 3 = .ok (.iconst 0, 1) := by decide +kernel
theorem dX6_gives_4 : decode cX6_gives 4 = .ok (.istore 6, 2) := by decide +kernel
theorem dX6_gives_6 : decode cX6_gives 6 = .ok (.iload 6, 2) := by decide +kernel
theorem dX6_gives_8 : decode cX6_gives 8 = .ok (.aload_n 0, 1) := by decide +kernel
theorem dX6_gives_9 : decode cX6_gives 9 = .ok (.getfield 16, 3) := by decide +kernel
theorem dX6_gives_12 : decode cX6_gives 12 = .ok (.arraylength, 1) := by decide +kernel
theorem dX6_gives_13 : decode cX6_gives 13 = .ok (.if_icmp .ge 155, 3) := by decide +kernel
theorem dX6_gives_16 : decode cX6_gives 16 = .ok (.aload_n 0, 1) := by decide +kernel
theorem dX6_gives_17 : decode cX6_gives 17 = .ok (.getfield 16, 3) := by decide +kernel
theorem dX6_gives_20 : decode cX6_gives 20 = .ok (.iload 6, 2) := by decide +kernel
theorem dX6_gives_22 : decode cX6_gives 22 = .ok (.iaload, 1) := by decide +kernel
theorem dX6_gives_23 : decode cX6_gives 23 = .ok (.istore 7, 2) := by decide +kernel
theorem dX6_gives_25 : decode cX6_gives 25 = .ok (.iload 7, 2) := by decide +kernel
theorem dX6_gives_27 : decode cX6_gives 27 = .ok (.ifCond .lt 53, 3) := by decide +kernel
theorem dX6_gives_30 : decode cX6_gives 30 = .ok (.iload 5, 2) := by decide +kernel
theorem dX6_gives_32 : decode cX6_gives 32 = .ok (.aload_n 0, 1) := by decide +kernel
theorem dX6_gives_33 : decode cX6_gives 33 = .ok (.getfield 26, 3) := by decide +kernel
theorem dX6_gives_36 : decode cX6_gives 36 = .ok (.arraylength, 1) := by decide +kernel
theorem dX6_gives_37 : decode cX6_gives 37 = .ok (.if_icmp .ge 43, 3) := by decide +kernel
theorem dX6_gives_40 : decode cX6_gives 40 = .ok (.aload_n 0, 1) := by decide +kernel
theorem dX6_gives_41 : decode cX6_gives 41 = .ok (.getfield 26, 3) := by decide +kernel
theorem dX6_gives_44 : decode cX6_gives 44 = .ok (.iload 5, 2) := by decide +kernel
theorem dX6_gives_46 : decode cX6_gives 46 = .ok (.iload 7, 2) := by decide +kernel
theorem dX6_gives_48 : decode cX6_gives 48 = .ok (.sipush 10000, 3) := by decide +kernel
theorem dX6_gives_51 : decode cX6_gives 51 = .ok (.if_icmp .ge 8, 3) := by decide +kernel
theorem dX6_gives_54 : decode cX6_gives 54 = .ok (.iload 7, 2) := by decide +kernel
theorem dX6_gives_56 : decode cX6_gives 56 = .ok (.goto 17, 3) := by decide +kernel
theorem dX6_gives_59 : decode cX6_gives 59 = .ok (.iload 7, 2) := by decide +kernel
theorem dX6_gives_61 : decode cX6_gives 61 = .ok (.sipush 10000, 3) := by decide +kernel
theorem dX6_gives_64 : decode cX6_gives 64 = .ok (.isub, 1) := by decide +kernel
theorem dX6_gives_65 : decode cX6_gives 65 = .ok (.iload_n 1, 1) := by decide +kernel
theorem dX6_gives_66 : decode cX6_gives 66 = .ok (.iload_n 2, 1) := by decide +kernel
theorem dX6_gives_67 : decode cX6_gives 67 = .ok (.iload_n 3, 1) := by decide +kernel
theorem dX6_gives_68 : decode cX6_gives 68 = .ok (.iload 4, 2) := by decide +kernel
theorem dX6_gives_70 : decode cX6_gives 70 = .ok (.invokestatic 29, 3) := by decide +kernel
theorem dX6_gives_73 : decode cX6_gives 73 = .ok (.iastore, 1) := by decide +kernel
theorem dX6_gives_74 : decode cX6_gives 74 = .ok (.iinc 5 1, 3) := by decide +kernel
theorem dX6_gives_77 : decode cX6_gives 77 = .ok (.goto 85, 3) := by decide +kernel
theorem dX6_gives_80 : decode cX6_gives 80 = .ok (.iload 7, 2) := by decide +kernel
theorem dX6_gives_82 : decode cX6_gives 82 = .ok (.bipush (-33), 2) := by decide +kernel
theorem dX6_gives_84 : decode cX6_gives 84 = .ok (.if_icmp .ne 38, 3) := by decide +kernel
theorem dX6_gives_87 : decode cX6_gives 87 = .ok (.iload 5, 2) := by decide +kernel
theorem dX6_gives_89 : decode cX6_gives 89 = .ok (.iconst 1, 1) := by decide +kernel
theorem dX6_gives_90 : decode cX6_gives 90 = .ok (.if_icmp .lt 32, 3) := by decide +kernel
theorem dX6_gives_93 : decode cX6_gives 93 = .ok (.aload_n 0, 1) := by decide +kernel
theorem dX6_gives_94 : decode cX6_gives 94 = .ok (.getfield 26, 3) := by decide +kernel
theorem dX6_gives_97 : decode cX6_gives 97 = .ok (.iload 5, 2) := by decide +kernel
theorem dX6_gives_99 : decode cX6_gives 99 = .ok (.iconst 1, 1) := by decide +kernel
theorem dX6_gives_100 : decode cX6_gives 100 = .ok (.isub, 1) := by decide +kernel
theorem dX6_gives_101 : decode cX6_gives 101 = .ok (.aload_n 0, 1) := by decide +kernel
theorem dX6_gives_102 : decode cX6_gives 102 = .ok (.getfield 26, 3) := by decide +kernel
theorem dX6_gives_105 : decode cX6_gives 105 = .ok (.iload 5, 2) := by decide +kernel
theorem dX6_gives_107 : decode cX6_gives 107 = .ok (.iconst 1, 1) := by decide +kernel
theorem dX6_gives_108 : decode cX6_gives 108 = .ok (.isub, 1) := by decide +kernel
theorem dX6_gives_109 : decode cX6_gives 109 = .ok (.iaload, 1) := by decide +kernel
theorem dX6_gives_110 : decode cX6_gives 110 = .ok (.ifCond .ne 7, 3) := by decide +kernel
theorem dX6_gives_113 : decode cX6_gives 113 = .ok (.iconst 1, 1) := by decide +kernel
theorem dX6_gives_114 : decode cX6_gives 114 = .ok (.goto 4, 3) := by decide +kernel
theorem dX6_gives_117 : decode cX6_gives 117 = .ok (.iconst 0, 1) := by decide +kernel
theorem dX6_gives_118 : decode cX6_gives 118 = .ok (.iastore, 1) := by decide +kernel
theorem dX6_gives_119 : decode cX6_gives 119 = .ok (.goto 43, 3) := by decide +kernel
theorem dX6_gives_122 : decode cX6_gives 122 = .ok (.iload 5, 2) := by decide +kernel
theorem dX6_gives_124 : decode cX6_gives 124 = .ok (.iconst 2, 1) := by decide +kernel
theorem dX6_gives_125 : decode cX6_gives 125 = .ok (.if_icmp .lt 37, 3) := by decide +kernel
theorem dX6_gives_128 : decode cX6_gives 128 = .ok (.iinc 5 (-1), 3) := by decide +kernel
theorem dX6_gives_131 : decode cX6_gives 131 = .ok (.aload_n 0, 1) := by decide +kernel
theorem dX6_gives_132 : decode cX6_gives 132 = .ok (.getfield 26, 3) := by decide +kernel
theorem dX6_gives_135 : decode cX6_gives 135 = .ok (.iload 5, 2) := by decide +kernel
theorem dX6_gives_137 : decode cX6_gives 137 = .ok (.iconst 1, 1) := by decide +kernel
theorem dX6_gives_138 : decode cX6_gives 138 = .ok (.isub, 1) := by decide +kernel
theorem dX6_gives_139 : decode cX6_gives 139 = .ok (.iload 7, 2) := by decide +kernel
theorem dX6_gives_141 : decode cX6_gives 141 = .ok (.ineg, 1) := by decide +kernel
theorem dX6_gives_142 : decode cX6_gives 142 = .ok (.aload_n 0, 1) := by decide +kernel
theorem dX6_gives_143 : decode cX6_gives 143 = .ok (.getfield 26, 3) := by decide +kernel
theorem dX6_gives_146 : decode cX6_gives 146 = .ok (.iload 5, 2) := by decide +kernel
theorem dX6_gives_148 : decode cX6_gives 148 = .ok (.iconst 1, 1) := by decide +kernel
theorem dX6_gives_149 : decode cX6_gives 149 = .ok (.isub, 1) := by decide +kernel
theorem dX6_gives_150 : decode cX6_gives 150 = .ok (.iaload, 1) := by decide +kernel
theorem dX6_gives_151 : decode cX6_gives 151 = .ok (.aload_n 0, 1) := by decide +kernel
theorem dX6_gives_152 : decode cX6_gives 152 = .ok (.getfield 26, 3) := by decide +kernel
theorem dX6_gives_155 : decode cX6_gives 155 = .ok (.iload 5, 2) := by decide +kernel
theorem dX6_gives_157 : decode cX6_gives 157 = .ok (.iaload, 1) := by decide +kernel
theorem dX6_gives_158 : decode cX6_gives 158 = .ok (.invokestatic 33, 3) := by decide +kernel
theorem dX6_gives_161 : decode cX6_gives 161 = .ok (.iastore, 1) := by decide +kernel
theorem dX6_gives_162 : decode cX6_gives 162 = .ok (.iinc 6 1, 3) := by decide +kernel
theorem dX6_gives_165 : decode cX6_gives 165 = .ok (.goto (-159), 3) := by decide +kernel
theorem dX6_gives_168 : decode cX6_gives 168 = .ok (.aload_n 0, 1) := by decide +kernel
theorem dX6_gives_169 : decode cX6_gives 169 = .ok (.getfield 26, 3) := by decide +kernel
theorem dX6_gives_172 : decode cX6_gives 172 = .ok (.iconst 0, 1) := by decide +kernel
theorem dX6_gives_173 : decode cX6_gives 173 = .ok (.iaload, 1) := by decide +kernel
theorem dX6_gives_174 : decode cX6_gives 174 = .ok (.ireturn, 1) := by decide +kernel
