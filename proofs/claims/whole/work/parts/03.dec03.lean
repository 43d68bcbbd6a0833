theorem dX9_as_0 : decode cX9_as 0 = .ok (.aload_n 0, 1) := by decide +kernel
theorem dX9_as_1 : decode cX9_as 1 = .ok (.iload_n 1, 1) := by decide +kernel
theorem dX9_as_2 : decode cX9_as 2 = .ok (.invokevirtual 85, 3) := by decide +kernel
theorem dX9_as_5 : decode cX9_as 5 = .ok (.ifCond .eq 12, 3) := by decide +kernel
theorem dX9_as_8 : decode cX9_as 8 = .ok (.iload_n 2, 1) := by decide +kernel
theorem dX9_as_9 : decode cX9_as 9 = .ok (.iconst 0, 1) := by decide +kernel
theorem dX9_as_10 : decode cX9_as 10 = .ok (.iconst 5, 1) := by decide +kernel
theorem dX9_as_11 : decode cX9_as 11 = .ok (.invokestatic 81, 3) := by decide +kernel
theorem dX9_as_14 : decode cX9_as 14 = .ok (.ifCond .ne 6, 3) := by decide +kernel
theorem dX9_as_17 : decode cX9_as 17 = .ok (.ldc 121, 2) := by decide +kernel
theorem dX9_as_19 : decode cX9_as 19 = .ok (.ireturn, 1) := by decide +kernel
theorem dX9_as_20 : decode cX9_as 20 = .ok (.aload_n 0, 1) := by decide +kernel
theorem dX9_as_21 : decode cX9_as 21 = .ok (.iload_n 1, 1) := by decide +kernel
theorem dX9_as_22 : decode cX9_as 22 = .ok (.iconst 0, 1) := by decide +kernel
theorem dX9_as_23 : decode cX9_as 23 = .ok (.invokevirtual 89, 3) := by decide +kernel
theorem dX9_as_26 : decode cX9_as 26 = .ok (.iload_n 2, 1) := by decide +kernel
theorem dX9_as_27 : decode cX9_as 27 = .ok (.invokestatic 136, 3) := by decide +kernel
theorem dX9_as_30 : decode cX9_as 30 = .ok (.ifCond .eq 12, 3) := by decide +kernel
theorem dX9_as_33 : decode cX9_as 33 = .ok (.aload_n 0, 1) := by decide +kernel
theorem dX9_as_34 : decode cX9_as 34 = .ok (.iload_n 1, 1) := by decide +kernel
theorem dX9_as_35 : decode cX9_as 35 = .ok (.iconst 1, 1) := by decide +kernel
theorem dX9_as_36 : decode cX9_as 36 = .ok (.invokevirtual 89, 3) := by decide +kernel
theorem dX9_as_39 : decode cX9_as 39 = .ok (.goto 5, 3) := by decide +kernel
theorem dX9_as_42 : decode cX9_as 42 = .ok (.ldc 140, 2) := by decide +kernel
theorem dX9_as_44 : decode cX9_as 44 = .ok (.ireturn, 1) := by decide +kernel
theorem dX9_turns_0 : decode cX9_turns 0 = .ok (.aload_n 0, 1) := by decide +kernel
theorem dX9_turns_1 : decode cX9_turns 1 = .ok (.iload_n 1, 1) := by decide +kernel
theorem dX9_turns_2 : decode cX9_turns 2 = .ok (.invokevirtual 85, 3) := by decide +kernel
theorem dX9_turns_5 : decode cX9_turns 5 = .ok (.ifCond .eq 27, 3) := by decide +kernel
theorem dX9_turns_8 : decode cX9_turns 8 = .ok (.iload_n 2, 1) := by decide +kernel
theorem dX9_turns_9 : decode cX9_turns 9 = .ok (.iconst 0, 1) := by decide +kernel
theorem dX9_turns_10 : decode cX9_turns 10 = .ok (.iconst 5, 1) := by decide +kernel
theorem dX9_turns_11 : decode cX9_turns 11 = .ok (.invokestatic 81, 3) := by decide +kernel
theorem dX9_turns_14 : decode cX9_turns 14 = .ok (.ifCond .eq 18, 3) := by decide +kernel
theorem dX9_turns_17 : decode cX9_turns 17 = .ok (.aload_n 0, 1) := by decide +kernel
theorem dX9_turns_18 : decode cX9_turns 18 = .ok (.bipush 7, 2) := by decide +kernel
theorem dX9_turns_20 : decode cX9_turns 20 = .ok (.bipush 6, 2) := by decide +kernel
theorem dX9_turns_22 : decode cX9_turns 22 = .ok (.iload_n 1, 1) := by decide +kernel
theorem dX9_turns_23 : decode cX9_turns 23 = .ok (.imul, 1) := by decide +kernel
theorem dX9_turns_24 : decode cX9_turns 24 = .ok (.iadd, 1) := by decide +kernel
theorem dX9_turns_25 : decode cX9_turns 25 = .ok (.iload_n 2, 1) := by decide +kernel
theorem dX9_turns_26 : decode cX9_turns 26 = .ok (.invokevirtual 141, 3) := by decide +kernel
theorem dX9_turns_29 : decode cX9_turns 29 = .ok (.goto 5, 3) := by decide +kernel
theorem dX9_turns_32 : decode cX9_turns 32 = .ok (.ldc 121, 2) := by decide +kernel
theorem dX9_turns_34 : decode cX9_turns 34 = .ok (.ireturn, 1) := by decide +kernel
theorem dX9_mostOf_0 : decode cX9_mostOf 0 = .ok (.iload_n 0, 1) := by decide +kernel
theorem dX9_mostOf_1 : decode cX9_mostOf 1 = .ok (.iconst 3, 1) := by decide +kernel
theorem dX9_mostOf_2 : decode cX9_mostOf 2 = .ok (.if_icmp .ne 8, 3) := by decide +kernel
theorem dX9_mostOf_5 : decode cX9_mostOf 5 = .ok (.bipush 7, 2) := by decide +kernel
theorem dX9_mostOf_7 : decode cX9_mostOf 7 = .ok (.goto 25, 3) := by decide +kernel
theorem dX9_mostOf_10 : decode cX9_mostOf 10 = .ok (.iload_n 0, 1) := by decide +kernel
theorem dX9_mostOf_11 : decode cX9_mostOf 11 = .ok (.iconst 4, 1) := by decide +kernel
theorem dX9_mostOf_12 : decode cX9_mostOf 12 = .ok (.if_icmp .ne 9, 3) := by decide +kernel
theorem dX9_mostOf_15 : decode cX9_mostOf 15 = .ok (.sipush 9999, 3) := by decide +kernel
theorem dX9_mostOf_18 : decode cX9_mostOf 18 = .ok (.goto 14, 3) := by decide +kernel
theorem dX9_mostOf_21 : decode cX9_mostOf 21 = .ok (.iload_n 0, 1) := by decide +kernel
theorem dX9_mostOf_22 : decode cX9_mostOf 22 = .ok (.iconst 5, 1) := by decide +kernel
theorem dX9_mostOf_23 : decode cX9_mostOf 23 = .ok (.if_icmp .ne 7, 3) := by decide +kernel
theorem dX9_mostOf_26 : decode cX9_mostOf 26 = .ok (.iconst 1, 1) := by decide +kernel
theorem dX9_mostOf_27 : decode cX9_mostOf 27 = .ok (.goto 5, 3) := by decide +kernel
theorem dX9_mostOf_30 : decode cX9_mostOf 30 = .ok (.bipush 99, 2) := by decide +kernel
theorem dX9_mostOf_32 : decode cX9_mostOf 32 = .ok (.ireturn, 1) := by decide +kernel
theorem dX9_set_0 : decode cX9_set 0 = .ok (.aload_n 0, 1) := by decide +kernel
theorem dX9_set_1 : decode cX9_set 1 = .ok (.iload_n 1, 1) := by decide +kernel
theorem dX9_set_2 : decode cX9_set 2 = .ok (.invokevirtual 85, 3) := by decide +kernel
theorem dX9_set_5 : decode cX9_set 5 = .ok (.ifCond .eq 41, 3) := by decide +kernel
theorem dX9_set_8 : decode cX9_set 8 = .ok (.iload_n 2, 1) := by decide +kernel
theorem dX9_set_9 : decode cX9_set 9 = .ok (.iconst 1, 1) := by decide +kernel
theorem dX9_set_10 : decode cX9_set 10 = .ok (.iconst 5, 1) := by decide +kernel
theorem dX9_set_11 : decode cX9_set 11 = .ok (.invokestatic 81, 3) := by decide +kernel
theorem dX9_set_14 : decode cX9_set 14 = .ok (.ifCond .eq 32, 3) := by decide +kernel
theorem dX9_set_17 : decode cX9_set 17 = .ok (.iload_n 3, 1) := by decide +kernel
theorem dX9_set_18 : decode cX9_set 18 = .ok (.iconst 0, 1) := by decide +kernel
theorem dX9_set_19 : decode cX9_set 19 = .ok (.iload_n 2, 1) := by decide +kernel
theorem dX9_set_20 : decode cX9_set 20 = .ok (.invokestatic 144, 3) := by decide +kernel
theorem dX9_set_23 : decode cX9_set 23 = .ok (.invokestatic 81, 3) := by decide +kernel
theorem dX9_set_26 : decode cX9_set 26 = .ok (.ifCond .eq 20, 3) := by decide +kernel
theorem dX9_set_29 : decode cX9_set 29 = .ok (.aload_n 0, 1) := by decide +kernel
theorem dX9_set_30 : decode cX9_set 30 = .ok (.bipush 7, 2) := by decide +kernel
theorem dX9_set_32 : decode cX9_set 32 = .ok (.bipush 6, 2) := by decide +kernel
theorem dX9_set_34 : decode cX9_set 34 = .ok (.iload_n 1, 1) := by decide +kernel
theorem dX9_set_35 : decode cX9_set 35 = .ok (.imul, 1) := by decide +kernel
theorem dX9_set_36 : decode cX9_set 36 = .ok (.iadd, 1) := by decide +kernel
theorem dX9_set_37 : decode cX9_set 37 = .ok (.iload_n 2, 1) := by decide +kernel
theorem dX9_set_38 : decode cX9_set 38 = .ok (.iadd, 1) := by decide +kernel
theorem dX9_set_39 : decode cX9_set 39 = .ok (.iload_n 3, 1) := by decide +kernel
theorem dX9_set_40 : decode cX9_set 40 = .ok (.invokevirtual 141, 3) := by decide +kernel
theorem dX9_set_43 : decode cX9_set 43 = .ok (.goto 5, 3) := by decide +kernel
theorem dX9_set_46 : decode cX9_set 46 = .ok (.ldc 121, 2) := by decide +kernel
theorem dX9_set_48 : decode cX9_set 48 = .ok (.ireturn, 1) := by decide +kernel
theorem dX9_drops_0 : decode cX9_drops 0 = .ok (.aload_n 0, 1) := by decide +kernel
theorem dX9_drops_1 : decode cX9_drops 1 = .ok (.iload_n 1, 1) := by decide +kernel
theorem dX9_drops_2 : decode cX9_drops 2 = .ok (.iconst 5, 1) := by decide +kernel
theorem dX9_drops_3 : decode cX9_drops 3 = .ok (.iconst 1, 1) := by decide +kernel
theorem dX9_drops_4 : decode cX9_drops 4 = .ok (.invokevirtual 114, 3) := by decide +kernel
theorem dX9_drops_7 : decode cX9_drops 7 = .ok (.aload_n 0, 1) := by decide +kernel
theorem dX9_drops_8 : decode cX9_drops 8 = .ok (.iload_n 1, 1) := by decide +kernel
theorem dX9_drops_9 : decode cX9_drops 9 = .ok (.iconst 4, 1) := by decide +kernel
theorem dX9_drops_10 : decode cX9_drops 10 = .ok (.aload_n 0, 1) := by decide +kernel
theorem dX9_drops_11 : decode cX9_drops 11 = .ok (.iload_n 1, 1) := by decide +kernel
theorem dX9_drops_12 : decode cX9_drops 12 = .ok (.iconst 4, 1) := by decide +kernel
theorem dX9_drops_13 : decode cX9_drops 13 = .ok (.invokevirtual 89, 3) := by decide +kernel
theorem dX9_drops_16 : decode cX9_drops 16 = .ok (.iconst 1, 1) := by decide +kernel
theorem dX9_drops_17 : decode cX9_drops 17 = .ok (.iadd, 1) := by decide +kernel
theorem dX9_drops_18 : decode cX9_drops 18 = .ok (.iconst 0, 1) := by decide +kernel
theorem dX9_drops_19 : decode cX9_drops 19 = .ok (.sipush 9999, 3) := by decide +kernel
theorem dX9_drops_22 : decode cX9_drops 22 = .ok (.invokestatic 107, 3) := by decide +kernel
theorem dX9_drops_25 : decode cX9_drops 25 = .ok (.invokevirtual 114, 3) := by decide +kernel
theorem dX9_drops_28 : decode cX9_drops 28 = .ok (.aload_n 0, 1) := by decide +kernel
theorem dX9_drops_29 : decode cX9_drops 29 = .ok (.getfield 9, 3) := by decide +kernel
theorem dX9_drops_32 : decode cX9_drops 32 = .ok (.iconst 3, 1) := by decide +kernel
theorem dX9_drops_33 : decode cX9_drops 33 = .ok (.dup2, 1) := by decide +kernel
theorem dX9_drops_34 : decode cX9_drops 34 = .ok (.iaload, 1) := by decide +kernel
theorem dX9_drops_35 : decode cX9_drops 35 = .ok (.iconst 1, 1) := by decide +kernel
theorem dX9_drops_36 : decode cX9_drops 36 = .ok (.iadd, 1) := by decide +kernel
theorem dX9_drops_37 : decode cX9_drops 37 = .ok (.iastore, 1) := by decide +kernel
theorem dX9_drops_38 : decode cX9_drops 38 = .ok (.aload_n 0, 1) := by decide +kernel
theorem dX9_drops_39 : decode cX9_drops 39 = .ok (.iload_n 1, 1) := by decide +kernel
theorem dX9_drops_40 : decode cX9_drops 40 = .ok (.invokevirtual 127, 3) := by decide +kernel
theorem dX9_drops_43 : decode cX9_drops 43 = .ok (.istore 4, 2) := by decide +kernel
theorem dX9_drops_45 : decode cX9_drops 45 = .ok (.iload_n 3, 1) := by decide +kernel
theorem dX9_drops_46 : decode cX9_drops 46 = .ok (.iconst 1, 1) := by decide +kernel
theorem dX9_drops_47 : decode cX9_drops 47 = .ok (.if_icmp .eq 41, 3) := by decide +kernel
theorem dX9_drops_50 : decode cX9_drops 50 = .ok (.aload_n 0, 1) := by decide +kernel
theorem dX9_drops_51 : decode cX9_drops 51 = .ok (.getstatic 147, 3) := by decide +kernel
theorem dX9_drops_54 : decode cX9_drops 54 = .ok (.iload_n 1, 1) := by decide +kernel
theorem dX9_drops_55 : decode cX9_drops 55 = .ok (.iaload, 1) := by decide +kernel
theorem dX9_drops_56 : decode cX9_drops 56 = .ok (.invokevirtual 150, 3) := by decide +kernel
theorem dX9_drops_59 : decode cX9_drops 59 = .ok (.ifCond .eq 29, 3) := by decide +kernel
theorem dX9_drops_62 : decode cX9_drops 62 = .ok (.aload_n 0, 1) := by decide +kernel
theorem dX9_drops_63 : decode cX9_drops 63 = .ok (.getstatic 147, 3) := by decide +kernel
theorem dX9_drops_66 : decode cX9_drops 66 = .ok (.iload_n 1, 1) := by decide +kernel
theorem dX9_drops_67 : decode cX9_drops 67 = .ok (.iaload, 1) := by decide +kernel
theorem dX9_drops_68 : decode cX9_drops 68 = .ok (.iload_n 2, 1) := by decide +kernel
theorem dX9_drops_69 : decode cX9_drops 69 = .ok (.invokevirtual 133, 3) := by decide +kernel
theorem dX9_drops_72 : decode cX9_drops 72 = .ok (.iload 4, 2) := by decide +kernel
theorem dX9_drops_74 : decode cX9_drops 74 = .ok (.if_icmp .ge 14, 3) := by decide +kernel
theorem dX9_drops_77 : decode cX9_drops 77 = .ok (.aload_n 0, 1) := by decide +kernel
theorem dX9_drops_78 : decode cX9_drops 78 = .ok (.getstatic 147, 3) := by decide +kernel
theorem dX9_drops_81 : decode cX9_drops 81 = .ok (.iload_n 1, 1) := by decide +kernel
theorem dX9_drops_82 : decode cX9_drops 82 = .ok (.iaload, 1) := by decide +kernel
theorem dX9_drops_83 : decode cX9_drops 83 = .ok (.iload_n 2, 1) := by decide +kernel
theorem dX9_drops_84 : decode cX9_drops 84 = .ok (.iload_n 3, 1) := by decide +kernel
theorem dX9_drops_85 : decode cX9_drops 85 = .ok (.invokevirtual 153, 3) := by decide +kernel
theorem dX9_drops_88 : decode cX9_drops 88 = .ok (.iload_n 3, 1) := by decide +kernel
theorem dX9_drops_89 : decode cX9_drops 89 = .ok (.iconst (-1), 1) := by decide +kernel
theorem dX9_drops_90 : decode cX9_drops 90 = .ok (.if_icmp .eq 41, 3) := by decide +kernel
theorem dX9_drops_93 : decode cX9_drops 93 = .ok (.aload_n 0, 1) := by decide +kernel
theorem dX9_drops_94 : decode cX9_drops 94 = .ok (.getstatic 156, 3) := by decide +kernel
theorem dX9_drops_97 : decode cX9_drops 97 = .ok (.iload_n 1, 1) := by decide +kernel
theorem dX9_drops_98 : decode cX9_drops 98 = .ok (.iaload, 1) := by decide +kernel
theorem dX9_drops_99 : decode cX9_drops 99 = .ok (.invokevirtual 150, 3) := by decide +kernel
theorem dX9_drops_102 : decode cX9_drops 102 = .ok (.ifCond .eq 29, 3) := by decide +kernel
theorem dX9_drops_105 : decode cX9_drops 105 = .ok (.aload_n 0, 1) := by decide +kernel
theorem dX9_drops_106 : decode cX9_drops 106 = .ok (.getstatic 156, 3) := by decide +kernel
theorem dX9_drops_109 : decode cX9_drops 109 = .ok (.iload_n 1, 1) := by decide +kernel
theorem dX9_drops_110 : decode cX9_drops 110 = .ok (.iaload, 1) := by decide +kernel
theorem dX9_drops_111 : decode cX9_drops 111 = .ok (.iload_n 2, 1) := by decide +kernel
theorem dX9_drops_112 : decode cX9_drops 112 = .ok (.invokevirtual 133, 3) := by decide +kernel
theorem dX9_drops_115 : decode cX9_drops 115 = .ok (.iload 4, 2) := by decide +kernel
theorem dX9_drops_117 : decode cX9_drops 117 = .ok (.if_icmp .ge 14, 3) := by decide +kernel
theorem dX9_drops_120 : decode cX9_drops 120 = .ok (.aload_n 0, 1) := by decide +kernel
theorem dX9_drops_121 : decode cX9_drops 121 = .ok (.getstatic 156, 3) := by decide +kernel
theorem dX9_drops_124 : decode cX9_drops 124 = .ok (.iload_n 1, 1) := by decide +kernel
theorem dX9_drops_125 : decode cX9_drops 125 = .ok (.iaload, 1) := by decide +kernel
theorem dX9_drops_126 : decode cX9_drops 126 = .ok (.iload_n 2, 1) := by decide +kernel
theorem dX9_drops_127 : decode cX9_drops 127 = .ok (.iload_n 3, 1) := by decide +kernel
theorem dX9_drops_128 : decode cX9_drops 128 = .ok (.invokevirtual 153, 3) := by decide +kernel
theorem dX9_drops_131 : decode cX9_drops 131 = .ok (.return_, 1) := by decide +kernel
theorem dX9_said_0 : decode cX9_said 0 = .ok (.aload_n 0, 1) := by decide +kernel
theorem dX9_said_1 : decode cX9_said 1 = .ok (.getfield 9, 3) := by decide +kernel
theorem dX9_said_4 : decode cX9_said 4 = .ok (.iconst 3, 1) := by decide +kernel
theorem dX9_said_5 : decode cX9_said 5 = .ok (.iaload, 1) := by decide +kernel
theorem dX9_said_6 : decode cX9_said 6 = .ok (.istore 5, 2) := by decide +kernel
theorem dX9_said_8 : decode cX9_said 8 = .ok (.aload_n 0, 1) := by decide +kernel
theorem dX9_said_9 : decode cX9_said 9 = .ok (.iload_n 1, 1) := by decide +kernel
theorem dX9_said_10 : decode cX9_said 10 = .ok (.iload_n 2, 1) := by decide +kernel
theorem dX9_said_11 : decode cX9_said 11 = .ok (.invokevirtual 133, 3) := by decide +kernel
theorem dX9_said_14 : decode cX9_said 14 = .ok (.iload_n 3, 1) := by decide +kernel
theorem dX9_said_15 : decode cX9_said 15 = .ok (.if_icmp .ge 11, 3) := by decide +kernel
theorem dX9_said_18 : decode cX9_said 18 = .ok (.aload_n 0, 1) := by decide +kernel
theorem dX9_said_19 : decode cX9_said 19 = .ok (.iload_n 1, 1) := by decide +kernel
theorem dX9_said_20 : decode cX9_said 20 = .ok (.iload_n 2, 1) := by decide +kernel
theorem dX9_said_21 : decode cX9_said 21 = .ok (.iload 4, 2) := by decide +kernel
theorem dX9_said_23 : decode cX9_said 23 = .ok (.invokevirtual 153, 3) := by decide +kernel
theorem dX9_said_26 : decode cX9_said 26 = .ok (.aload_n 0, 1) := by decide +kernel
theorem dX9_said_27 : decode cX9_said 27 = .ok (.getfield 9, 3) := by decide +kernel
theorem dX9_said_30 : decode cX9_said 30 = .ok (.iconst 3, 1) := by decide +kernel
theorem dX9_said_31 : decode cX9_said 31 = .ok (.iaload, 1) := by decide +kernel
theorem dX9_said_32 : decode cX9_said 32 = .ok (.iload 5, 2) := by decide +kernel
theorem dX9_said_34 : decode cX9_said 34 = .ok (.isub, 1) := by decide +kernel
theorem dX9_said_35 : decode cX9_said 35 = .ok (.ireturn, 1) := by decide +kernel
theorem dX9_says_0 : decode cX9_says 0 = .ok (.aload_n 0, 1) := by decide +kernel
theorem dX9_says_1 : decode cX9_says 1 = .ok (.iload_n 1, 1) := by decide +kernel
theorem dX9_says_2 : decode cX9_says 2 = .ok (.invokevirtual 85, 3) := by decide +kernel
theorem dX9_says_5 : decode cX9_says 5 = .ok (.ifCond .eq 30, 3) := by decide +kernel
theorem dX9_says_8 : decode cX9_says 8 = .ok (.iload_n 2, 1) := by decide +kernel
theorem dX9_says_9 : decode cX9_says 9 = .ok (.invokestatic 118, 3) := by decide +kernel
theorem dX9_says_12 : decode cX9_says 12 = .ok (.ifCond .eq 23, 3) := by decide +kernel
theorem dX9_says_15 : decode cX9_says 15 = .ok (.iload_n 3, 1) := by decide +kernel
theorem dX9_says_16 : decode cX9_says 16 = .ok (.iconst 0, 1) := by decide +kernel
theorem dX9_says_17 : decode cX9_says 17 = .ok (.bipush 99, 2) := by decide +kernel
theorem dX9_says_19 : decode cX9_says 19 = .ok (.invokestatic 81, 3) := by decide +kernel
theorem dX9_says_22 : decode cX9_says 22 = .ok (.ifCond .eq 13, 3) := by decide +kernel
theorem dX9_says_25 : decode cX9_says 25 = .ok (.iload 4, 2) := by decide +kernel
theorem dX9_says_27 : decode cX9_says 27 = .ok (.iconst (-1), 1) := by decide +kernel
theorem dX9_says_28 : decode cX9_says 28 = .ok (.iconst 1, 1) := by decide +kernel
theorem dX9_says_29 : decode cX9_says 29 = .ok (.invokestatic 81, 3) := by decide +kernel
theorem dX9_says_32 : decode cX9_says 32 = .ok (.ifCond .ne 6, 3) := by decide +kernel
theorem dX9_says_35 : decode cX9_says 35 = .ok (.ldc 121, 2) := by decide +kernel
theorem dX9_says_37 : decode cX9_says 37 = .ok (.ireturn, 1) := by decide +kernel
theorem dX9_says_38 : decode cX9_says 38 = .ok (.aload_n 0, 1) := by decide +kernel
theorem dX9_says_39 : decode cX9_says 39 = .ok (.iload_n 1, 1) := by decide +kernel
theorem dX9_says_40 : decode cX9_says 40 = .ok (.invokevirtual 150, 3) := by decide +kernel
theorem dX9_says_43 : decode cX9_says 43 = .ok (.ifCond .eq 15, 3) := by decide +kernel
theorem dX9_says_46 : decode cX9_says 46 = .ok (.aload_n 0, 1) := by decide +kernel
theorem dX9_says_47 : decode cX9_says 47 = .ok (.iload_n 1, 1) := by decide +kernel
theorem dX9_says_48 : decode cX9_says 48 = .ok (.iload_n 2, 1) := by decide +kernel
theorem dX9_says_49 : decode cX9_says 49 = .ok (.iload_n 3, 1) := by decide +kernel
theorem dX9_says_50 : decode cX9_says 50 = .ok (.iload 4, 2) := by decide +kernel
theorem dX9_says_52 : decode cX9_says 52 = .ok (.invokevirtual 159, 3) := by decide +kernel
theorem dX9_says_55 : decode cX9_says 55 = .ok (.goto 5, 3) := by decide +kernel
theorem dX9_says_58 : decode cX9_says 58 = .ok (.ldc 162, 2) := by decide +kernel
theorem dX9_says_60 : decode cX9_says 60 = .ok (.ireturn, 1) := by decide +kernel
theorem dX9_setsUp_0 : decode cX9_setsUp 0 = .ok (.iconst 0, 1) := by decide +kernel
theorem dX9_setsUp_1 : decode cX9_setsUp 1 = .ok (.istore_n 1, 1) := by decide +kernel
theorem dX9_setsUp_2 : decode cX9_setsUp 2 = .ok (.iload_n 1, 1) := by decide +kernel
theorem dX9_setsUp_3 : decode cX9_setsUp 3 = .ok (.aload_n 0, 1) := by decide +kernel
theorem dX9_setsUp_4 : decode cX9_setsUp 4 = .ok (.getfield 9, 3) := by decide +kernel
theorem dX9_setsUp_7 : decode cX9_setsUp 7 = .ok (.iconst 1, 1) := by decide +kernel
theorem dX9_setsUp_8 : decode cX9_setsUp 8 = .ok (.iaload, 1) := by decide +kernel
theorem dX9_setsUp_9 : decode cX9_setsUp 9 = .ok (.if_icmp .ge 16, 3) := by decide +kernel
theorem dX9_setsUp_12 : decode cX9_setsUp 12 = .ok (.aload_n 0, 1) := by decide +kernel
theorem dX9_setsUp_13 : decode cX9_setsUp 13 = .ok (.iload_n 1, 1) := by decide +kernel
theorem dX9_setsUp_14 : decode cX9_setsUp 14 = .ok (.iconst 5, 1) := by decide +kernel
theorem dX9_setsUp_15 : decode cX9_setsUp 15 = .ok (.iconst 0, 1) := by decide +kernel
theorem dX9_setsUp_16 : decode cX9_setsUp 16 = .ok (.invokevirtual 114, 3) := by decide +kernel
theorem dX9_setsUp_19 : decode cX9_setsUp 19 = .ok (.iinc 1 1, 3) := by decide +kernel
theorem dX9_setsUp_22 : decode cX9_setsUp 22 = .ok (.goto (-20), 3) := by decide +kernel
theorem dX9_setsUp_25 : decode cX9_setsUp 25 = .ok (.aload_n 0, 1) := by decide +kernel
theorem dX9_setsUp_26 : decode cX9_setsUp 26 = .ok (.getfield 9, 3) := by decide +kernel
theorem dX9_setsUp_29 : decode cX9_setsUp 29 = .ok (.iconst 5, 1) := by decide +kernel
theorem dX9_setsUp_30 : decode cX9_setsUp 30 = .ok (.iconst 0, 1) := by decide +kernel
theorem dX9_setsUp_31 : decode cX9_setsUp 31 = .ok (.iastore, 1) := by decide +kernel
theorem dX9_setsUp_32 : decode cX9_setsUp 32 = .ok (.aload_n 0, 1) := by decide +kernel
theorem dX9_setsUp_33 : decode cX9_setsUp 33 = .ok (.getfield 9, 3) := by decide +kernel
theorem dX9_setsUp_36 : decode cX9_setsUp 36 = .ok (.iconst 4, 1) := by decide +kernel
theorem dX9_setsUp_37 : decode cX9_setsUp 37 = .ok (.dup2, 1) := by decide +kernel
theorem dX9_setsUp_38 : decode cX9_setsUp 38 = .ok (.iaload, 1) := by decide +kernel
theorem dX9_setsUp_39 : decode cX9_setsUp 39 = .ok (.iconst 1, 1) := by decide +kernel
theorem dX9_setsUp_40 : decode cX9_setsUp 40 = .ok (.iadd, 1) := by decide +kernel
theorem dX9_setsUp_41 : decode cX9_setsUp 41 = .ok (.iastore, 1) := by decide +kernel
theorem dX9_setsUp_42 : decode cX9_setsUp 42 = .ok (.return_, 1) := by decide +kernel
theorem dX9_sets_0 : decode cX9_sets 0 = .ok (.aload_n 0, 1) := by decide +kernel
theorem dX9_sets_1 : decode cX9_sets 1 = .ok (.getfield 9, 3) := by decide +kernel
theorem dX9_sets_4 : decode cX9_sets 4 = .ok (.iconst 1, 1) := by decide +kernel
theorem dX9_sets_5 : decode cX9_sets 5 = .ok (.iaload, 1) := by decide +kernel
theorem dX9_sets_6 : decode cX9_sets 6 = .ok (.aload_n 0, 1) := by decide +kernel
theorem dX9_sets_7 : decode cX9_sets 7 = .ok (.invokevirtual 97, 3) := by decide +kernel
theorem dX9_sets_10 : decode cX9_sets 10 = .ok (.invokestatic 101, 3) := by decide +kernel
theorem dX9_sets_13 : decode cX9_sets 13 = .ok (.isub, 1) := by decide +kernel
theorem dX9_sets_14 : decode cX9_sets 14 = .ok (.istore_n 1, 1) := by decide +kernel
theorem dX9_sets_15 : decode cX9_sets 15 = .ok (.aload_n 0, 1) := by decide +kernel
theorem dX9_sets_16 : decode cX9_sets 16 = .ok (.invokevirtual 163, 3) := by decide +kernel
theorem dX9_sets_19 : decode cX9_sets 19 = .ok (.iload_n 1, 1) := by decide +kernel
theorem dX9_sets_20 : decode cX9_sets 20 = .ok (.ireturn, 1) := by decide +kernel
theorem dX9_draw_0 : decode cX9_draw 0 = .ok (.aload_n 0, 1) := by decide +kernel
theorem dX9_draw_1 : decode cX9_draw 1 = .ok (.getfield 9, 3) := by decide +kernel
theorem dX9_draw_4 : decode cX9_draw 4 = .ok (.iconst 0, 1) := by decide +kernel
theorem dX9_draw_5 : decode cX9_draw 5 = .ok (.aload_n 0, 1) := by decide +kernel
theorem dX9_draw_6 : decode cX9_draw 6 = .ok (.getfield 9, 3) := by decide +kernel
theorem dX9_draw_9 : decode cX9_draw 9 = .ok (.iconst 0, 1) := by decide +kernel
theorem dX9_draw_10 : decode cX9_draw 10 = .ok (.iaload, 1) := by decide +kernel
theorem dX9_draw_11 : decode cX9_draw 11 = .ok (.ldc 166, 2) := by decide +kernel
theorem dX9_draw_13 : decode cX9_draw 13 = .ok (.imul, 1) := by decide +kernel
theorem dX9_draw_14 : decode cX9_draw 14 = .ok (.sipush 12345, 3) := by decide +kernel
theorem dX9_draw_17 : decode cX9_draw 17 = .ok (.iadd, 1) := by decide +kernel
theorem dX9_draw_18 : decode cX9_draw 18 = .ok (.iastore, 1) := by decide +kernel
theorem dX9_draw_19 : decode cX9_draw 19 = .ok (.aload_n 0, 1) := by decide +kernel
theorem dX9_draw_20 : decode cX9_draw 20 = .ok (.getfield 9, 3) := by decide +kernel
theorem dX9_draw_23 : decode cX9_draw 23 = .ok (.iconst 0, 1) := by decide +kernel
theorem dX9_draw_24 : decode cX9_draw 24 = .ok (.iaload, 1) := by decide +kernel
theorem dX9_draw_25 : decode cX9_draw 25 = .ok (.bipush 8, 2) := by decide +kernel
theorem dX9_draw_27 : decode cX9_draw 27 = .ok (.iushr, 1) := by decide +kernel
theorem dX9_draw_28 : decode cX9_draw 28 = .ok (.ireturn, 1) := by decide +kernel
theorem dX9_deal_0 : decode cX9_deal 0 = .ok (.iload_n 1, 1) := by decide +kernel
theorem dX9_deal_1 : decode cX9_deal 1 = .ok (.iconst 1, 1) := by decide +kernel
theorem dX9_deal_2 : decode cX9_deal 2 = .ok (.bipush 9, 2) := by decide +kernel
theorem dX9_deal_4 : decode cX9_deal 4 = .ok (.invokestatic 81, 3) := by decide +kernel
theorem dX9_deal_7 : decode cX9_deal 7 = .ok (.ifCond .ne 6, 3) := by decide +kernel
theorem dX9_deal_10 : decode cX9_deal 10 = .ok (.ldc 121, 2) := by decide +kernel
theorem dX9_deal_12 : decode cX9_deal 12 = .ok (.ireturn, 1) := by decide +kernel
theorem dX9_deal_13 : decode cX9_deal 13 = .ok (.iconst 0, 1) := by decide +kernel
theorem dX9_deal_14 : decode cX9_deal 14 = .ok (.istore_n 2, 1) := by decide +kernel
theorem dX9_deal_15 : decode cX9_deal 15 = .ok (.iload_n 2, 1) := by decide +kernel
theorem dX9_deal_16 : decode cX9_deal 16 = .ok (.iload_n 1, 1) := by decide +kernel
theorem dX9_deal_17 : decode cX9_deal 17 = .ok (.if_icmp .ge 64, 3) := by decide +kernel
theorem dX9_deal_20 : decode cX9_deal 20 = .ok (.aload_n 0, 1) := by decide +kernel
theorem dX9_deal_21 : decode cX9_deal 21 = .ok (.getfield 9, 3) := by decide +kernel
theorem dX9_deal_24 : decode cX9_deal 24 = .ok (.iconst 1, 1) := by decide +kernel
theorem dX9_deal_25 : decode cX9_deal 25 = .ok (.iaload, 1) := by decide +kernel
theorem dX9_deal_26 : decode cX9_deal 26 = .ok (.bipush 9, 2) := by decide +kernel
theorem dX9_deal_28 : decode cX9_deal 28 = .ok (.if_icmp .ge 53, 3) := by decide +kernel
theorem dX9_deal_31 : decode cX9_deal 31 = .ok (.aload_n 0, 1) := by decide +kernel
theorem dX9_deal_32 : decode cX9_deal 32 = .ok (.invokevirtual 167, 3) := by decide +kernel
theorem dX9_deal_35 : decode cX9_deal 35 = .ok (.bipush 6, 2) := by decide +kernel
theorem dX9_deal_37 : decode cX9_deal 37 = .ok (.irem, 1) := by decide +kernel
theorem dX9_deal_38 : decode cX9_deal 38 = .ok (.istore_n 3, 1) := by decide +kernel
theorem dX9_deal_39 : decode cX9_deal 39 = .ok (.aload_n 0, 1) := by decide +kernel
theorem dX9_deal_40 : decode cX9_deal 40 = .ok (.invokevirtual 167, 3) := by decide +kernel
theorem dX9_deal_43 : decode cX9_deal 43 = .ok (.bipush 100, 2) := by decide +kernel
theorem dX9_deal_45 : decode cX9_deal 45 = .ok (.irem, 1) := by decide +kernel
theorem dX9_deal_46 : decode cX9_deal 46 = .ok (.istore 4, 2) := by decide +kernel
theorem dX9_deal_48 : decode cX9_deal 48 = .ok (.aload_n 0, 1) := by decide +kernel
theorem dX9_deal_49 : decode cX9_deal 49 = .ok (.invokevirtual 167, 3) := by decide +kernel
theorem dX9_deal_52 : decode cX9_deal 52 = .ok (.bipush 100, 2) := by decide +kernel
theorem dX9_deal_54 : decode cX9_deal 54 = .ok (.irem, 1) := by decide +kernel
theorem dX9_deal_55 : decode cX9_deal 55 = .ok (.istore 5, 2) := by decide +kernel
theorem dX9_deal_57 : decode cX9_deal 57 = .ok (.aload_n 0, 1) := by decide +kernel
theorem dX9_deal_58 : decode cX9_deal 58 = .ok (.iload_n 3, 1) := by decide +kernel
theorem dX9_deal_59 : decode cX9_deal 59 = .ok (.iload 4, 2) := by decide +kernel
theorem dX9_deal_61 : decode cX9_deal 61 = .ok (.iload 5, 2) := by decide +kernel
theorem dX9_deal_63 : decode cX9_deal 63 = .ok (.aload_n 0, 1) := by decide +kernel
theorem dX9_deal_64 : decode cX9_deal 64 = .ok (.invokevirtual 167, 3) := by decide +kernel
theorem dX9_deal_67 : decode cX9_deal 67 = .ok (.bipush 8, 2) := by decide +kernel
theorem dX9_deal_69 : decode cX9_deal 69 = .ok (.irem, 1) := by decide +kernel
theorem dX9_deal_70 : decode cX9_deal 70 = .ok (.invokevirtual 123, 3) := by decide +kernel
theorem dX9_deal_73 : decode cX9_deal 73 = .ok (.istore 6, 2) := by decide +kernel
theorem dX9_deal_75 : decode cX9_deal 75 = .ok (.iinc 2 1, 3) := by decide +kernel
theorem dX9_deal_78 : decode cX9_deal 78 = .ok (.goto (-63), 3) := by decide +kernel
theorem dX9_deal_81 : decode cX9_deal 81 = .ok (.iload_n 2, 1) := by decide +kernel
theorem dX9_deal_82 : decode cX9_deal 82 = .ok (.ireturn, 1) := by decide +kernel
theorem dX9_seed_0 : decode cX9_seed 0 = .ok (.aload_n 0, 1) := by decide +kernel
theorem dX9_seed_1 : decode cX9_seed 1 = .ok (.iconst 0, 1) := by decide +kernel
theorem dX9_seed_2 : decode cX9_seed 2 = .ok (.iload_n 1, 1) := by decide +kernel
theorem dX9_seed_3 : decode cX9_seed 3 = .ok (.invokevirtual 141, 3) := by decide +kernel
theorem dX9_seed_6 : decode cX9_seed 6 = .ok (.ireturn, 1) := by decide +kernel
theorem dX9_aGo_0 : decode cX9_aGo 0 = .ok (.aload_n 0, 1) := by decide +kernel
theorem dX9_aGo_1 : decode cX9_aGo 1 = .ok (.getfield 9, 3) := by decide +kernel
theorem dX9_aGo_4 : decode cX9_aGo 4 = .ok (.iconst 5, 1) := by decide +kernel
theorem dX9_aGo_5 : decode cX9_aGo 5 = .ok (.iaload, 1) := by decide +kernel
theorem dX9_aGo_6 : decode cX9_aGo 6 = .ok (.iconst 3, 1) := by decide +kernel
theorem dX9_aGo_7 : decode cX9_aGo 7 = .ok (.if_icmp .eq 10, 3) := by decide +kernel
theorem dX9_aGo_10 : decode cX9_aGo 10 = .ok (.aload_n 0, 1) := by decide +kernel
theorem dX9_aGo_11 : decode cX9_aGo 11 = .ok (.invokevirtual 97, 3) := by decide +kernel
theorem dX9_aGo_14 : decode cX9_aGo 14 = .ok (.ifCond .ne 7, 3) := by decide +kernel
theorem dX9_aGo_17 : decode cX9_aGo 17 = .ok (.aload_n 0, 1) := by decide +kernel
theorem dX9_aGo_18 : decode cX9_aGo 18 = .ok (.invokevirtual 163, 3) := by decide +kernel
theorem dX9_aGo_21 : decode cX9_aGo 21 = .ok (.aload_n 0, 1) := by decide +kernel
theorem dX9_aGo_22 : decode cX9_aGo 22 = .ok (.invokevirtual 167, 3) := by decide +kernel
theorem dX9_aGo_25 : decode cX9_aGo 25 = .ok (.bipush 8, 2) := by decide +kernel
theorem dX9_aGo_27 : decode cX9_aGo 27 = .ok (.irem, 1) := by decide +kernel
theorem dX9_aGo_28 : decode cX9_aGo 28 = .ok (.istore_n 1, 1) := by decide +kernel
theorem dX9_aGo_29 : decode cX9_aGo 29 = .ok (.aload_n 0, 1) := by decide +kernel
theorem dX9_aGo_30 : decode cX9_aGo 30 = .ok (.invokevirtual 167, 3) := by decide +kernel
theorem dX9_aGo_33 : decode cX9_aGo 33 = .ok (.bipush 100, 2) := by decide +kernel
theorem dX9_aGo_35 : decode cX9_aGo 35 = .ok (.irem, 1) := by decide +kernel
theorem dX9_aGo_36 : decode cX9_aGo 36 = .ok (.istore_n 2, 1) := by decide +kernel
theorem dX9_aGo_37 : decode cX9_aGo 37 = .ok (.aload_n 0, 1) := by decide +kernel
theorem dX9_aGo_38 : decode cX9_aGo 38 = .ok (.invokevirtual 167, 3) := by decide +kernel
theorem dX9_aGo_41 : decode cX9_aGo 41 = .ok (.iconst 3, 1) := by decide +kernel
theorem dX9_aGo_42 : decode cX9_aGo 42 = .ok (.irem, 1) := by decide +kernel
theorem dX9_aGo_43 : decode cX9_aGo 43 = .ok (.iconst 1, 1) := by decide +kernel
theorem dX9_aGo_44 : decode cX9_aGo 44 = .ok (.isub, 1) := by decide +kernel
theorem dX9_aGo_45 : decode cX9_aGo 45 = .ok (.istore_n 3, 1) := by decide +kernel
theorem dX9_aGo_46 : decode cX9_aGo 46 = .ok (.aload_n 0, 1) := by decide +kernel
theorem dX9_aGo_47 : decode cX9_aGo 47 = .ok (.invokevirtual 167, 3) := by decide +kernel
theorem dX9_aGo_50 : decode cX9_aGo 50 = .ok (.istore 4, 2) := by decide +kernel
theorem dX9_aGo_52 : decode cX9_aGo 52 = .ok (.aload_n 0, 1) := by decide +kernel
theorem dX9_aGo_53 : decode cX9_aGo 53 = .ok (.getfield 9, 3) := by decide +kernel
theorem dX9_aGo_56 : decode cX9_aGo 56 = .ok (.iconst 1, 1) := by decide +kernel
theorem dX9_aGo_57 : decode cX9_aGo 57 = .ok (.iaload, 1) := by decide +kernel
theorem dX9_aGo_58 : decode cX9_aGo 58 = .ok (.ifCond .le 50, 3) := by decide +kernel
theorem dX9_aGo_61 : decode cX9_aGo 61 = .ok (.iload 4, 2) := by decide +kernel
theorem dX9_aGo_63 : decode cX9_aGo 63 = .ok (.aload_n 0, 1) := by decide +kernel
theorem dX9_aGo_64 : decode cX9_aGo 64 = .ok (.getfield 9, 3) := by decide +kernel
theorem dX9_aGo_67 : decode cX9_aGo 67 = .ok (.iconst 1, 1) := by decide +kernel
theorem dX9_aGo_68 : decode cX9_aGo 68 = .ok (.iaload, 1) := by decide +kernel
theorem dX9_aGo_69 : decode cX9_aGo 69 = .ok (.irem, 1) := by decide +kernel
theorem dX9_aGo_70 : decode cX9_aGo 70 = .ok (.istore 5, 2) := by decide +kernel
theorem dX9_aGo_72 : decode cX9_aGo 72 = .ok (.aload_n 0, 1) := by decide +kernel
theorem dX9_aGo_73 : decode cX9_aGo 73 = .ok (.iload 5, 2) := by decide +kernel
theorem dX9_aGo_75 : decode cX9_aGo 75 = .ok (.invokevirtual 150, 3) := by decide +kernel
theorem dX9_aGo_78 : decode cX9_aGo 78 = .ok (.ifCond .ne 19, 3) := by decide +kernel
theorem dX9_aGo_81 : decode cX9_aGo 81 = .ok (.iload 5, 2) := by decide +kernel
theorem dX9_aGo_83 : decode cX9_aGo 83 = .ok (.iconst 1, 1) := by decide +kernel
theorem dX9_aGo_84 : decode cX9_aGo 84 = .ok (.iadd, 1) := by decide +kernel
theorem dX9_aGo_85 : decode cX9_aGo 85 = .ok (.aload_n 0, 1) := by decide +kernel
theorem dX9_aGo_86 : decode cX9_aGo 86 = .ok (.getfield 9, 3) := by decide +kernel
theorem dX9_aGo_89 : decode cX9_aGo 89 = .ok (.iconst 1, 1) := by decide +kernel
theorem dX9_aGo_90 : decode cX9_aGo 90 = .ok (.iaload, 1) := by decide +kernel
theorem dX9_aGo_91 : decode cX9_aGo 91 = .ok (.irem, 1) := by decide +kernel
theorem dX9_aGo_92 : decode cX9_aGo 92 = .ok (.istore 5, 2) := by decide +kernel
theorem dX9_aGo_94 : decode cX9_aGo 94 = .ok (.goto (-22), 3) := by decide +kernel
theorem dX9_aGo_97 : decode cX9_aGo 97 = .ok (.aload_n 0, 1) := by decide +kernel
theorem dX9_aGo_98 : decode cX9_aGo 98 = .ok (.iload 5, 2) := by decide +kernel
theorem dX9_aGo_100 : decode cX9_aGo 100 = .ok (.iload_n 1, 1) := by decide +kernel
theorem dX9_aGo_101 : decode cX9_aGo 101 = .ok (.iload_n 2, 1) := by decide +kernel
theorem dX9_aGo_102 : decode cX9_aGo 102 = .ok (.iload_n 3, 1) := by decide +kernel
theorem dX9_aGo_103 : decode cX9_aGo 103 = .ok (.invokevirtual 159, 3) := by decide +kernel
theorem dX9_aGo_106 : decode cX9_aGo 106 = .ok (.istore 6, 2) := by decide +kernel
theorem dX9_aGo_108 : decode cX9_aGo 108 = .ok (.iconst 0, 1) := by decide +kernel
theorem dX9_aGo_109 : decode cX9_aGo 109 = .ok (.istore 5, 2) := by decide +kernel
theorem dX9_aGo_111 : decode cX9_aGo 111 = .ok (.iload 5, 2) := by decide +kernel
theorem dX9_aGo_113 : decode cX9_aGo 113 = .ok (.aload_n 0, 1) := by decide +kernel
theorem dX9_aGo_114 : decode cX9_aGo 114 = .ok (.getfield 9, 3) := by decide +kernel
theorem dX9_aGo_117 : decode cX9_aGo 117 = .ok (.iconst 1, 1) := by decide +kernel
theorem dX9_aGo_118 : decode cX9_aGo 118 = .ok (.iaload, 1) := by decide +kernel
theorem dX9_aGo_119 : decode cX9_aGo 119 = .ok (.if_icmp .ge 45, 3) := by decide +kernel
theorem dX9_aGo_122 : decode cX9_aGo 122 = .ok (.aload_n 0, 1) := by decide +kernel
theorem dX9_aGo_123 : decode cX9_aGo 123 = .ok (.iload 5, 2) := by decide +kernel
theorem dX9_aGo_125 : decode cX9_aGo 125 = .ok (.iconst 1, 1) := by decide +kernel
theorem dX9_aGo_126 : decode cX9_aGo 126 = .ok (.aload_n 0, 1) := by decide +kernel
theorem dX9_aGo_127 : decode cX9_aGo 127 = .ok (.iload 5, 2) := by decide +kernel
theorem dX9_aGo_129 : decode cX9_aGo 129 = .ok (.iconst 1, 1) := by decide +kernel
theorem dX9_aGo_130 : decode cX9_aGo 130 = .ok (.invokevirtual 89, 3) := by decide +kernel
theorem dX9_aGo_133 : decode cX9_aGo 133 = .ok (.aload_n 0, 1) := by decide +kernel
theorem dX9_aGo_134 : decode cX9_aGo 134 = .ok (.iload 5, 2) := by decide +kernel
theorem dX9_aGo_136 : decode cX9_aGo 136 = .ok (.iconst 5, 1) := by decide +kernel
theorem dX9_aGo_137 : decode cX9_aGo 137 = .ok (.invokevirtual 89, 3) := by decide +kernel
theorem dX9_aGo_140 : decode cX9_aGo 140 = .ok (.ifCond .ne 7, 3) := by decide +kernel
theorem dX9_aGo_143 : decode cX9_aGo 143 = .ok (.iconst 1, 1) := by decide +kernel
theorem dX9_aGo_144 : decode cX9_aGo 144 = .ok (.goto 4, 3) := by decide +kernel
theorem dX9_aGo_147 : decode cX9_aGo 147 = .ok (.iconst (-1), 1) := by decide +kernel
theorem dX9_aGo_148 : decode cX9_aGo 148 = .ok (.iadd, 1) := by decide +kernel
theorem dX9_aGo_149 : decode cX9_aGo 149 = .ok (.iconst 0, 1) := by decide +kernel
theorem dX9_aGo_150 : decode cX9_aGo 150 = .ok (.bipush 99, 2) := by decide +kernel
theorem dX9_aGo_152 : decode cX9_aGo 152 = .ok (.invokestatic 107, 3) := by decide +kernel
theorem dX9_aGo_155 : decode cX9_aGo 155 = .ok (.invokevirtual 114, 3) := by decide +kernel
theorem dX9_aGo_158 : decode cX9_aGo 158 = .ok (.iinc 5 1, 3) := by decide +kernel
theorem dX9_aGo_161 : decode cX9_aGo 161 = .ok (.goto (-50), 3) := by decide +kernel
theorem dX9_aGo_164 : decode cX9_aGo 164 = .ok (.aload_n 0, 1) := by decide +kernel
theorem dX9_aGo_165 : decode cX9_aGo 165 = .ok (.getfield 9, 3) := by decide +kernel
theorem dX9_aGo_168 : decode cX9_aGo 168 = .ok (.iconst 5, 1) := by decide +kernel
theorem dX9_aGo_169 : decode cX9_aGo 169 = .ok (.dup2, 1) := by decide +kernel
theorem dX9_aGo_170 : decode cX9_aGo 170 = .ok (.iaload, 1) := by decide +kernel
theorem dX9_aGo_171 : decode cX9_aGo 171 = .ok (.iconst 1, 1) := by decide +kernel
theorem dX9_aGo_172 : decode cX9_aGo 172 = .ok (.iadd, 1) := by decide +kernel
theorem dX9_aGo_173 : decode cX9_aGo 173 = .ok (.iastore, 1) := by decide +kernel
theorem dX9_aGo_174 : decode cX9_aGo 174 = .ok (.aload_n 0, 1) := by decide +kernel
theorem dX9_aGo_175 : decode cX9_aGo 175 = .ok (.getfield 9, 3) := by decide +kernel
theorem dX9_aGo_178 : decode cX9_aGo 178 = .ok (.iconst 2, 1) := by decide +kernel
theorem dX9_aGo_179 : decode cX9_aGo 179 = .ok (.dup2, 1) := by decide +kernel
theorem dX9_aGo_180 : decode cX9_aGo 180 = .ok (.iaload, 1) := by decide +kernel
theorem dX9_aGo_181 : decode cX9_aGo 181 = .ok (.iconst 1, 1) := by decide +kernel
theorem dX9_aGo_182 : decode cX9_aGo 182 = .ok (.iadd, 1) := by decide +kernel
theorem dX9_aGo_183 : decode cX9_aGo 183 = .ok (.iastore, 1) := by decide +kernel
theorem dX9_aGo_184 : decode cX9_aGo 184 = .ok (.return_, 1) := by decide +kernel
theorem dX9_goesOn_0 : decode cX9_goesOn 0 = .ok (.iconst 0, 1) := by decide +kernel
theorem dX9_goesOn_1 : decode cX9_goesOn 1 = .ok (.istore_n 2, 1) := by decide +kernel
theorem dX9_goesOn_2 : decode cX9_goesOn 2 = .ok (.iload_n 2, 1) := by decide +kernel
theorem dX9_goesOn_3 : decode cX9_goesOn 3 = .ok (.iload_n 1, 1) := by decide +kernel
theorem dX9_goesOn_4 : decode cX9_goesOn 4 = .ok (.if_icmp .ge 13, 3) := by decide +kernel
theorem dX9_goesOn_7 : decode cX9_goesOn 7 = .ok (.aload_n 0, 1) := by decide +kernel
theorem dX9_goesOn_8 : decode cX9_goesOn 8 = .ok (.invokevirtual 170, 3) := by decide +kernel
theorem dX9_goesOn_11 : decode cX9_goesOn 11 = .ok (.iinc 2 1, 3) := by decide +kernel
theorem dX9_goesOn_14 : decode cX9_goesOn 14 = .ok (.goto (-12), 3) := by decide +kernel
theorem dX9_goesOn_17 : decode cX9_goesOn 17 = .ok (.return_, 1) := by decide +kernel
theorem dX9_goes_0 : decode cX9_goes 0 = .ok (.iload_n 1, 1) := by decide +kernel
theorem dX9_goes_1 : decode cX9_goes 1 = .ok (.iconst 1, 1) := by decide +kernel
theorem dX9_goes_2 : decode cX9_goes 2 = .ok (.bipush 100, 2) := by decide +kernel
theorem dX9_goes_4 : decode cX9_goes 4 = .ok (.invokestatic 81, 3) := by decide +kernel
theorem dX9_goes_7 : decode cX9_goes 7 = .ok (.ifCond .ne 6, 3) := by decide +kernel
theorem dX9_goes_10 : decode cX9_goes 10 = .ok (.ldc 121, 2) := by decide +kernel
theorem dX9_goes_12 : decode cX9_goes 12 = .ok (.ireturn, 1) := by decide +kernel
theorem dX9_goes_13 : decode cX9_goes 13 = .ok (.aload_n 0, 1) := by decide +kernel
theorem dX9_goes_14 : decode cX9_goes 14 = .ok (.getfield 9, 3) := by decide +kernel
theorem dX9_goes_17 : decode cX9_goes 17 = .ok (.iconst 3, 1) := by decide +kernel
theorem dX9_goes_18 : decode cX9_goes 18 = .ok (.iaload, 1) := by decide +kernel
theorem dX9_goes_19 : decode cX9_goes 19 = .ok (.istore_n 2, 1) := by decide +kernel
theorem dX9_goes_20 : decode cX9_goes 20 = .ok (.aload_n 0, 1) := by decide +kernel
theorem dX9_goes_21 : decode cX9_goes 21 = .ok (.sipush 9999, 3) := by decide +kernel
theorem dX9_goes_24 : decode cX9_goes 24 = .ok (.aload_n 0, 1) := by decide +kernel
theorem dX9_goes_25 : decode cX9_goes 25 = .ok (.getfield 9, 3) := by decide +kernel
theorem dX9_goes_28 : decode cX9_goes 28 = .ok (.iconst 2, 1) := by decide +kernel
theorem dX9_goes_29 : decode cX9_goes 29 = .ok (.iaload, 1) := by decide +kernel
theorem dX9_goes_30 : decode cX9_goes 30 = .ok (.isub, 1) := by decide +kernel
theorem dX9_goes_31 : decode cX9_goes 31 = .ok (.iconst 0, 1) := by decide +kernel
theorem dX9_goes_32 : decode cX9_goes 32 = .ok (.iload_n 1, 1) := by decide +kernel
theorem dX9_goes_33 : decode cX9_goes 33 = .ok (.invokestatic 107, 3) := by decide +kernel
theorem dX9_goes_36 : decode cX9_goes 36 = .ok (.invokevirtual 173, 3) := by decide +kernel
theorem dX9_goes_39 : decode cX9_goes 39 = .ok (.aload_n 0, 1) := by decide +kernel
theorem dX9_goes_40 : decode cX9_goes 40 = .ok (.getfield 9, 3) := by decide +kernel
theorem dX9_goes_43 : decode cX9_goes 43 = .ok (.iconst 3, 1) := by decide +kernel
theorem dX9_goes_44 : decode cX9_goes 44 = .ok (.iaload, 1) := by decide +kernel
theorem dX9_goes_45 : decode cX9_goes 45 = .ok (.iload_n 2, 1) := by decide +kernel
theorem dX9_goes_46 : decode cX9_goes 46 = .ok (.isub, 1) := by decide +kernel
theorem dX9_goes_47 : decode cX9_goes 47 = .ok (.ireturn, 1) := by decide +kernel
theorem dX9_nerves_0 : decode cX9_nerves 0 = .ok (.iconst 0, 1) := by decide +kernel
theorem dX9_nerves_1 : decode cX9_nerves 1 = .ok (.istore_n 1, 1) := by decide +kernel
theorem dX9_nerves_2 : decode cX9_nerves 2 = .ok (.iconst 0, 1) := by decide +kernel
theorem dX9_nerves_3 : decode cX9_nerves 3 = .ok (.istore_n 2, 1) := by decide +kernel
theorem dX9_nerves_4 : decode cX9_nerves 4 = .ok (.iload_n 2, 1) := by decide +kernel
theorem dX9_nerves_5 : decode cX9_nerves 5 = .ok (.aload_n 0, 1) := by decide +kernel
theorem dX9_nerves_6 : decode cX9_nerves 6 = .ok (.getfield 9, 3) := by decide +kernel
theorem dX9_nerves_9 : decode cX9_nerves 9 = .ok (.iconst 1, 1) := by decide +kernel
theorem dX9_nerves_10 : decode cX9_nerves 10 = .ok (.iaload, 1) := by decide +kernel
theorem dX9_nerves_11 : decode cX9_nerves 11 = .ok (.if_icmp .ge 18, 3) := by decide +kernel
theorem dX9_nerves_14 : decode cX9_nerves 14 = .ok (.iload_n 1, 1) := by decide +kernel
theorem dX9_nerves_15 : decode cX9_nerves 15 = .ok (.aload_n 0, 1) := by decide +kernel
theorem dX9_nerves_16 : decode cX9_nerves 16 = .ok (.iload_n 2, 1) := by decide +kernel
theorem dX9_nerves_17 : decode cX9_nerves 17 = .ok (.iconst 1, 1) := by decide +kernel
theorem dX9_nerves_18 : decode cX9_nerves 18 = .ok (.invokevirtual 89, 3) := by decide +kernel
theorem dX9_nerves_21 : decode cX9_nerves 21 = .ok (.iadd, 1) := by decide +kernel
theorem dX9_nerves_22 : decode cX9_nerves 22 = .ok (.istore_n 1, 1) := by decide +kernel
theorem dX9_nerves_23 : decode cX9_nerves 23 = .ok (.iinc 2 1, 3) := by decide +kernel
theorem dX9_nerves_26 : decode cX9_nerves 26 = .ok (.goto (-22), 3) := by decide +kernel
theorem dX9_nerves_29 : decode cX9_nerves 29 = .ok (.iload_n 1, 1) := by decide +kernel
theorem dX9_nerves_30 : decode cX9_nerves 30 = .ok (.ireturn, 1) := by decide +kernel
theorem dX9_mostFelled_0 : decode cX9_mostFelled 0 = .ok (.iconst (-1), 1) := by decide +kernel
theorem dX9_mostFelled_1 : decode cX9_mostFelled 1 = .ok (.istore_n 1, 1) := by decide +kernel
theorem dX9_mostFelled_2 : decode cX9_mostFelled 2 = .ok (.iconst 0, 1) := by decide +kernel
theorem dX9_mostFelled_3 : decode cX9_mostFelled 3 = .ok (.istore_n 2, 1) := by decide +kernel
theorem dX9_mostFelled_4 : decode cX9_mostFelled 4 = .ok (.iload_n 2, 1) := by decide +kernel
theorem dX9_mostFelled_5 : decode cX9_mostFelled 5 = .ok (.aload_n 0, 1) := by decide +kernel
theorem dX9_mostFelled_6 : decode cX9_mostFelled 6 = .ok (.getfield 9, 3) := by decide +kernel
theorem dX9_mostFelled_9 : decode cX9_mostFelled 9 = .ok (.iconst 1, 1) := by decide +kernel
theorem dX9_mostFelled_10 : decode cX9_mostFelled 10 = .ok (.iaload, 1) := by decide +kernel
theorem dX9_mostFelled_11 : decode cX9_mostFelled 11 = .ok (.if_icmp .ge 34, 3) := by decide +kernel
theorem dX9_mostFelled_14 : decode cX9_mostFelled 14 = .ok (.iload_n 1, 1) := by decide +kernel
theorem dX9_mostFelled_15 : decode cX9_mostFelled 15 = .ok (.ifCond .lt 18, 3) := by decide +kernel
theorem dX9_mostFelled_18 : decode cX9_mostFelled 18 = .ok (.aload_n 0, 1) := by decide +kernel
theorem dX9_mostFelled_19 : decode cX9_mostFelled 19 = .ok (.iload_n 2, 1) := by decide +kernel
theorem dX9_mostFelled_20 : decode cX9_mostFelled 20 = .ok (.iconst 4, 1) := by decide +kernel
theorem dX9_mostFelled_21 : decode cX9_mostFelled 21 = .ok (.invokevirtual 89, 3) := by decide +kernel
theorem dX9_mostFelled_24 : decode cX9_mostFelled 24 = .ok (.aload_n 0, 1) := by decide +kernel
theorem dX9_mostFelled_25 : decode cX9_mostFelled 25 = .ok (.iload_n 1, 1) := by decide +kernel
theorem dX9_mostFelled_26 : decode cX9_mostFelled 26 = .ok (.iconst 4, 1) := by decide +kernel
theorem dX9_mostFelled_27 : decode cX9_mostFelled 27 = .ok (.invokevirtual 89, 3) := by decide +kernel
theorem dX9_mostFelled_30 : decode cX9_mostFelled 30 = .ok (.if_icmp .le 7, 3) := by decide +kernel
theorem dX9_mostFelled_33 : decode cX9_mostFelled 33 = .ok (.iload_n 2, 1) := by decide +kernel
theorem dX9_mostFelled_34 : decode cX9_mostFelled 34 = .ok (.goto 4, 3) := by decide +kernel
theorem dX9_mostFelled_37 : decode cX9_mostFelled 37 = .ok (.iload_n 1, 1) := by decide +kernel
theorem dX9_mostFelled_38 : decode cX9_mostFelled 38 = .ok (.istore_n 1, 1) := by decide +kernel
theorem dX9_mostFelled_39 : decode cX9_mostFelled 39 = .ok (.iinc 2 1, 3) := by decide +kernel
theorem dX9_mostFelled_42 : decode cX9_mostFelled 42 = .ok (.goto (-38), 3) := by decide +kernel
theorem dX9_mostFelled_45 : decode cX9_mostFelled 45 = .ok (.iload_n 1, 1) := by decide +kernel
theorem dX9_mostFelled_46 : decode cX9_mostFelled 46 = .ok (.ireturn, 1) := by decide +kernel
theorem dX9_alley_0 : decode cX9_alley 0 = .ok (.iload_n 1, 1) := by decide +kernel
theorem dX9_alley_1 : decode cX9_alley 1 = .ok (.tableswitch 77 0 5 #[39, 39, 39, 48, 53, 58], 39) := by decide +kernel
theorem dX9_alley_40 : decode cX9_alley 40 = .ok (.aload_n 0, 1) := by decide +kernel
theorem dX9_alley_41 : decode cX9_alley 41 = .ok (.getfield 9, 3) := by decide +kernel
theorem dX9_alley_44 : decode cX9_alley 44 = .ok (.iconst 3, 1) := by decide +kernel
theorem dX9_alley_45 : decode cX9_alley 45 = .ok (.iload_n 1, 1) := by decide +kernel
theorem dX9_alley_46 : decode cX9_alley 46 = .ok (.iadd, 1) := by decide +kernel
theorem dX9_alley_47 : decode cX9_alley 47 = .ok (.iaload, 1) := by decide +kernel
theorem dX9_alley_48 : decode cX9_alley 48 = .ok (.ireturn, 1) := by decide +kernel
theorem dX9_alley_49 : decode cX9_alley 49 = .ok (.aload_n 0, 1) := by decide +kernel
theorem dX9_alley_50 : decode cX9_alley 50 = .ok (.invokevirtual 97, 3) := by decide +kernel
theorem dX9_alley_53 : decode cX9_alley 53 = .ok (.ireturn, 1) := by decide +kernel
theorem dX9_alley_54 : decode cX9_alley 54 = .ok (.aload_n 0, 1) := by decide +kernel
theorem dX9_alley_55 : decode cX9_alley 55 = .ok (.invokevirtual 177, 3) := by decide +kernel
theorem dX9_alley_58 : decode cX9_alley 58 = .ok (.ireturn, 1) := by decide +kernel
theorem dX9_alley_59 : decode cX9_alley 59 = .ok (.aload_n 0, 1) := by decide +kernel
theorem dX9_alley_60 : decode cX9_alley 60 = .ok (.getfield 9, 3) := by decide +kernel
theorem dX9_alley_63 : decode cX9_alley 63 = .ok (.iconst 1, 1) := by decide +kernel
theorem dX9_alley_64 : decode cX9_alley 64 = .ok (.iaload, 1) := by decide +kernel
theorem dX9_alley_65 : decode cX9_alley 65 = .ok (.ifCond .ne 8, 3) := by decide +kernel
theorem dX9_alley_68 : decode cX9_alley 68 = .ok (.ldc 180, 2) := by decide +kernel
theorem dX9_alley_70 : decode cX9_alley 70 = .ok (.goto 7, 3) := by decide +kernel
theorem dX9_alley_73 : decode cX9_alley 73 = .ok (.aload_n 0, 1) := by decide +kernel
theorem dX9_alley_74 : decode cX9_alley 74 = .ok (.invokevirtual 181, 3) := by decide +kernel
theorem dX9_alley_77 : decode cX9_alley 77 = .ok (.ireturn, 1) := by decide +kernel
theorem dX9_alley_78 : decode cX9_alley 78 = .ok (.ldc 121, 2) := by decide +kernel
theorem dX9_alley_80 : decode cX9_alley 80 = .ok (.ireturn, 1) := by decide +kernel
theorem dX9_thinks_0 : decode cX9_thinks 0 = .ok (.aload_n 0, 1) := by decide +kernel
theorem dX9_thinks_1 : decode cX9_thinks 1 = .ok (.getfield 9, 3) := by decide +kernel
theorem dX9_thinks_4 : decode cX9_thinks 4 = .ok (.aload_n 0, 1) := by decide +kernel
theorem dX9_thinks_5 : decode cX9_thinks 5 = .ok (.getfield 16, 3) := by decide +kernel
theorem dX9_thinks_8 : decode cX9_thinks 8 = .ok (.invokestatic 184, 3) := by decide +kernel
theorem dX9_thinks_11 : decode cX9_thinks 11 = .ok (.return_, 1) := by decide +kernel
theorem dX9_putsBack_0 : decode cX9_putsBack 0 = .ok (.aload_n 0, 1) := by decide +kernel
theorem dX9_putsBack_1 : decode cX9_putsBack 1 = .ok (.getfield 16, 3) := by decide +kernel
theorem dX9_putsBack_4 : decode cX9_putsBack 4 = .ok (.aload_n 0, 1) := by decide +kernel
theorem dX9_putsBack_5 : decode cX9_putsBack 5 = .ok (.getfield 9, 3) := by decide +kernel
theorem dX9_putsBack_8 : decode cX9_putsBack 8 = .ok (.invokestatic 184, 3) := by decide +kernel
theorem dX9_putsBack_11 : decode cX9_putsBack 11 = .ok (.return_, 1) := by decide +kernel
theorem dX9_letsStand_0 : decode cX9_letsStand 0 = .ok (.iconst 0, 1) := by decide +kernel
theorem dX9_letsStand_1 : decode cX9_letsStand 1 = .ok (.istore_n 2, 1) := by decide +kernel
theorem dX9_letsStand_2 : decode cX9_letsStand 2 = .ok (.iload_n 2, 1) := by decide +kernel
theorem dX9_letsStand_3 : decode cX9_letsStand 3 = .ok (.aload_n 0, 1) := by decide +kernel
theorem dX9_letsStand_4 : decode cX9_letsStand 4 = .ok (.getfield 9, 3) := by decide +kernel
theorem dX9_letsStand_7 : decode cX9_letsStand 7 = .ok (.iconst 1, 1) := by decide +kernel
theorem dX9_letsStand_8 : decode cX9_letsStand 8 = .ok (.iaload, 1) := by decide +kernel
theorem dX9_letsStand_9 : decode cX9_letsStand 9 = .ok (.if_icmp .ge 73, 3) := by decide +kernel
theorem dX9_letsStand_12 : decode cX9_letsStand 12 = .ok (.iload_n 1, 1) := by decide +kernel
theorem dX9_letsStand_13 : decode cX9_letsStand 13 = .ok (.iload_n 2, 1) := by decide +kernel
theorem dX9_letsStand_14 : decode cX9_letsStand 14 = .ok (.ishr, 1) := by decide +kernel
theorem dX9_letsStand_15 : decode cX9_letsStand 15 = .ok (.iconst 1, 1) := by decide +kernel
theorem dX9_letsStand_16 : decode cX9_letsStand 16 = .ok (.iand, 1) := by decide +kernel
theorem dX9_letsStand_17 : decode cX9_letsStand 17 = .ok (.iconst 1, 1) := by decide +kernel
theorem dX9_letsStand_18 : decode cX9_letsStand 18 = .ok (.ixor, 1) := by decide +kernel
theorem dX9_letsStand_19 : decode cX9_letsStand 19 = .ok (.istore_n 3, 1) := by decide +kernel
theorem dX9_letsStand_20 : decode cX9_letsStand 20 = .ok (.bipush 7, 2) := by decide +kernel
theorem dX9_letsStand_22 : decode cX9_letsStand 22 = .ok (.bipush 6, 2) := by decide +kernel
theorem dX9_letsStand_24 : decode cX9_letsStand 24 = .ok (.iload_n 2, 1) := by decide +kernel
theorem dX9_letsStand_25 : decode cX9_letsStand 25 = .ok (.imul, 1) := by decide +kernel
theorem dX9_letsStand_26 : decode cX9_letsStand 26 = .ok (.iadd, 1) := by decide +kernel
theorem dX9_letsStand_27 : decode cX9_letsStand 27 = .ok (.istore 4, 2) := by decide +kernel
theorem dX9_letsStand_29 : decode cX9_letsStand 29 = .ok (.aload_n 0, 1) := by decide +kernel
theorem dX9_letsStand_30 : decode cX9_letsStand 30 = .ok (.iload_n 2, 1) := by decide +kernel
theorem dX9_letsStand_31 : decode cX9_letsStand 31 = .ok (.iconst 5, 1) := by decide +kernel
theorem dX9_letsStand_32 : decode cX9_letsStand 32 = .ok (.iload_n 3, 1) := by decide +kernel
theorem dX9_letsStand_33 : decode cX9_letsStand 33 = .ok (.invokevirtual 114, 3) := by decide +kernel
theorem dX9_letsStand_36 : decode cX9_letsStand 36 = .ok (.aload_n 0, 1) := by decide +kernel
theorem dX9_letsStand_37 : decode cX9_letsStand 37 = .ok (.iload_n 2, 1) := by decide +kernel
theorem dX9_letsStand_38 : decode cX9_letsStand 38 = .ok (.iconst 4, 1) := by decide +kernel
theorem dX9_letsStand_39 : decode cX9_letsStand 39 = .ok (.aload_n 0, 1) := by decide +kernel
theorem dX9_letsStand_40 : decode cX9_letsStand 40 = .ok (.getfield 16, 3) := by decide +kernel
theorem dX9_letsStand_43 : decode cX9_letsStand 43 = .ok (.iload 4, 2) := by decide +kernel
theorem dX9_letsStand_45 : decode cX9_letsStand 45 = .ok (.iconst 4, 1) := by decide +kernel
theorem dX9_letsStand_46 : decode cX9_letsStand 46 = .ok (.iadd, 1) := by decide +kernel
theorem dX9_letsStand_47 : decode cX9_letsStand 47 = .ok (.iaload, 1) := by decide +kernel
theorem dX9_letsStand_48 : decode cX9_letsStand 48 = .ok (.aload_n 0, 1) := by decide +kernel
theorem dX9_letsStand_49 : decode cX9_letsStand 49 = .ok (.getfield 16, 3) := by decide +kernel
theorem dX9_letsStand_52 : decode cX9_letsStand 52 = .ok (.iload 4, 2) := by decide +kernel
theorem dX9_letsStand_54 : decode cX9_letsStand 54 = .ok (.iconst 5, 1) := by decide +kernel
theorem dX9_letsStand_55 : decode cX9_letsStand 55 = .ok (.iadd, 1) := by decide +kernel
theorem dX9_letsStand_56 : decode cX9_letsStand 56 = .ok (.iaload, 1) := by decide +kernel
theorem dX9_letsStand_57 : decode cX9_letsStand 57 = .ok (.ifCond .ne 7, 3) := by decide +kernel
theorem dX9_letsStand_60 : decode cX9_letsStand 60 = .ok (.iload_n 3, 1) := by decide +kernel
theorem dX9_letsStand_61 : decode cX9_letsStand 61 = .ok (.goto 4, 3) := by decide +kernel
theorem dX9_letsStand_64 : decode cX9_letsStand 64 = .ok (.iconst 0, 1) := by decide +kernel
theorem dX9_letsStand_65 : decode cX9_letsStand 65 = .ok (.iadd, 1) := by decide +kernel
theorem dX9_letsStand_66 : decode cX9_letsStand 66 = .ok (.iconst 0, 1) := by decide +kernel
theorem dX9_letsStand_67 : decode cX9_letsStand 67 = .ok (.sipush 9999, 3) := by decide +kernel
theorem dX9_letsStand_70 : decode cX9_letsStand 70 = .ok (.invokestatic 107, 3) := by decide +kernel
theorem dX9_letsStand_73 : decode cX9_letsStand 73 = .ok (.invokevirtual 114, 3) := by decide +kernel
theorem dX9_letsStand_76 : decode cX9_letsStand 76 = .ok (.iinc 2 1, 3) := by decide +kernel
theorem dX9_letsStand_79 : decode cX9_letsStand 79 = .ok (.goto (-77), 3) := by decide +kernel
theorem dX9_letsStand_82 : decode cX9_letsStand 82 = .ok (.return_, 1) := by decide +kernel
theorem dX9_fellBy_0 : decode cX9_fellBy 0 = .ok (.iload_n 2, 1) := by decide +kernel
theorem dX9_fellBy_1 : decode cX9_fellBy 1 = .ok (.bipush 24, 2) := by decide +kernel
theorem dX9_fellBy_3 : decode cX9_fellBy 3 = .ok (.idiv, 1) := by decide +kernel
theorem dX9_fellBy_4 : decode cX9_fellBy 4 = .ok (.istore 4, 2) := by decide +kernel
theorem dX9_fellBy_6 : decode cX9_fellBy 6 = .ok (.aload_n 0, 1) := by decide +kernel
theorem dX9_fellBy_7 : decode cX9_fellBy 7 = .ok (.iload_n 1, 1) := by decide +kernel
theorem dX9_fellBy_8 : decode cX9_fellBy 8 = .ok (.putfield 188, 3) := by decide +kernel
theorem dX9_fellBy_11 : decode cX9_fellBy 11 = .ok (.iload_n 1, 1) := by decide +kernel
theorem dX9_fellBy_12 : decode cX9_fellBy 12 = .ok (.iload 4, 2) := by decide +kernel
theorem dX9_fellBy_14 : decode cX9_fellBy 14 = .ok (.ishr, 1) := by decide +kernel
theorem dX9_fellBy_15 : decode cX9_fellBy 15 = .ok (.iconst 1, 1) := by decide +kernel
theorem dX9_fellBy_16 : decode cX9_fellBy 16 = .ok (.iand, 1) := by decide +kernel
theorem dX9_fellBy_17 : decode cX9_fellBy 17 = .ok (.ifCond .ne 5, 3) := by decide +kernel
theorem dX9_fellBy_20 : decode cX9_fellBy 20 = .ok (.iconst 0, 1) := by decide +kernel
theorem dX9_fellBy_21 : decode cX9_fellBy 21 = .ok (.ireturn, 1) := by decide +kernel
theorem dX9_fellBy_22 : decode cX9_fellBy 22 = .ok (.aload_n 0, 1) := by decide +kernel
theorem dX9_fellBy_23 : decode cX9_fellBy 23 = .ok (.iload_n 1, 1) := by decide +kernel
theorem dX9_fellBy_24 : decode cX9_fellBy 24 = .ok (.invokevirtual 192, 3) := by decide +kernel
theorem dX9_fellBy_27 : decode cX9_fellBy 27 = .ok (.aload_n 0, 1) := by decide +kernel
theorem dX9_fellBy_28 : decode cX9_fellBy 28 = .ok (.iload 4, 2) := by decide +kernel
theorem dX9_fellBy_30 : decode cX9_fellBy 30 = .ok (.iload_n 2, 1) := by decide +kernel
theorem dX9_fellBy_31 : decode cX9_fellBy 31 = .ok (.iconst 3, 1) := by decide +kernel
theorem dX9_fellBy_32 : decode cX9_fellBy 32 = .ok (.idiv, 1) := by decide +kernel
theorem dX9_fellBy_33 : decode cX9_fellBy 33 = .ok (.bipush 8, 2) := by decide +kernel
theorem dX9_fellBy_35 : decode cX9_fellBy 35 = .ok (.irem, 1) := by decide +kernel
theorem dX9_fellBy_36 : decode cX9_fellBy 36 = .ok (.iload_n 3, 1) := by decide +kernel
theorem dX9_fellBy_37 : decode cX9_fellBy 37 = .ok (.iload_n 2, 1) := by decide +kernel
theorem dX9_fellBy_38 : decode cX9_fellBy 38 = .ok (.iconst 3, 1) := by decide +kernel
theorem dX9_fellBy_39 : decode cX9_fellBy 39 = .ok (.irem, 1) := by decide +kernel
theorem dX9_fellBy_40 : decode cX9_fellBy 40 = .ok (.iconst 1, 1) := by decide +kernel
theorem dX9_fellBy_41 : decode cX9_fellBy 41 = .ok (.isub, 1) := by decide +kernel
theorem dX9_fellBy_42 : decode cX9_fellBy 42 = .ok (.invokevirtual 159, 3) := by decide +kernel
theorem dX9_fellBy_45 : decode cX9_fellBy 45 = .ok (.istore 5, 2) := by decide +kernel
theorem dX9_fellBy_47 : decode cX9_fellBy 47 = .ok (.aload_n 0, 1) := by decide +kernel
theorem dX9_fellBy_48 : decode cX9_fellBy 48 = .ok (.aload_n 0, 1) := by decide +kernel
theorem dX9_fellBy_49 : decode cX9_fellBy 49 = .ok (.invokevirtual 97, 3) := by decide +kernel
theorem dX9_fellBy_52 : decode cX9_fellBy 52 = .ok (.putfield 188, 3) := by decide +kernel
theorem dX9_fellBy_55 : decode cX9_fellBy 55 = .ok (.iload 5, 2) := by decide +kernel
theorem dX9_fellBy_57 : decode cX9_fellBy 57 = .ok (.ireturn, 1) := by decide +kernel
theorem dX9_best_0 : decode cX9_best 0 = .ok (.iload_n 1, 1) := by decide +kernel
theorem dX9_best_1 : decode cX9_best 1 = .ok (.iconst 0, 1) := by decide +kernel
theorem dX9_best_2 : decode cX9_best 2 = .ok (.bipush 99, 2) := by decide +kernel
theorem dX9_best_4 : decode cX9_best 4 = .ok (.invokestatic 81, 3) := by decide +kernel
theorem dX9_best_7 : decode cX9_best 7 = .ok (.ifCond .eq 12, 3) := by decide +kernel
theorem dX9_best_10 : decode cX9_best 10 = .ok (.iload_n 2, 1) := by decide +kernel
theorem dX9_best_11 : decode cX9_best 11 = .ok (.iconst 0, 1) := by decide +kernel
theorem dX9_best_12 : decode cX9_best 12 = .ok (.iconst 3, 1) := by decide +kernel
theorem dX9_best_13 : decode cX9_best 13 = .ok (.invokestatic 81, 3) := by decide +kernel
theorem dX9_best_16 : decode cX9_best 16 = .ok (.ifCond .ne 6, 3) := by decide +kernel
theorem dX9_best_19 : decode cX9_best 19 = .ok (.ldc 121, 2) := by decide +kernel
theorem dX9_best_21 : decode cX9_best 21 = .ok (.ireturn, 1) := by decide +kernel
theorem dX9_best_22 : decode cX9_best 22 = .ok (.aload_n 0, 1) := by decide +kernel
theorem dX9_best_23 : decode cX9_best 23 = .ok (.invokevirtual 97, 3) := by decide +kernel
theorem dX9_best_26 : decode cX9_best 26 = .ok (.istore_n 3, 1) := by decide +kernel
theorem dX9_best_27 : decode cX9_best 27 = .ok (.iload_n 3, 1) := by decide +kernel
theorem dX9_best_28 : decode cX9_best 28 = .ok (.ifCond .ne 6, 3) := by decide +kernel
theorem dX9_best_31 : decode cX9_best 31 = .ok (.ldc 180, 2) := by decide +kernel
theorem dX9_best_33 : decode cX9_best 33 = .ok (.ireturn, 1) := by decide +kernel
theorem dX9_best_34 : decode cX9_best 34 = .ok (.aload_n 0, 1) := by decide +kernel
theorem dX9_best_35 : decode cX9_best 35 = .ok (.invokevirtual 195, 3) := by decide +kernel
theorem dX9_best_38 : decode cX9_best 38 = .ok (.iconst (-1), 1) := by decide +kernel
theorem dX9_best_39 : decode cX9_best 39 = .ok (.istore 4, 2) := by decide +kernel
theorem dX9_best_41 : decode cX9_best 41 = .ok (.iconst (-1), 1) := by decide +kernel
theorem dX9_best_42 : decode cX9_best 42 = .ok (.istore 5, 2) := by decide +kernel
theorem dX9_best_44 : decode cX9_best 44 = .ok (.iconst 0, 1) := by decide +kernel
theorem dX9_best_45 : decode cX9_best 45 = .ok (.istore 6, 2) := by decide +kernel
theorem dX9_best_47 : decode cX9_best 47 = .ok (.iload 6, 2) := by decide +kernel
theorem dX9_best_49 : decode cX9_best 49 = .ok (.bipush 24, 2) := by decide +kernel
theorem dX9_best_51 : decode cX9_best 51 = .ok (.aload_n 0, 1) := by decide +kernel
theorem dX9_best_52 : decode cX9_best 52 = .ok (.getfield 9, 3) := by decide +kernel
theorem dX9_best_55 : decode cX9_best 55 = .ok (.iconst 1, 1) := by decide +kernel
theorem dX9_best_56 : decode cX9_best 56 = .ok (.iaload, 1) := by decide +kernel
theorem dX9_best_57 : decode cX9_best 57 = .ok (.imul, 1) := by decide +kernel
theorem dX9_best_58 : decode cX9_best 58 = .ok (.if_icmp .ge 74, 3) := by decide +kernel
theorem dX9_best_61 : decode cX9_best 61 = .ok (.aload_n 0, 1) := by decide +kernel
theorem dX9_best_62 : decode cX9_best 62 = .ok (.iload_n 3, 1) := by decide +kernel
theorem dX9_best_63 : decode cX9_best 63 = .ok (.iload 6, 2) := by decide +kernel
theorem dX9_best_65 : decode cX9_best 65 = .ok (.iload_n 1, 1) := by decide +kernel
theorem dX9_best_66 : decode cX9_best 66 = .ok (.invokevirtual 198, 3) := by decide +kernel
theorem dX9_best_69 : decode cX9_best 69 = .ok (.istore 7, 2) := by decide +kernel
theorem dX9_best_71 : decode cX9_best 71 = .ok (.iload_n 3, 1) := by decide +kernel
theorem dX9_best_72 : decode cX9_best 72 = .ok (.iload 6, 2) := by decide +kernel
theorem dX9_best_74 : decode cX9_best 74 = .ok (.bipush 24, 2) := by decide +kernel
theorem dX9_best_76 : decode cX9_best 76 = .ok (.idiv, 1) := by decide +kernel
theorem dX9_best_77 : decode cX9_best 77 = .ok (.ishr, 1) := by decide +kernel
theorem dX9_best_78 : decode cX9_best 78 = .ok (.iconst 1, 1) := by decide +kernel
theorem dX9_best_79 : decode cX9_best 79 = .ok (.iand, 1) := by decide +kernel
theorem dX9_best_80 : decode cX9_best 80 = .ok (.iconst 1, 1) := by decide +kernel
theorem dX9_best_81 : decode cX9_best 81 = .ok (.if_icmp .ne 14, 3) := by decide +kernel
theorem dX9_best_84 : decode cX9_best 84 = .ok (.iload 7, 2) := by decide +kernel
theorem dX9_best_86 : decode cX9_best 86 = .ok (.iload 5, 2) := by decide +kernel
theorem dX9_best_88 : decode cX9_best 88 = .ok (.if_icmp .le 7, 3) := by decide +kernel
theorem dX9_best_91 : decode cX9_best 91 = .ok (.iconst 1, 1) := by decide +kernel
theorem dX9_best_92 : decode cX9_best 92 = .ok (.goto 4, 3) := by decide +kernel
theorem dX9_best_95 : decode cX9_best 95 = .ok (.iconst 0, 1) := by decide +kernel
theorem dX9_best_96 : decode cX9_best 96 = .ok (.istore 8, 2) := by decide +kernel
theorem dX9_best_98 : decode cX9_best 98 = .ok (.iload 8, 2) := by decide +kernel
theorem dX9_best_100 : decode cX9_best 100 = .ok (.ifCond .eq 8, 3) := by decide +kernel
theorem dX9_best_103 : decode cX9_best 103 = .ok (.iload 6, 2) := by decide +kernel
theorem dX9_best_105 : decode cX9_best 105 = .ok (.goto 5, 3) := by decide +kernel
theorem dX9_best_108 : decode cX9_best 108 = .ok (.iload 4, 2) := by decide +kernel
theorem dX9_best_110 : decode cX9_best 110 = .ok (.istore 4, 2) := by decide +kernel
theorem dX9_best_112 : decode cX9_best 112 = .ok (.iload 8, 2) := by decide +kernel
theorem dX9_best_114 : decode cX9_best 114 = .ok (.ifCond .eq 8, 3) := by decide +kernel
theorem dX9_best_117 : decode cX9_best 117 = .ok (.iload 7, 2) := by decide +kernel
theorem dX9_best_119 : decode cX9_best 119 = .ok (.goto 5, 3) := by decide +kernel
theorem dX9_best_122 : decode cX9_best 122 = .ok (.iload 5, 2) := by decide +kernel
theorem dX9_best_124 : decode cX9_best 124 = .ok (.istore 5, 2) := by decide +kernel
theorem dX9_best_126 : decode cX9_best 126 = .ok (.iinc 6 1, 3) := by decide +kernel
theorem dX9_best_129 : decode cX9_best 129 = .ok (.goto (-82), 3) := by decide +kernel
theorem dX9_best_132 : decode cX9_best 132 = .ok (.aload_n 0, 1) := by decide +kernel
theorem dX9_best_133 : decode cX9_best 133 = .ok (.invokevirtual 201, 3) := by decide +kernel
theorem dX9_best_136 : decode cX9_best 136 = .ok (.iload_n 2, 1) := by decide +kernel
theorem dX9_best_137 : decode cX9_best 137 = .ok (.ifCond .ne 8, 3) := by decide +kernel
theorem dX9_best_140 : decode cX9_best 140 = .ok (.iload 5, 2) := by decide +kernel
theorem dX9_best_142 : decode cX9_best 142 = .ok (.goto 35, 3) := by decide +kernel
theorem dX9_best_145 : decode cX9_best 145 = .ok (.iload_n 2, 1) := by decide +kernel
theorem dX9_best_146 : decode cX9_best 146 = .ok (.iconst 1, 1) := by decide +kernel
theorem dX9_best_147 : decode cX9_best 147 = .ok (.if_icmp .ne 11, 3) := by decide +kernel
theorem dX9_best_150 : decode cX9_best 150 = .ok (.iload 4, 2) := by decide +kernel
theorem dX9_best_152 : decode cX9_best 152 = .ok (.bipush 24, 2) := by decide +kernel
theorem dX9_best_154 : decode cX9_best 154 = .ok (.idiv, 1) := by decide +kernel
theorem dX9_best_155 : decode cX9_best 155 = .ok (.goto 22, 3) := by decide +kernel
theorem dX9_best_158 : decode cX9_best 158 = .ok (.iload_n 2, 1) := by decide +kernel
theorem dX9_best_159 : decode cX9_best 159 = .ok (.iconst 2, 1) := by decide +kernel
theorem dX9_best_160 : decode cX9_best 160 = .ok (.if_icmp .ne 13, 3) := by decide +kernel
theorem dX9_best_163 : decode cX9_best 163 = .ok (.iload 4, 2) := by decide +kernel
theorem dX9_best_165 : decode cX9_best 165 = .ok (.iconst 3, 1) := by decide +kernel
theorem dX9_best_166 : decode cX9_best 166 = .ok (.idiv, 1) := by decide +kernel
theorem dX9_best_167 : decode cX9_best 167 = .ok (.bipush 8, 2) := by decide +kernel
theorem dX9_best_169 : decode cX9_best 169 = .ok (.irem, 1) := by decide +kernel
theorem dX9_best_170 : decode cX9_best 170 = .ok (.goto 7, 3) := by decide +kernel
theorem dX9_best_173 : decode cX9_best 173 = .ok (.iload 4, 2) := by decide +kernel
theorem dX9_best_175 : decode cX9_best 175 = .ok (.iconst 3, 1) := by decide +kernel
theorem dX9_best_176 : decode cX9_best 176 = .ok (.irem, 1) := by decide +kernel
theorem dX9_best_177 : decode cX9_best 177 = .ok (.ireturn, 1) := by decide +kernel
theorem dX9_mostFrom_0 : decode cX9_mostFrom 0 = .ok (.aload_n 0, 1) := by decide +kernel
theorem dX9_mostFrom_1 : decode cX9_mostFrom 1 = .ok (.getfield 19, 3) := by decide +kernel
theorem dX9_mostFrom_4 : decode cX9_mostFrom 4 = .ok (.iload_n 1, 1) := by decide +kernel
theorem dX9_mostFrom_5 : decode cX9_mostFrom 5 = .ok (.iaload, 1) := by decide +kernel
theorem dX9_mostFrom_6 : decode cX9_mostFrom 6 = .ok (.ifCond .ge 58, 3) := by decide +kernel
theorem dX9_mostFrom_9 : decode cX9_mostFrom 9 = .ok (.iconst 0, 1) := by decide +kernel
theorem dX9_mostFrom_10 : decode cX9_mostFrom 10 = .ok (.istore_n 3, 1) := by decide +kernel
theorem dX9_mostFrom_11 : decode cX9_mostFrom 11 = .ok (.iconst 0, 1) := by decide +kernel
theorem dX9_mostFrom_12 : decode cX9_mostFrom 12 = .ok (.istore 4, 2) := by decide +kernel
theorem dX9_mostFrom_14 : decode cX9_mostFrom 14 = .ok (.iload 4, 2) := by decide +kernel
theorem dX9_mostFrom_16 : decode cX9_mostFrom 16 = .ok (.bipush 24, 2) := by decide +kernel
theorem dX9_mostFrom_18 : decode cX9_mostFrom 18 = .ok (.aload_n 0, 1) := by decide +kernel
theorem dX9_mostFrom_19 : decode cX9_mostFrom 19 = .ok (.getfield 9, 3) := by decide +kernel
theorem dX9_mostFrom_22 : decode cX9_mostFrom 22 = .ok (.iconst 1, 1) := by decide +kernel
theorem dX9_mostFrom_23 : decode cX9_mostFrom 23 = .ok (.iaload, 1) := by decide +kernel
theorem dX9_mostFrom_24 : decode cX9_mostFrom 24 = .ok (.imul, 1) := by decide +kernel
theorem dX9_mostFrom_25 : decode cX9_mostFrom 25 = .ok (.if_icmp .ge 32, 3) := by decide +kernel
theorem dX9_mostFrom_28 : decode cX9_mostFrom 28 = .ok (.aload_n 0, 1) := by decide +kernel
theorem dX9_mostFrom_29 : decode cX9_mostFrom 29 = .ok (.iload_n 1, 1) := by decide +kernel
theorem dX9_mostFrom_30 : decode cX9_mostFrom 30 = .ok (.iload 4, 2) := by decide +kernel
theorem dX9_mostFrom_32 : decode cX9_mostFrom 32 = .ok (.iload_n 2, 1) := by decide +kernel
theorem dX9_mostFrom_33 : decode cX9_mostFrom 33 = .ok (.invokevirtual 198, 3) := by decide +kernel
theorem dX9_mostFrom_36 : decode cX9_mostFrom 36 = .ok (.istore 5, 2) := by decide +kernel
theorem dX9_mostFrom_38 : decode cX9_mostFrom 38 = .ok (.iload 5, 2) := by decide +kernel
theorem dX9_mostFrom_40 : decode cX9_mostFrom 40 = .ok (.iload_n 3, 1) := by decide +kernel
theorem dX9_mostFrom_41 : decode cX9_mostFrom 41 = .ok (.if_icmp .le 8, 3) := by decide +kernel
theorem dX9_mostFrom_44 : decode cX9_mostFrom 44 = .ok (.iload 5, 2) := by decide +kernel
theorem dX9_mostFrom_46 : decode cX9_mostFrom 46 = .ok (.goto 4, 3) := by decide +kernel
theorem dX9_mostFrom_49 : decode cX9_mostFrom 49 = .ok (.iload_n 3, 1) := by decide +kernel
theorem dX9_mostFrom_50 : decode cX9_mostFrom 50 = .ok (.istore_n 3, 1) := by decide +kernel
theorem dX9_mostFrom_51 : decode cX9_mostFrom 51 = .ok (.iinc 4 1, 3) := by decide +kernel
theorem dX9_mostFrom_54 : decode cX9_mostFrom 54 = .ok (.goto (-40), 3) := by decide +kernel
theorem dX9_mostFrom_57 : decode cX9_mostFrom 57 = .ok (.aload_n 0, 1) := by decide +kernel
theorem dX9_mostFrom_58 : decode cX9_mostFrom 58 = .ok (.getfield 19, 3) := by decide +kernel
theorem dX9_mostFrom_61 : decode cX9_mostFrom 61 = .ok (.iload_n 1, 1) := by decide +kernel
theorem dX9_mostFrom_62 : decode cX9_mostFrom 62 = .ok (.iload_n 3, 1) := by decide +kernel
theorem dX9_mostFrom_63 : decode cX9_mostFrom 63 = .ok (.iastore, 1) := by decide +kernel
theorem dX9_mostFrom_64 : decode cX9_mostFrom 64 = .ok (.aload_n 0, 1) := by decide +kernel
theorem dX9_mostFrom_65 : decode cX9_mostFrom 65 = .ok (.getfield 19, 3) := by decide +kernel
theorem dX9_mostFrom_68 : decode cX9_mostFrom 68 = .ok (.iload_n 1, 1) := by decide +kernel
theorem dX9_mostFrom_69 : decode cX9_mostFrom 69 = .ok (.iaload, 1) := by decide +kernel
theorem dX9_mostFrom_70 : decode cX9_mostFrom 70 = .ok (.ireturn, 1) := by decide +kernel
theorem dX9_pair_0 : decode cX9_pair 0 = .ok (.iload_n 1, 1) := by decide +kernel
theorem dX9_pair_1 : decode cX9_pair 1 = .ok (.iconst 0, 1) := by decide +kernel
theorem dX9_pair_2 : decode cX9_pair 2 = .ok (.bipush 99, 2) := by decide +kernel
theorem dX9_pair_4 : decode cX9_pair 4 = .ok (.invokestatic 81, 3) := by decide +kernel
theorem dX9_pair_7 : decode cX9_pair 7 = .ok (.ifCond .ne 6, 3) := by decide +kernel
theorem dX9_pair_10 : decode cX9_pair 10 = .ok (.ldc 121, 2) := by decide +kernel
theorem dX9_pair_12 : decode cX9_pair 12 = .ok (.ireturn, 1) := by decide +kernel
theorem dX9_pair_13 : decode cX9_pair 13 = .ok (.aload_n 0, 1) := by decide +kernel
theorem dX9_pair_14 : decode cX9_pair 14 = .ok (.invokevirtual 97, 3) := by decide +kernel
theorem dX9_pair_17 : decode cX9_pair 17 = .ok (.istore_n 2, 1) := by decide +kernel
theorem dX9_pair_18 : decode cX9_pair 18 = .ok (.aload_n 0, 1) := by decide +kernel
theorem dX9_pair_19 : decode cX9_pair 19 = .ok (.invokevirtual 195, 3) := by decide +kernel
theorem dX9_pair_22 : decode cX9_pair 22 = .ok (.iconst 0, 1) := by decide +kernel
theorem dX9_pair_23 : decode cX9_pair 23 = .ok (.istore_n 3, 1) := by decide +kernel
theorem dX9_pair_24 : decode cX9_pair 24 = .ok (.iload_n 3, 1) := by decide +kernel
theorem dX9_pair_25 : decode cX9_pair 25 = .ok (.sipush 512, 3) := by decide +kernel
theorem dX9_pair_28 : decode cX9_pair 28 = .ok (.if_icmp .ge 16, 3) := by decide +kernel
theorem dX9_pair_31 : decode cX9_pair 31 = .ok (.aload_n 0, 1) := by decide +kernel
theorem dX9_pair_32 : decode cX9_pair 32 = .ok (.getfield 19, 3) := by decide +kernel
theorem dX9_pair_35 : decode cX9_pair 35 = .ok (.iload_n 3, 1) := by decide +kernel
theorem dX9_pair_36 : decode cX9_pair 36 = .ok (.iconst (-1), 1) := by decide +kernel
theorem dX9_pair_37 : decode cX9_pair 37 = .ok (.iastore, 1) := by decide +kernel
theorem dX9_pair_38 : decode cX9_pair 38 = .ok (.iinc 3 1, 3) := by decide +kernel
theorem dX9_pair_41 : decode cX9_pair 41 = .ok (.goto (-17), 3) := by decide +kernel
theorem dX9_pair_44 : decode cX9_pair 44 = .ok (.iconst 0, 1) := by decide +kernel
theorem dX9_pair_45 : decode cX9_pair 45 = .ok (.istore_n 3, 1) := by decide +kernel
theorem dX9_pair_46 : decode cX9_pair 46 = .ok (.iconst 0, 1) := by decide +kernel
theorem dX9_pair_47 : decode cX9_pair 47 = .ok (.istore 4, 2) := by decide +kernel
theorem dX9_pair_49 : decode cX9_pair 49 = .ok (.iload 4, 2) := by decide +kernel
theorem dX9_pair_51 : decode cX9_pair 51 = .ok (.bipush 24, 2) := by decide +kernel
theorem dX9_pair_53 : decode cX9_pair 53 = .ok (.aload_n 0, 1) := by decide +kernel
theorem dX9_pair_54 : decode cX9_pair 54 = .ok (.getfield 9, 3) := by decide +kernel
theorem dX9_pair_57 : decode cX9_pair 57 = .ok (.iconst 1, 1) := by decide +kernel
theorem dX9_pair_58 : decode cX9_pair 58 = .ok (.iaload, 1) := by decide +kernel
theorem dX9_pair_59 : decode cX9_pair 59 = .ok (.imul, 1) := by decide +kernel
theorem dX9_pair_60 : decode cX9_pair 60 = .ok (.if_icmp .ge 50, 3) := by decide +kernel
theorem dX9_pair_63 : decode cX9_pair 63 = .ok (.aload_n 0, 1) := by decide +kernel
theorem dX9_pair_64 : decode cX9_pair 64 = .ok (.iload_n 2, 1) := by decide +kernel
theorem dX9_pair_65 : decode cX9_pair 65 = .ok (.iload 4, 2) := by decide +kernel
theorem dX9_pair_67 : decode cX9_pair 67 = .ok (.iload_n 1, 1) := by decide +kernel
theorem dX9_pair_68 : decode cX9_pair 68 = .ok (.invokevirtual 198, 3) := by decide +kernel
theorem dX9_pair_71 : decode cX9_pair 71 = .ok (.istore 5, 2) := by decide +kernel
theorem dX9_pair_73 : decode cX9_pair 73 = .ok (.aload_n 0, 1) := by decide +kernel
theorem dX9_pair_74 : decode cX9_pair 74 = .ok (.getfield 188, 3) := by decide +kernel
theorem dX9_pair_77 : decode cX9_pair 77 = .ok (.istore 6, 2) := by decide +kernel
theorem dX9_pair_79 : decode cX9_pair 79 = .ok (.iload 5, 2) := by decide +kernel
theorem dX9_pair_81 : decode cX9_pair 81 = .ok (.aload_n 0, 1) := by decide +kernel
theorem dX9_pair_82 : decode cX9_pair 82 = .ok (.iload 6, 2) := by decide +kernel
theorem dX9_pair_84 : decode cX9_pair 84 = .ok (.iload_n 1, 1) := by decide +kernel
theorem dX9_pair_85 : decode cX9_pair 85 = .ok (.invokevirtual 204, 3) := by decide +kernel
theorem dX9_pair_88 : decode cX9_pair 88 = .ok (.iadd, 1) := by decide +kernel
theorem dX9_pair_89 : decode cX9_pair 89 = .ok (.istore 5, 2) := by decide +kernel
theorem dX9_pair_91 : decode cX9_pair 91 = .ok (.iload 5, 2) := by decide +kernel
theorem dX9_pair_93 : decode cX9_pair 93 = .ok (.iload_n 3, 1) := by decide +kernel
theorem dX9_pair_94 : decode cX9_pair 94 = .ok (.if_icmp .le 8, 3) := by decide +kernel
theorem dX9_pair_97 : decode cX9_pair 97 = .ok (.iload 5, 2) := by decide +kernel
theorem dX9_pair_99 : decode cX9_pair 99 = .ok (.goto 4, 3) := by decide +kernel
theorem dX9_pair_102 : decode cX9_pair 102 = .ok (.iload_n 3, 1) := by decide +kernel
theorem dX9_pair_103 : decode cX9_pair 103 = .ok (.istore_n 3, 1) := by decide +kernel
theorem dX9_pair_104 : decode cX9_pair 104 = .ok (.iinc 4 1, 3) := by decide +kernel
theorem dX9_pair_107 : decode cX9_pair 107 = .ok (.goto (-58), 3) := by decide +kernel
theorem dX9_pair_110 : decode cX9_pair 110 = .ok (.aload_n 0, 1) := by decide +kernel
theorem dX9_pair_111 : decode cX9_pair 111 = .ok (.invokevirtual 201, 3) := by decide +kernel
theorem dX9_pair_114 : decode cX9_pair 114 = .ok (.iload_n 3, 1) := by decide +kernel
theorem dX9_pair_115 : decode cX9_pair 115 = .ok (.ireturn, 1) := by decide +kernel
theorem dX9_goesFrom_0 : decode cX9_goesFrom 0 = .ok (.iconst 0, 1) := by decide +kernel
theorem dX9_goesFrom_1 : decode cX9_goesFrom 1 = .ok (.istore_n 3, 1) := by decide +kernel
theorem dX9_goesFrom_2 : decode cX9_goesFrom 2 = .ok (.iload_n 3, 1) := by decide +kernel
theorem dX9_goesFrom_3 : decode cX9_goesFrom 3 = .ok (.bipush 24, 2) := by decide +kernel
theorem dX9_goesFrom_5 : decode cX9_goesFrom 5 = .ok (.aload_n 0, 1) := by decide +kernel
theorem dX9_goesFrom_6 : decode cX9_goesFrom 6 = .ok (.getfield 9, 3) := by decide +kernel
theorem dX9_goesFrom_9 : decode cX9_goesFrom 9 = .ok (.iconst 1, 1) := by decide +kernel
theorem dX9_goesFrom_10 : decode cX9_goesFrom 10 = .ok (.iaload, 1) := by decide +kernel
theorem dX9_goesFrom_11 : decode cX9_goesFrom 11 = .ok (.imul, 1) := by decide +kernel
theorem dX9_goesFrom_12 : decode cX9_goesFrom 12 = .ok (.if_icmp .ge 59, 3) := by decide +kernel
theorem dX9_goesFrom_15 : decode cX9_goesFrom 15 = .ok (.aload_n 0, 1) := by decide +kernel
theorem dX9_goesFrom_16 : decode cX9_goesFrom 16 = .ok (.iload_n 1, 1) := by decide +kernel
theorem dX9_goesFrom_17 : decode cX9_goesFrom 17 = .ok (.iload_n 3, 1) := by decide +kernel
theorem dX9_goesFrom_18 : decode cX9_goesFrom 18 = .ok (.iload_n 2, 1) := by decide +kernel
theorem dX9_goesFrom_19 : decode cX9_goesFrom 19 = .ok (.invokevirtual 198, 3) := by decide +kernel
theorem dX9_goesFrom_22 : decode cX9_goesFrom 22 = .ok (.istore 4, 2) := by decide +kernel
theorem dX9_goesFrom_24 : decode cX9_goesFrom 24 = .ok (.aload_n 0, 1) := by decide +kernel
theorem dX9_goesFrom_25 : decode cX9_goesFrom 25 = .ok (.getfield 22, 3) := by decide +kernel
theorem dX9_goesFrom_28 : decode cX9_goesFrom 28 = .ok (.aload_n 0, 1) := by decide +kernel
theorem dX9_goesFrom_29 : decode cX9_goesFrom 29 = .ok (.getfield 188, 3) := by decide +kernel
theorem dX9_goesFrom_32 : decode cX9_goesFrom 32 = .ok (.aload_n 0, 1) := by decide +kernel
theorem dX9_goesFrom_33 : decode cX9_goesFrom 33 = .ok (.getfield 22, 3) := by decide +kernel
theorem dX9_goesFrom_36 : decode cX9_goesFrom 36 = .ok (.aload_n 0, 1) := by decide +kernel
theorem dX9_goesFrom_37 : decode cX9_goesFrom 37 = .ok (.getfield 188, 3) := by decide +kernel
theorem dX9_goesFrom_40 : decode cX9_goesFrom 40 = .ok (.iaload, 1) := by decide +kernel
theorem dX9_goesFrom_41 : decode cX9_goesFrom 41 = .ok (.ifCond .ge 14, 3) := by decide +kernel
theorem dX9_goesFrom_44 : decode cX9_goesFrom 44 = .ok (.aload_n 0, 1) := by decide +kernel
theorem dX9_goesFrom_45 : decode cX9_goesFrom 45 = .ok (.getfield 22, 3) := by decide +kernel
theorem dX9_goesFrom_48 : decode cX9_goesFrom 48 = .ok (.iload_n 1, 1) := by decide +kernel
theorem dX9_goesFrom_49 : decode cX9_goesFrom 49 = .ok (.iaload, 1) := by decide +kernel
theorem dX9_goesFrom_50 : decode cX9_goesFrom 50 = .ok (.iconst 1, 1) := by decide +kernel
theorem dX9_goesFrom_51 : decode cX9_goesFrom 51 = .ok (.iadd, 1) := by decide +kernel
theorem dX9_goesFrom_52 : decode cX9_goesFrom 52 = .ok (.goto 12, 3) := by decide +kernel
theorem dX9_goesFrom_55 : decode cX9_goesFrom 55 = .ok (.aload_n 0, 1) := by decide +kernel
theorem dX9_goesFrom_56 : decode cX9_goesFrom 56 = .ok (.getfield 22, 3) := by decide +kernel
theorem dX9_goesFrom_59 : decode cX9_goesFrom 59 = .ok (.aload_n 0, 1) := by decide +kernel
theorem dX9_goesFrom_60 : decode cX9_goesFrom 60 = .ok (.getfield 188, 3) := by decide +kernel
theorem dX9_goesFrom_63 : decode cX9_goesFrom 63 = .ok (.iaload, 1) := by decide +kernel
theorem dX9_goesFrom_64 : decode cX9_goesFrom 64 = .ok (.iastore, 1) := by decide +kernel
theorem dX9_goesFrom_65 : decode cX9_goesFrom 65 = .ok (.iinc 3 1, 3) := by decide +kernel
theorem dX9_goesFrom_68 : decode cX9_goesFrom 68 = .ok (.goto (-66), 3) := by decide +kernel
theorem dX9_goesFrom_71 : decode cX9_goesFrom 71 = .ok (.return_, 1) := by decide +kernel
theorem dX9_clear_0 : decode cX9_clear 0 = .ok (.iload_n 1, 1) := by decide +kernel
theorem dX9_clear_1 : decode cX9_clear 1 = .ok (.iconst 0, 1) := by decide +kernel
theorem dX9_clear_2 : decode cX9_clear 2 = .ok (.bipush 99, 2) := by decide +kernel
theorem dX9_clear_4 : decode cX9_clear 4 = .ok (.invokestatic 81, 3) := by decide +kernel
theorem dX9_clear_7 : decode cX9_clear 7 = .ok (.ifCond .ne 6, 3) := by decide +kernel
theorem dX9_clear_10 : decode cX9_clear 10 = .ok (.ldc 121, 2) := by decide +kernel
theorem dX9_clear_12 : decode cX9_clear 12 = .ok (.ireturn, 1) := by decide +kernel
theorem dX9_clear_13 : decode cX9_clear 13 = .ok (.aload_n 0, 1) := by decide +kernel
theorem dX9_clear_14 : decode cX9_clear 14 = .ok (.invokevirtual 97, 3) := by decide +kernel
theorem dX9_clear_17 : decode cX9_clear 17 = .ok (.istore_n 2, 1) := by decide +kernel
theorem dX9_clear_18 : decode cX9_clear 18 = .ok (.aload_n 0, 1) := by decide +kernel
theorem dX9_clear_19 : decode cX9_clear 19 = .ok (.invokevirtual 195, 3) := by decide +kernel
theorem dX9_clear_22 : decode cX9_clear 22 = .ok (.iconst 0, 1) := by decide +kernel
theorem dX9_clear_23 : decode cX9_clear 23 = .ok (.istore_n 3, 1) := by decide +kernel
theorem dX9_clear_24 : decode cX9_clear 24 = .ok (.iload_n 3, 1) := by decide +kernel
theorem dX9_clear_25 : decode cX9_clear 25 = .ok (.sipush 512, 3) := by decide +kernel
theorem dX9_clear_28 : decode cX9_clear 28 = .ok (.if_icmp .ge 16, 3) := by decide +kernel
theorem dX9_clear_31 : decode cX9_clear 31 = .ok (.aload_n 0, 1) := by decide +kernel
theorem dX9_clear_32 : decode cX9_clear 32 = .ok (.getfield 22, 3) := by decide +kernel
theorem dX9_clear_35 : decode cX9_clear 35 = .ok (.iload_n 3, 1) := by decide +kernel
theorem dX9_clear_36 : decode cX9_clear 36 = .ok (.iconst (-1), 1) := by decide +kernel
theorem dX9_clear_37 : decode cX9_clear 37 = .ok (.iastore, 1) := by decide +kernel
theorem dX9_clear_38 : decode cX9_clear 38 = .ok (.iinc 3 1, 3) := by decide +kernel
theorem dX9_clear_41 : decode cX9_clear 41 = .ok (.goto (-17), 3) := by decide +kernel
theorem dX9_clear_44 : decode cX9_clear 44 = .ok (.aload_n 0, 1) := by decide +kernel
theorem dX9_clear_45 : decode cX9_clear 45 = .ok (.getfield 22, 3) := by decide +kernel
theorem dX9_clear_48 : decode cX9_clear 48 = .ok (.iload_n 2, 1) := by decide +kernel
theorem dX9_clear_49 : decode cX9_clear 49 = .ok (.iconst 0, 1) := by decide +kernel
theorem dX9_clear_50 : decode cX9_clear 50 = .ok (.iastore, 1) := by decide +kernel
theorem dX9_clear_51 : decode cX9_clear 51 = .ok (.iconst 0, 1) := by decide +kernel
theorem dX9_clear_52 : decode cX9_clear 52 = .ok (.istore_n 3, 1) := by decide +kernel
theorem dX9_clear_53 : decode cX9_clear 53 = .ok (.iload_n 3, 1) := by decide +kernel
theorem dX9_clear_54 : decode cX9_clear 54 = .ok (.bipush 9, 2) := by decide +kernel
theorem dX9_clear_56 : decode cX9_clear 56 = .ok (.if_icmp .ge 50, 3) := by decide +kernel
theorem dX9_clear_59 : decode cX9_clear 59 = .ok (.aload_n 0, 1) := by decide +kernel
theorem dX9_clear_60 : decode cX9_clear 60 = .ok (.getfield 22, 3) := by decide +kernel
theorem dX9_clear_63 : decode cX9_clear 63 = .ok (.iconst 0, 1) := by decide +kernel
theorem dX9_clear_64 : decode cX9_clear 64 = .ok (.iaload, 1) := by decide +kernel
theorem dX9_clear_65 : decode cX9_clear 65 = .ok (.ifCond .ge 41, 3) := by decide +kernel
theorem dX9_clear_68 : decode cX9_clear 68 = .ok (.iload_n 2, 1) := by decide +kernel
theorem dX9_clear_69 : decode cX9_clear 69 = .ok (.istore 4, 2) := by decide +kernel
theorem dX9_clear_71 : decode cX9_clear 71 = .ok (.iload 4, 2) := by decide +kernel
theorem dX9_clear_73 : decode cX9_clear 73 = .ok (.ifCond .le 27, 3) := by decide +kernel
theorem dX9_clear_76 : decode cX9_clear 76 = .ok (.aload_n 0, 1) := by decide +kernel
theorem dX9_clear_77 : decode cX9_clear 77 = .ok (.getfield 22, 3) := by decide +kernel
theorem dX9_clear_80 : decode cX9_clear 80 = .ok (.iload 4, 2) := by decide +kernel
theorem dX9_clear_82 : decode cX9_clear 82 = .ok (.iaload, 1) := by decide +kernel
theorem dX9_clear_83 : decode cX9_clear 83 = .ok (.iload_n 3, 1) := by decide +kernel
theorem dX9_clear_84 : decode cX9_clear 84 = .ok (.if_icmp .ne 10, 3) := by decide +kernel
theorem dX9_clear_87 : decode cX9_clear 87 = .ok (.aload_n 0, 1) := by decide +kernel
theorem dX9_clear_88 : decode cX9_clear 88 = .ok (.iload 4, 2) := by decide +kernel
theorem dX9_clear_90 : decode cX9_clear 90 = .ok (.iload_n 1, 1) := by decide +kernel
theorem dX9_clear_91 : decode cX9_clear 91 = .ok (.invokevirtual 207, 3) := by decide +kernel
theorem dX9_clear_94 : decode cX9_clear 94 = .ok (.iinc 4 (-1), 3) := by decide +kernel
theorem dX9_clear_97 : decode cX9_clear 97 = .ok (.goto (-26), 3) := by decide +kernel
theorem dX9_clear_100 : decode cX9_clear 100 = .ok (.iinc 3 1, 3) := by decide +kernel
theorem dX9_clear_103 : decode cX9_clear 103 = .ok (.goto (-50), 3) := by decide +kernel
theorem dX9_clear_106 : decode cX9_clear 106 = .ok (.aload_n 0, 1) := by decide +kernel
theorem dX9_clear_107 : decode cX9_clear 107 = .ok (.invokevirtual 201, 3) := by decide +kernel
theorem dX9_clear_110 : decode cX9_clear 110 = .ok (.aload_n 0, 1) := by decide +kernel
theorem dX9_clear_111 : decode cX9_clear 111 = .ok (.getfield 22, 3) := by decide +kernel
theorem dX9_clear_114 : decode cX9_clear 114 = .ok (.iconst 0, 1) := by decide +kernel
theorem dX9_clear_115 : decode cX9_clear 115 = .ok (.iaload, 1) := by decide +kernel
theorem dX9_clear_116 : decode cX9_clear 116 = .ok (.ifCond .ge 8, 3) := by decide +kernel
theorem dX9_clear_119 : decode cX9_clear 119 = .ok (.ldc 180, 2) := by decide +kernel
theorem dX9_clear_121 : decode cX9_clear 121 = .ok (.goto 9, 3) := by decide +kernel
theorem dX9_clear_124 : decode cX9_clear 124 = .ok (.aload_n 0, 1) := by decide +kernel
theorem dX9_clear_125 : decode cX9_clear 125 = .ok (.getfield 22, 3) := by decide +kernel
theorem dX9_clear_128 : decode cX9_clear 128 = .ok (.iconst 0, 1) := by decide +kernel
theorem dX9_clear_129 : decode cX9_clear 129 = .ok (.iaload, 1) := by decide +kernel
theorem dX9_clear_130 : decode cX9_clear 130 = .ok (.ireturn, 1) := by decide +kernel
theorem dX9_force_0 : decode cX9_force 0 = .ok (.aload_n 0, 1) := by decide +kernel
theorem dX9_force_1 : decode cX9_force 1 = .ok (.iload_n 1, 1) := by decide +kernel
theorem dX9_force_2 : decode cX9_force 2 = .ok (.invokevirtual 85, 3) := by decide +kernel
theorem dX9_force_5 : decode cX9_force 5 = .ok (.ifCond .eq 10, 3) := by decide +kernel
theorem dX9_force_8 : decode cX9_force 8 = .ok (.iload_n 2, 1) := by decide +kernel
theorem dX9_force_9 : decode cX9_force 9 = .ok (.invokestatic 118, 3) := by decide +kernel
theorem dX9_force_12 : decode cX9_force 12 = .ok (.ifCond .ne 6, 3) := by decide +kernel
theorem dX9_force_15 : decode cX9_force 15 = .ok (.ldc 121, 2) := by decide +kernel
theorem dX9_force_17 : decode cX9_force 17 = .ok (.ireturn, 1) := by decide +kernel
theorem dX9_force_18 : decode cX9_force 18 = .ok (.aload_n 0, 1) := by decide +kernel
theorem dX9_force_19 : decode cX9_force 19 = .ok (.iload_n 1, 1) := by decide +kernel
theorem dX9_force_20 : decode cX9_force 20 = .ok (.invokevirtual 150, 3) := by decide +kernel
theorem dX9_force_23 : decode cX9_force 23 = .ok (.ifCond .ne 6, 3) := by decide +kernel
theorem dX9_force_26 : decode cX9_force 26 = .ok (.ldc 162, 2) := by decide +kernel
theorem dX9_force_28 : decode cX9_force 28 = .ok (.ireturn, 1) := by decide +kernel
theorem dX9_force_29 : decode cX9_force 29 = .ok (.aload_n 0, 1) := by decide +kernel
theorem dX9_force_30 : decode cX9_force 30 = .ok (.iload_n 1, 1) := by decide +kernel
theorem dX9_force_31 : decode cX9_force 31 = .ok (.iload_n 2, 1) := by decide +kernel
theorem dX9_force_32 : decode cX9_force 32 = .ok (.invokevirtual 133, 3) := by decide +kernel
theorem dX9_force_35 : decode cX9_force 35 = .ok (.istore_n 3, 1) := by decide +kernel
theorem dX9_force_36 : decode cX9_force 36 = .ok (.iload_n 3, 1) := by decide +kernel
theorem dX9_force_37 : decode cX9_force 37 = .ok (.bipush 99, 2) := by decide +kernel
theorem dX9_force_39 : decode cX9_force 39 = .ok (.if_icmp .ge 9, 3) := by decide +kernel
theorem dX9_force_42 : decode cX9_force 42 = .ok (.iload_n 3, 1) := by decide +kernel
theorem dX9_force_43 : decode cX9_force 43 = .ok (.iconst 1, 1) := by decide +kernel
theorem dX9_force_44 : decode cX9_force 44 = .ok (.iadd, 1) := by decide +kernel
theorem dX9_force_45 : decode cX9_force 45 = .ok (.goto 5, 3) := by decide +kernel
theorem dX9_force_48 : decode cX9_force 48 = .ok (.ldc 180, 2) := by decide +kernel
theorem dX9_force_50 : decode cX9_force 50 = .ok (.ireturn, 1) := by decide +kernel
theorem dX9_behind_0 : decode cX9_behind 0 = .ok (.iload_n 1, 1) := by decide +kernel
theorem dX9_behind_1 : decode cX9_behind 1 = .ok (.iconst 0, 1) := by decide +kernel
theorem dX9_behind_2 : decode cX9_behind 2 = .ok (.bipush 100, 2) := by decide +kernel
theorem dX9_behind_4 : decode cX9_behind 4 = .ok (.invokestatic 81, 3) := by decide +kernel
theorem dX9_behind_7 : decode cX9_behind 7 = .ok (.ifCond .eq 19, 3) := by decide +kernel
theorem dX9_behind_10 : decode cX9_behind 10 = .ok (.iload_n 2, 1) := by decide +kernel
theorem dX9_behind_11 : decode cX9_behind 11 = .ok (.iconst 0, 1) := by decide +kernel
theorem dX9_behind_12 : decode cX9_behind 12 = .ok (.iconst 2, 1) := by decide +kernel
theorem dX9_behind_13 : decode cX9_behind 13 = .ok (.aload_n 0, 1) := by decide +kernel
theorem dX9_behind_14 : decode cX9_behind 14 = .ok (.getfield 9, 3) := by decide +kernel
theorem dX9_behind_17 : decode cX9_behind 17 = .ok (.iconst 1, 1) := by decide +kernel
theorem dX9_behind_18 : decode cX9_behind 18 = .ok (.iaload, 1) := by decide +kernel
theorem dX9_behind_19 : decode cX9_behind 19 = .ok (.iadd, 1) := by decide +kernel
theorem dX9_behind_20 : decode cX9_behind 20 = .ok (.invokestatic 81, 3) := by decide +kernel
theorem dX9_behind_23 : decode cX9_behind 23 = .ok (.ifCond .ne 6, 3) := by decide +kernel
theorem dX9_behind_26 : decode cX9_behind 26 = .ok (.ldc 121, 2) := by decide +kernel
theorem dX9_behind_28 : decode cX9_behind 28 = .ok (.ireturn, 1) := by decide +kernel
theorem dX9_behind_29 : decode cX9_behind 29 = .ok (.aload_n 0, 1) := by decide +kernel
theorem dX9_behind_30 : decode cX9_behind 30 = .ok (.invokevirtual 195, 3) := by decide +kernel
theorem dX9_behind_33 : decode cX9_behind 33 = .ok (.aload_n 0, 1) := by decide +kernel
theorem dX9_behind_34 : decode cX9_behind 34 = .ok (.iload_n 1, 1) := by decide +kernel
theorem dX9_behind_35 : decode cX9_behind 35 = .ok (.invokevirtual 173, 3) := by decide +kernel
theorem dX9_behind_38 : decode cX9_behind 38 = .ok (.iload_n 2, 1) := by decide +kernel
theorem dX9_behind_39 : decode cX9_behind 39 = .ok (.iconst 2, 1) := by decide +kernel
theorem dX9_behind_40 : decode cX9_behind 40 = .ok (.if_icmp .ge 14, 3) := by decide +kernel
theorem dX9_behind_43 : decode cX9_behind 43 = .ok (.aload_n 0, 1) := by decide +kernel
theorem dX9_behind_44 : decode cX9_behind 44 = .ok (.getfield 9, 3) := by decide +kernel
theorem dX9_behind_47 : decode cX9_behind 47 = .ok (.iconst 3, 1) := by decide +kernel
theorem dX9_behind_48 : decode cX9_behind 48 = .ok (.iload_n 2, 1) := by decide +kernel
theorem dX9_behind_49 : decode cX9_behind 49 = .ok (.iadd, 1) := by decide +kernel
theorem dX9_behind_50 : decode cX9_behind 50 = .ok (.iaload, 1) := by decide +kernel
theorem dX9_behind_51 : decode cX9_behind 51 = .ok (.goto 26, 3) := by decide +kernel
theorem dX9_behind_54 : decode cX9_behind 54 = .ok (.iload_n 2, 1) := by decide +kernel
theorem dX9_behind_55 : decode cX9_behind 55 = .ok (.iconst 2, 1) := by decide +kernel
theorem dX9_behind_56 : decode cX9_behind 56 = .ok (.if_icmp .ne 13, 3) := by decide +kernel
theorem dX9_behind_59 : decode cX9_behind 59 = .ok (.aload_n 0, 1) := by decide +kernel
theorem dX9_behind_60 : decode cX9_behind 60 = .ok (.invokevirtual 97, 3) := by decide +kernel
theorem dX9_behind_63 : decode cX9_behind 63 = .ok (.invokestatic 101, 3) := by decide +kernel
theorem dX9_behind_66 : decode cX9_behind 66 = .ok (.goto 11, 3) := by decide +kernel
theorem dX9_behind_69 : decode cX9_behind 69 = .ok (.aload_n 0, 1) := by decide +kernel
theorem dX9_behind_70 : decode cX9_behind 70 = .ok (.iload_n 2, 1) := by decide +kernel
theorem dX9_behind_71 : decode cX9_behind 71 = .ok (.iconst 3, 1) := by decide +kernel
theorem dX9_behind_72 : decode cX9_behind 72 = .ok (.isub, 1) := by decide +kernel
theorem dX9_behind_73 : decode cX9_behind 73 = .ok (.iconst 4, 1) := by decide +kernel
theorem dX9_behind_74 : decode cX9_behind 74 = .ok (.invokevirtual 89, 3) := by decide +kernel
theorem dX9_behind_77 : decode cX9_behind 77 = .ok (.istore_n 3, 1) := by decide +kernel
theorem dX9_behind_78 : decode cX9_behind 78 = .ok (.aload_n 0, 1) := by decide +kernel
theorem dX9_behind_79 : decode cX9_behind 79 = .ok (.invokevirtual 201, 3) := by decide +kernel
theorem dX9_behind_82 : decode cX9_behind 82 = .ok (.iload_n 3, 1) := by decide +kernel
theorem dX9_behind_83 : decode cX9_behind 83 = .ok (.ireturn, 1) := by decide +kernel
theorem dX9_falls_0 : decode cX9_falls 0 = .ok (.aload_n 0, 1) := by decide +kernel
theorem dX9_falls_1 : decode cX9_falls 1 = .ok (.iload_n 1, 1) := by decide +kernel
theorem dX9_falls_2 : decode cX9_falls 2 = .ok (.invokevirtual 85, 3) := by decide +kernel
theorem dX9_falls_5 : decode cX9_falls 5 = .ok (.ifCond .ne 6, 3) := by decide +kernel
theorem dX9_falls_8 : decode cX9_falls 8 = .ok (.ldc 121, 2) := by decide +kernel
theorem dX9_falls_10 : decode cX9_falls 10 = .ok (.ireturn, 1) := by decide +kernel
theorem dX9_falls_11 : decode cX9_falls 11 = .ok (.aload_n 0, 1) := by decide +kernel
theorem dX9_falls_12 : decode cX9_falls 12 = .ok (.invokevirtual 195, 3) := by decide +kernel
theorem dX9_falls_15 : decode cX9_falls 15 = .ok (.aload_n 0, 1) := by decide +kernel
theorem dX9_falls_16 : decode cX9_falls 16 = .ok (.iload_n 1, 1) := by decide +kernel
theorem dX9_falls_17 : decode cX9_falls 17 = .ok (.iconst 4, 1) := by decide +kernel
theorem dX9_falls_18 : decode cX9_falls 18 = .ok (.invokevirtual 89, 3) := by decide +kernel
theorem dX9_falls_21 : decode cX9_falls 21 = .ok (.istore_n 2, 1) := by decide +kernel
theorem dX9_falls_22 : decode cX9_falls 22 = .ok (.iconst 0, 1) := by decide +kernel
theorem dX9_falls_23 : decode cX9_falls 23 = .ok (.istore_n 3, 1) := by decide +kernel
theorem dX9_falls_24 : decode cX9_falls 24 = .ok (.iload_n 3, 1) := by decide +kernel
theorem dX9_falls_25 : decode cX9_falls 25 = .ok (.sipush 200, 3) := by decide +kernel
theorem dX9_falls_28 : decode cX9_falls 28 = .ok (.if_icmp .gt 23, 3) := by decide +kernel
theorem dX9_falls_31 : decode cX9_falls 31 = .ok (.aload_n 0, 1) := by decide +kernel
theorem dX9_falls_32 : decode cX9_falls 32 = .ok (.iload_n 1, 1) := by decide +kernel
theorem dX9_falls_33 : decode cX9_falls 33 = .ok (.iconst 4, 1) := by decide +kernel
theorem dX9_falls_34 : decode cX9_falls 34 = .ok (.invokevirtual 89, 3) := by decide +kernel
theorem dX9_falls_37 : decode cX9_falls 37 = .ok (.iload_n 2, 1) := by decide +kernel
theorem dX9_falls_38 : decode cX9_falls 38 = .ok (.if_icmp .ne 13, 3) := by decide +kernel
theorem dX9_falls_41 : decode cX9_falls 41 = .ok (.aload_n 0, 1) := by decide +kernel
theorem dX9_falls_42 : decode cX9_falls 42 = .ok (.invokevirtual 170, 3) := by decide +kernel
theorem dX9_falls_45 : decode cX9_falls 45 = .ok (.iinc 3 1, 3) := by decide +kernel
theorem dX9_falls_48 : decode cX9_falls 48 = .ok (.goto (-24), 3) := by decide +kernel
theorem dX9_falls_51 : decode cX9_falls 51 = .ok (.aload_n 0, 1) := by decide +kernel
theorem dX9_falls_52 : decode cX9_falls 52 = .ok (.invokevirtual 201, 3) := by decide +kernel
theorem dX9_falls_55 : decode cX9_falls 55 = .ok (.iload_n 3, 1) := by decide +kernel
theorem dX9_falls_56 : decode cX9_falls 56 = .ok (.sipush 200, 3) := by decide +kernel
theorem dX9_falls_59 : decode cX9_falls 59 = .ok (.if_icmp .le 8, 3) := by decide +kernel
theorem dX9_falls_62 : decode cX9_falls 62 = .ok (.ldc 180, 2) := by decide +kernel
theorem dX9_falls_64 : decode cX9_falls 64 = .ok (.goto 4, 3) := by decide +kernel
theorem dX9_falls_67 : decode cX9_falls 67 = .ok (.iload_n 3, 1) := by decide +kernel
theorem dX9_falls_68 : decode cX9_falls 68 = .ok (.ireturn, 1) := by decide +kernel
theorem dX9_becomes_0 : decode cX9_becomes 0 = .ok (.aload_n 0, 1) := by decide +kernel
theorem dX9_becomes_1 : decode cX9_becomes 1 = .ok (.iload_n 1, 1) := by decide +kernel
theorem dX9_becomes_2 : decode cX9_becomes 2 = .ok (.invokevirtual 85, 3) := by decide +kernel
theorem dX9_becomes_5 : decode cX9_becomes 5 = .ok (.ifCond .eq 22, 3) := by decide +kernel
theorem dX9_becomes_8 : decode cX9_becomes 8 = .ok (.iload_n 2, 1) := by decide +kernel
theorem dX9_becomes_9 : decode cX9_becomes 9 = .ok (.iconst 1, 1) := by decide +kernel
theorem dX9_becomes_10 : decode cX9_becomes 10 = .ok (.bipush 60, 2) := by decide +kernel
theorem dX9_becomes_12 : decode cX9_becomes 12 = .ok (.invokestatic 81, 3) := by decide +kernel
theorem dX9_becomes_15 : decode cX9_becomes 15 = .ok (.ifCond .eq 12, 3) := by decide +kernel
theorem dX9_becomes_18 : decode cX9_becomes 18 = .ok (.iload_n 3, 1) := by decide +kernel
theorem dX9_becomes_19 : decode cX9_becomes 19 = .ok (.iconst 0, 1) := by decide +kernel
theorem dX9_becomes_20 : decode cX9_becomes 20 = .ok (.iconst 1, 1) := by decide +kernel
theorem dX9_becomes_21 : decode cX9_becomes 21 = .ok (.invokestatic 81, 3) := by decide +kernel
theorem dX9_becomes_24 : decode cX9_becomes 24 = .ok (.ifCond .ne 6, 3) := by decide +kernel
theorem dX9_becomes_27 : decode cX9_becomes 27 = .ok (.ldc 121, 2) := by decide +kernel
theorem dX9_becomes_29 : decode cX9_becomes 29 = .ok (.ireturn, 1) := by decide +kernel
theorem dX9_becomes_30 : decode cX9_becomes 30 = .ok (.aload_n 0, 1) := by decide +kernel
theorem dX9_becomes_31 : decode cX9_becomes 31 = .ok (.invokevirtual 195, 3) := by decide +kernel
theorem dX9_becomes_34 : decode cX9_becomes 34 = .ok (.iconst (-1), 1) := by decide +kernel
theorem dX9_becomes_35 : decode cX9_becomes 35 = .ok (.istore 4, 2) := by decide +kernel
theorem dX9_becomes_37 : decode cX9_becomes 37 = .ok (.iconst 0, 1) := by decide +kernel
theorem dX9_becomes_38 : decode cX9_becomes 38 = .ok (.istore 5, 2) := by decide +kernel
theorem dX9_becomes_40 : decode cX9_becomes 40 = .ok (.iconst 0, 1) := by decide +kernel
theorem dX9_becomes_41 : decode cX9_becomes 41 = .ok (.istore 6, 2) := by decide +kernel
theorem dX9_becomes_43 : decode cX9_becomes 43 = .ok (.iload 6, 2) := by decide +kernel
theorem dX9_becomes_45 : decode cX9_becomes 45 = .ok (.iconst 5, 1) := by decide +kernel
theorem dX9_becomes_46 : decode cX9_becomes 46 = .ok (.if_icmp .gt 81, 3) := by decide +kernel
theorem dX9_becomes_49 : decode cX9_becomes 49 = .ok (.aload_n 0, 1) := by decide +kernel
theorem dX9_becomes_50 : decode cX9_becomes 50 = .ok (.iload_n 1, 1) := by decide +kernel
theorem dX9_becomes_51 : decode cX9_becomes 51 = .ok (.iconst 0, 1) := by decide +kernel
theorem dX9_becomes_52 : decode cX9_becomes 52 = .ok (.iload 6, 2) := by decide +kernel
theorem dX9_becomes_54 : decode cX9_becomes 54 = .ok (.invokevirtual 114, 3) := by decide +kernel
theorem dX9_becomes_57 : decode cX9_becomes 57 = .ok (.aload_n 0, 1) := by decide +kernel
theorem dX9_becomes_58 : decode cX9_becomes 58 = .ok (.iload_n 2, 1) := by decide +kernel
theorem dX9_becomes_59 : decode cX9_becomes 59 = .ok (.invokevirtual 173, 3) := by decide +kernel
theorem dX9_becomes_62 : decode cX9_becomes 62 = .ok (.iload 4, 2) := by decide +kernel
theorem dX9_becomes_64 : decode cX9_becomes 64 = .ok (.ifCond .lt 14, 3) := by decide +kernel
theorem dX9_becomes_67 : decode cX9_becomes 67 = .ok (.aload_n 0, 1) := by decide +kernel
theorem dX9_becomes_68 : decode cX9_becomes 68 = .ok (.iload_n 1, 1) := by decide +kernel
theorem dX9_becomes_69 : decode cX9_becomes 69 = .ok (.iconst 4, 1) := by decide +kernel
theorem dX9_becomes_70 : decode cX9_becomes 70 = .ok (.invokevirtual 89, 3) := by decide +kernel
theorem dX9_becomes_73 : decode cX9_becomes 73 = .ok (.iload 5, 2) := by decide +kernel
theorem dX9_becomes_75 : decode cX9_becomes 75 = .ok (.if_icmp .ge 7, 3) := by decide +kernel
theorem dX9_becomes_78 : decode cX9_becomes 78 = .ok (.iconst 1, 1) := by decide +kernel
theorem dX9_becomes_79 : decode cX9_becomes 79 = .ok (.goto 4, 3) := by decide +kernel
theorem dX9_becomes_82 : decode cX9_becomes 82 = .ok (.iconst 0, 1) := by decide +kernel
theorem dX9_becomes_83 : decode cX9_becomes 83 = .ok (.istore 7, 2) := by decide +kernel
theorem dX9_becomes_85 : decode cX9_becomes 85 = .ok (.iload 7, 2) := by decide +kernel
theorem dX9_becomes_87 : decode cX9_becomes 87 = .ok (.ifCond .eq 8, 3) := by decide +kernel
theorem dX9_becomes_90 : decode cX9_becomes 90 = .ok (.iload 6, 2) := by decide +kernel
theorem dX9_becomes_92 : decode cX9_becomes 92 = .ok (.goto 5, 3) := by decide +kernel
theorem dX9_becomes_95 : decode cX9_becomes 95 = .ok (.iload 4, 2) := by decide +kernel
theorem dX9_becomes_97 : decode cX9_becomes 97 = .ok (.istore 4, 2) := by decide +kernel
theorem dX9_becomes_99 : decode cX9_becomes 99 = .ok (.iload 7, 2) := by decide +kernel
theorem dX9_becomes_101 : decode cX9_becomes 101 = .ok (.ifCond .eq 12, 3) := by decide +kernel
theorem dX9_becomes_104 : decode cX9_becomes 104 = .ok (.aload_n 0, 1) := by decide +kernel
theorem dX9_becomes_105 : decode cX9_becomes 105 = .ok (.iload_n 1, 1) := by decide +kernel
theorem dX9_becomes_106 : decode cX9_becomes 106 = .ok (.iconst 4, 1) := by decide +kernel
theorem dX9_becomes_107 : decode cX9_becomes 107 = .ok (.invokevirtual 89, 3) := by decide +kernel
theorem dX9_becomes_110 : decode cX9_becomes 110 = .ok (.goto 5, 3) := by decide +kernel
theorem dX9_becomes_113 : decode cX9_becomes 113 = .ok (.iload 5, 2) := by decide +kernel
theorem dX9_becomes_115 : decode cX9_becomes 115 = .ok (.istore 5, 2) := by decide +kernel
theorem dX9_becomes_117 : decode cX9_becomes 117 = .ok (.aload_n 0, 1) := by decide +kernel
theorem dX9_becomes_118 : decode cX9_becomes 118 = .ok (.invokevirtual 201, 3) := by decide +kernel
theorem dX9_becomes_121 : decode cX9_becomes 121 = .ok (.iinc 6 1, 3) := by decide +kernel
theorem dX9_becomes_124 : decode cX9_becomes 124 = .ok (.goto (-81), 3) := by decide +kernel
theorem dX9_becomes_127 : decode cX9_becomes 127 = .ok (.iload_n 3, 1) := by decide +kernel
theorem dX9_becomes_128 : decode cX9_becomes 128 = .ok (.ifCond .ne 8, 3) := by decide +kernel
theorem dX9_becomes_131 : decode cX9_becomes 131 = .ok (.iload 4, 2) := by decide +kernel
theorem dX9_becomes_133 : decode cX9_becomes 133 = .ok (.goto 5, 3) := by decide +kernel
theorem dX9_becomes_136 : decode cX9_becomes 136 = .ok (.iload 5, 2) := by decide +kernel
theorem dX9_becomes_138 : decode cX9_becomes 138 = .ok (.ireturn, 1) := by decide +kernel
theorem dX9_like_0 : decode cX9_like 0 = .ok (.iload_n 1, 1) := by decide +kernel
theorem dX9_like_1 : decode cX9_like 1 = .ok (.invokestatic 211, 3) := by decide +kernel
theorem dX9_like_4 : decode cX9_like 4 = .ok (.ifCond .eq 12, 3) := by decide +kernel
theorem dX9_like_7 : decode cX9_like 7 = .ok (.iload_n 2, 1) := by decide +kernel
theorem dX9_like_8 : decode cX9_like 8 = .ok (.iconst 0, 1) := by decide +kernel
theorem dX9_like_9 : decode cX9_like 9 = .ok (.iconst 1, 1) := by decide +kernel
theorem dX9_like_10 : decode cX9_like 10 = .ok (.invokestatic 81, 3) := by decide +kernel
theorem dX9_like_13 : decode cX9_like 13 = .ok (.ifCond .ne 6, 3) := by decide +kernel
theorem dX9_like_16 : decode cX9_like 16 = .ok (.ldc 121, 2) := by decide +kernel
theorem dX9_like_18 : decode cX9_like 18 = .ok (.ireturn, 1) := by decide +kernel
theorem dX9_like_19 : decode cX9_like 19 = .ok (.aload_n 0, 1) := by decide +kernel
theorem dX9_like_20 : decode cX9_like 20 = .ok (.getfield 54, 3) := by decide +kernel
theorem dX9_like_23 : decode cX9_like 23 = .ok (.iload_n 1, 1) := by decide +kernel
theorem dX9_like_24 : decode cX9_like 24 = .ok (.iaload, 1) := by decide +kernel
theorem dX9_like_25 : decode cX9_like 25 = .ok (.ifCond .ge 6, 3) := by decide +kernel
theorem dX9_like_28 : decode cX9_like 28 = .ok (.ldc 214, 2) := by decide +kernel
theorem dX9_like_30 : decode cX9_like 30 = .ok (.ireturn, 1) := by decide +kernel
theorem dX9_like_31 : decode cX9_like 31 = .ok (.aload_n 0, 1) := by decide +kernel
theorem dX9_like_32 : decode cX9_like 32 = .ok (.invokevirtual 195, 3) := by decide +kernel
theorem dX9_like_35 : decode cX9_like 35 = .ok (.aload_n 0, 1) := by decide +kernel
theorem dX9_like_36 : decode cX9_like 36 = .ok (.getfield 9, 3) := by decide +kernel
theorem dX9_like_39 : decode cX9_like 39 = .ok (.iconst 1, 1) := by decide +kernel
theorem dX9_like_40 : decode cX9_like 40 = .ok (.iaload, 1) := by decide +kernel
theorem dX9_like_41 : decode cX9_like 41 = .ok (.istore_n 3, 1) := by decide +kernel
theorem dX9_like_42 : decode cX9_like 42 = .ok (.iconst 0, 1) := by decide +kernel
theorem dX9_like_43 : decode cX9_like 43 = .ok (.istore 4, 2) := by decide +kernel
theorem dX9_like_45 : decode cX9_like 45 = .ok (.iload 4, 2) := by decide +kernel
theorem dX9_like_47 : decode cX9_like 47 = .ok (.iload_n 3, 1) := by decide +kernel
theorem dX9_like_48 : decode cX9_like 48 = .ok (.if_icmp .ge 17, 3) := by decide +kernel
theorem dX9_like_51 : decode cX9_like 51 = .ok (.aload_n 0, 1) := by decide +kernel
theorem dX9_like_52 : decode cX9_like 52 = .ok (.getfield 25, 3) := by decide +kernel
theorem dX9_like_55 : decode cX9_like 55 = .ok (.iload 4, 2) := by decide +kernel
theorem dX9_like_57 : decode cX9_like 57 = .ok (.iconst 0, 1) := by decide +kernel
theorem dX9_like_58 : decode cX9_like 58 = .ok (.iastore, 1) := by decide +kernel
theorem dX9_like_59 : decode cX9_like 59 = .ok (.iinc 4 1, 3) := by decide +kernel
theorem dX9_like_62 : decode cX9_like 62 = .ok (.goto (-17), 3) := by decide +kernel
theorem dX9_like_65 : decode cX9_like 65 = .ok (.iconst 0, 1) := by decide +kernel
theorem dX9_like_66 : decode cX9_like 66 = .ok (.istore 4, 2) := by decide +kernel
theorem dX9_like_68 : decode cX9_like 68 = .ok (.iload 4, 2) := by decide +kernel
theorem dX9_like_70 : decode cX9_like 70 = .ok (.aload_n 0, 1) := by decide +kernel
theorem dX9_like_71 : decode cX9_like 71 = .ok (.getfield 57, 3) := by decide +kernel
theorem dX9_like_74 : decode cX9_like 74 = .ok (.iload_n 1, 1) := by decide +kernel
theorem dX9_like_75 : decode cX9_like 75 = .ok (.iaload, 1) := by decide +kernel
theorem dX9_like_76 : decode cX9_like 76 = .ok (.if_icmp .ge 72, 3) := by decide +kernel
theorem dX9_like_79 : decode cX9_like 79 = .ok (.aload_n 0, 1) := by decide +kernel
theorem dX9_like_80 : decode cX9_like 80 = .ok (.getfield 60, 3) := by decide +kernel
theorem dX9_like_83 : decode cX9_like 83 = .ok (.bipush 24, 2) := by decide +kernel
theorem dX9_like_85 : decode cX9_like 85 = .ok (.iload_n 1, 1) := by decide +kernel
theorem dX9_like_86 : decode cX9_like 86 = .ok (.imul, 1) := by decide +kernel
theorem dX9_like_87 : decode cX9_like 87 = .ok (.iload 4, 2) := by decide +kernel
theorem dX9_like_89 : decode cX9_like 89 = .ok (.iadd, 1) := by decide +kernel
theorem dX9_like_90 : decode cX9_like 90 = .ok (.iaload, 1) := by decide +kernel
theorem dX9_like_91 : decode cX9_like 91 = .ok (.istore 5, 2) := by decide +kernel
theorem dX9_like_93 : decode cX9_like 93 = .ok (.iconst 0, 1) := by decide +kernel
theorem dX9_like_94 : decode cX9_like 94 = .ok (.istore 6, 2) := by decide +kernel
theorem dX9_like_96 : decode cX9_like 96 = .ok (.iload 6, 2) := by decide +kernel
theorem dX9_like_98 : decode cX9_like 98 = .ok (.iload_n 3, 1) := by decide +kernel
theorem dX9_like_99 : decode cX9_like 99 = .ok (.if_icmp .ge 39, 3) := by decide +kernel
theorem dX9_like_102 : decode cX9_like 102 = .ok (.iload 5, 2) := by decide +kernel
theorem dX9_like_104 : decode cX9_like 104 = .ok (.ldc 180, 2) := by decide +kernel
theorem dX9_like_106 : decode cX9_like 106 = .ok (.if_icmp .eq 32, 3) := by decide +kernel
theorem dX9_like_109 : decode cX9_like 109 = .ok (.aload_n 0, 1) := by decide +kernel
theorem dX9_like_110 : decode cX9_like 110 = .ok (.getfield 25, 3) := by decide +kernel
theorem dX9_like_113 : decode cX9_like 113 = .ok (.iload 6, 2) := by decide +kernel
theorem dX9_like_115 : decode cX9_like 115 = .ok (.dup2, 1) := by decide +kernel
theorem dX9_like_116 : decode cX9_like 116 = .ok (.iaload, 1) := by decide +kernel
theorem dX9_like_117 : decode cX9_like 117 = .ok (.iload 5, 2) := by decide +kernel
theorem dX9_like_119 : decode cX9_like 119 = .ok (.aload_n 0, 1) := by decide +kernel
theorem dX9_like_120 : decode cX9_like 120 = .ok (.iload 6, 2) := by decide +kernel
theorem dX9_like_122 : decode cX9_like 122 = .ok (.iconst 1, 1) := by decide +kernel
theorem dX9_like_123 : decode cX9_like 123 = .ok (.invokevirtual 89, 3) := by decide +kernel
theorem dX9_like_126 : decode cX9_like 126 = .ok (.isub, 1) := by decide +kernel
theorem dX9_like_127 : decode cX9_like 127 = .ok (.invokestatic 215, 3) := by decide +kernel
theorem dX9_like_130 : decode cX9_like 130 = .ok (.iadd, 1) := by decide +kernel
theorem dX9_like_131 : decode cX9_like 131 = .ok (.iastore, 1) := by decide +kernel
theorem dX9_like_132 : decode cX9_like 132 = .ok (.iinc 6 1, 3) := by decide +kernel
theorem dX9_like_135 : decode cX9_like 135 = .ok (.goto (-39), 3) := by decide +kernel
theorem dX9_like_138 : decode cX9_like 138 = .ok (.aload_n 0, 1) := by decide +kernel
theorem dX9_like_139 : decode cX9_like 139 = .ok (.invokevirtual 170, 3) := by decide +kernel
theorem dX9_like_142 : decode cX9_like 142 = .ok (.iinc 4 1, 3) := by decide +kernel
theorem dX9_like_145 : decode cX9_like 145 = .ok (.goto (-77), 3) := by decide +kernel
theorem dX9_like_148 : decode cX9_like 148 = .ok (.aload_n 0, 1) := by decide +kernel
theorem dX9_like_149 : decode cX9_like 149 = .ok (.invokevirtual 201, 3) := by decide +kernel
theorem dX9_like_152 : decode cX9_like 152 = .ok (.iconst 0, 1) := by decide +kernel
theorem dX9_like_153 : decode cX9_like 153 = .ok (.istore 4, 2) := by decide +kernel
theorem dX9_like_155 : decode cX9_like 155 = .ok (.iconst 1, 1) := by decide +kernel
theorem dX9_like_156 : decode cX9_like 156 = .ok (.istore 5, 2) := by decide +kernel
theorem dX9_like_158 : decode cX9_like 158 = .ok (.iload 5, 2) := by decide +kernel
theorem dX9_like_160 : decode cX9_like 160 = .ok (.iload_n 3, 1) := by decide +kernel
theorem dX9_like_161 : decode cX9_like 161 = .ok (.if_icmp .ge 35, 3) := by decide +kernel
theorem dX9_like_164 : decode cX9_like 164 = .ok (.aload_n 0, 1) := by decide +kernel
theorem dX9_like_165 : decode cX9_like 165 = .ok (.getfield 25, 3) := by decide +kernel
theorem dX9_like_168 : decode cX9_like 168 = .ok (.iload 5, 2) := by decide +kernel
theorem dX9_like_170 : decode cX9_like 170 = .ok (.iaload, 1) := by decide +kernel
theorem dX9_like_171 : decode cX9_like 171 = .ok (.aload_n 0, 1) := by decide +kernel
theorem dX9_like_172 : decode cX9_like 172 = .ok (.getfield 25, 3) := by decide +kernel
theorem dX9_like_175 : decode cX9_like 175 = .ok (.iload 4, 2) := by decide +kernel
theorem dX9_like_177 : decode cX9_like 177 = .ok (.iaload, 1) := by decide +kernel
theorem dX9_like_178 : decode cX9_like 178 = .ok (.if_icmp .ge 8, 3) := by decide +kernel
theorem dX9_like_181 : decode cX9_like 181 = .ok (.iload 5, 2) := by decide +kernel
theorem dX9_like_183 : decode cX9_like 183 = .ok (.goto 5, 3) := by decide +kernel
theorem dX9_like_186 : decode cX9_like 186 = .ok (.iload 4, 2) := by decide +kernel
theorem dX9_like_188 : decode cX9_like 188 = .ok (.istore 4, 2) := by decide +kernel
theorem dX9_like_190 : decode cX9_like 190 = .ok (.iinc 5 1, 3) := by decide +kernel
theorem dX9_like_193 : decode cX9_like 193 = .ok (.goto (-35), 3) := by decide +kernel
theorem dX9_like_196 : decode cX9_like 196 = .ok (.iload_n 3, 1) := by decide +kernel
theorem dX9_like_197 : decode cX9_like 197 = .ok (.ifCond .ne 8, 3) := by decide +kernel
theorem dX9_like_200 : decode cX9_like 200 = .ok (.ldc 180, 2) := by decide +kernel
theorem dX9_like_202 : decode cX9_like 202 = .ok (.goto 19, 3) := by decide +kernel
theorem dX9_like_205 : decode cX9_like 205 = .ok (.iload_n 2, 1) := by decide +kernel
theorem dX9_like_206 : decode cX9_like 206 = .ok (.ifCond .ne 8, 3) := by decide +kernel
theorem dX9_like_209 : decode cX9_like 209 = .ok (.iload 4, 2) := by decide +kernel
theorem dX9_like_211 : decode cX9_like 211 = .ok (.goto 10, 3) := by decide +kernel
theorem dX9_like_214 : decode cX9_like 214 = .ok (.aload_n 0, 1) := by decide +kernel
theorem dX9_like_215 : decode cX9_like 215 = .ok (.getfield 25, 3) := by decide +kernel
theorem dX9_like_218 : decode cX9_like 218 = .ok (.iload 4, 2) := by decide +kernel
theorem dX9_like_220 : decode cX9_like 220 = .ok (.iaload, 1) := by decide +kernel
theorem dX9_like_221 : decode cX9_like 221 = .ok (.ireturn, 1) := by decide +kernel
theorem dX9_fee_0 : decode cX9_fee 0 = .ok (.aload_n 0, 1) := by decide +kernel
theorem dX9_fee_1 : decode cX9_fee 1 = .ok (.iconst 1, 1) := by decide +kernel
theorem dX9_fee_2 : decode cX9_fee 2 = .ok (.invokevirtual 93, 3) := by decide +kernel
theorem dX9_fee_5 : decode cX9_fee 5 = .ok (.istore_n 1, 1) := by decide +kernel
theorem dX9_fee_6 : decode cX9_fee 6 = .ok (.aload_n 0, 1) := by decide +kernel
theorem dX9_fee_7 : decode cX9_fee 7 = .ok (.getfield 51, 3) := by decide +kernel
theorem dX9_fee_10 : decode cX9_fee 10 = .ok (.iconst 0, 1) := by decide +kernel
theorem dX9_fee_11 : decode cX9_fee 11 = .ok (.aload_n 0, 1) := by decide +kernel
theorem dX9_fee_12 : decode cX9_fee 12 = .ok (.getfield 9, 3) := by decide +kernel
theorem dX9_fee_15 : decode cX9_fee 15 = .ok (.iconst 3, 1) := by decide +kernel
theorem dX9_fee_16 : decode cX9_fee 16 = .ok (.iaload, 1) := by decide +kernel
theorem dX9_fee_17 : decode cX9_fee 17 = .ok (.iastore, 1) := by decide +kernel
theorem dX9_fee_18 : decode cX9_fee 18 = .ok (.aload_n 0, 1) := by decide +kernel
theorem dX9_fee_19 : decode cX9_fee 19 = .ok (.getfield 51, 3) := by decide +kernel
theorem dX9_fee_22 : decode cX9_fee 22 = .ok (.iconst 1, 1) := by decide +kernel
theorem dX9_fee_23 : decode cX9_fee 23 = .ok (.aload_n 0, 1) := by decide +kernel
theorem dX9_fee_24 : decode cX9_fee 24 = .ok (.getfield 9, 3) := by decide +kernel
theorem dX9_fee_27 : decode cX9_fee 27 = .ok (.iconst 4, 1) := by decide +kernel
theorem dX9_fee_28 : decode cX9_fee 28 = .ok (.iaload, 1) := by decide +kernel
theorem dX9_fee_29 : decode cX9_fee 29 = .ok (.iastore, 1) := by decide +kernel
theorem dX9_fee_30 : decode cX9_fee 30 = .ok (.iload_n 1, 1) := by decide +kernel
theorem dX9_fee_31 : decode cX9_fee 31 = .ok (.ifCond .ge 12, 3) := by decide +kernel
theorem dX9_fee_34 : decode cX9_fee 34 = .ok (.aload_n 0, 1) := by decide +kernel
theorem dX9_fee_35 : decode cX9_fee 35 = .ok (.getfield 9, 3) := by decide +kernel
theorem dX9_fee_38 : decode cX9_fee 38 = .ok (.iconst 3, 1) := by decide +kernel
theorem dX9_fee_39 : decode cX9_fee 39 = .ok (.iaload, 1) := by decide +kernel
theorem dX9_fee_40 : decode cX9_fee 40 = .ok (.goto 8, 3) := by decide +kernel
theorem dX9_fee_43 : decode cX9_fee 43 = .ok (.aload_n 0, 1) := by decide +kernel
theorem dX9_fee_44 : decode cX9_fee 44 = .ok (.iload_n 1, 1) := by decide +kernel
theorem dX9_fee_45 : decode cX9_fee 45 = .ok (.invokevirtual 104, 3) := by decide +kernel
theorem dX9_fee_48 : decode cX9_fee 48 = .ok (.ireturn, 1) := by decide +kernel
theorem dX9_fine_0 : decode cX9_fine 0 = .ok (.aload_n 0, 1) := by decide +kernel
theorem dX9_fine_1 : decode cX9_fine 1 = .ok (.iload_n 1, 1) := by decide +kernel
theorem dX9_fine_2 : decode cX9_fine 2 = .ok (.invokevirtual 85, 3) := by decide +kernel
theorem dX9_fine_5 : decode cX9_fine 5 = .ok (.ifCond .ne 6, 3) := by decide +kernel
theorem dX9_fine_8 : decode cX9_fine 8 = .ok (.ldc 121, 2) := by decide +kernel
theorem dX9_fine_10 : decode cX9_fine 10 = .ok (.ireturn, 1) := by decide +kernel
theorem dX9_fine_11 : decode cX9_fine 11 = .ok (.aload_n 0, 1) := by decide +kernel
theorem dX9_fine_12 : decode cX9_fine 12 = .ok (.iconst 2, 1) := by decide +kernel
theorem dX9_fine_13 : decode cX9_fine 13 = .ok (.invokevirtual 93, 3) := by decide +kernel
theorem dX9_fine_16 : decode cX9_fine 16 = .ok (.istore_n 2, 1) := by decide +kernel
theorem dX9_fine_17 : decode cX9_fine 17 = .ok (.aload_n 0, 1) := by decide +kernel
theorem dX9_fine_18 : decode cX9_fine 18 = .ok (.getfield 51, 3) := by decide +kernel
theorem dX9_fine_21 : decode cX9_fine 21 = .ok (.iconst 0, 1) := by decide +kernel
theorem dX9_fine_22 : decode cX9_fine 22 = .ok (.aload_n 0, 1) := by decide +kernel
theorem dX9_fine_23 : decode cX9_fine 23 = .ok (.iload_n 1, 1) := by decide +kernel
theorem dX9_fine_24 : decode cX9_fine 24 = .ok (.iconst 1, 1) := by decide +kernel
theorem dX9_fine_25 : decode cX9_fine 25 = .ok (.invokevirtual 89, 3) := by decide +kernel
theorem dX9_fine_28 : decode cX9_fine 28 = .ok (.iastore, 1) := by decide +kernel
theorem dX9_fine_29 : decode cX9_fine 29 = .ok (.aload_n 0, 1) := by decide +kernel
theorem dX9_fine_30 : decode cX9_fine 30 = .ok (.getfield 51, 3) := by decide +kernel
theorem dX9_fine_33 : decode cX9_fine 33 = .ok (.iconst 1, 1) := by decide +kernel
theorem dX9_fine_34 : decode cX9_fine 34 = .ok (.aload_n 0, 1) := by decide +kernel
theorem dX9_fine_35 : decode cX9_fine 35 = .ok (.iload_n 1, 1) := by decide +kernel
theorem dX9_fine_36 : decode cX9_fine 36 = .ok (.iconst 2, 1) := by decide +kernel
theorem dX9_fine_37 : decode cX9_fine 37 = .ok (.invokevirtual 89, 3) := by decide +kernel
theorem dX9_fine_40 : decode cX9_fine 40 = .ok (.iastore, 1) := by decide +kernel
theorem dX9_fine_41 : decode cX9_fine 41 = .ok (.iload_n 2, 1) := by decide +kernel
theorem dX9_fine_42 : decode cX9_fine 42 = .ok (.ifCond .ge 12, 3) := by decide +kernel
theorem dX9_fine_45 : decode cX9_fine 45 = .ok (.aload_n 0, 1) := by decide +kernel
theorem dX9_fine_46 : decode cX9_fine 46 = .ok (.iload_n 1, 1) := by decide +kernel
theorem dX9_fine_47 : decode cX9_fine 47 = .ok (.iconst 1, 1) := by decide +kernel
theorem dX9_fine_48 : decode cX9_fine 48 = .ok (.invokevirtual 89, 3) := by decide +kernel
theorem dX9_fine_51 : decode cX9_fine 51 = .ok (.goto 8, 3) := by decide +kernel
theorem dX9_fine_54 : decode cX9_fine 54 = .ok (.aload_n 0, 1) := by decide +kernel
theorem dX9_fine_55 : decode cX9_fine 55 = .ok (.iload_n 2, 1) := by decide +kernel
theorem dX9_fine_56 : decode cX9_fine 56 = .ok (.invokevirtual 104, 3) := by decide +kernel
theorem dX9_fine_59 : decode cX9_fine 59 = .ok (.ireturn, 1) := by decide +kernel
theorem dX9_feed_0 : decode cX9_feed 0 = .ok (.aload_n 0, 1) := by decide +kernel
theorem dX9_feed_1 : decode cX9_feed 1 = .ok (.getfield 218, 3) := by decide +kernel
theorem dX9_feed_4 : decode cX9_feed 4 = .ok (.bipush 12, 2) := by decide +kernel
theorem dX9_feed_6 : decode cX9_feed 6 = .ok (.iadd, 1) := by decide +kernel
theorem dX9_feed_7 : decode cX9_feed 7 = .ok (.bipush 96, 2) := by decide +kernel
theorem dX9_feed_9 : decode cX9_feed 9 = .ok (.if_icmp .le 6, 3) := by decide +kernel
theorem dX9_feed_12 : decode cX9_feed 12 = .ok (.ldc 122, 2) := by decide +kernel
theorem dX9_feed_14 : decode cX9_feed 14 = .ok (.ireturn, 1) := by decide +kernel
theorem dX9_feed_15 : decode cX9_feed 15 = .ok (.iconst 0, 1) := by decide +kernel
theorem dX9_feed_16 : decode cX9_feed 16 = .ok (.istore 4, 2) := by decide +kernel
theorem dX9_feed_18 : decode cX9_feed 18 = .ok (.iload 4, 2) := by decide +kernel
theorem dX9_feed_20 : decode cX9_feed 20 = .ok (.bipush 12, 2) := by decide +kernel
theorem dX9_feed_22 : decode cX9_feed 22 = .ok (.if_icmp .ge 62, 3) := by decide +kernel
theorem dX9_feed_25 : decode cX9_feed 25 = .ok (.iload 4, 2) := by decide +kernel
theorem dX9_feed_27 : decode cX9_feed 27 = .ok (.iconst 4, 1) := by decide +kernel
theorem dX9_feed_28 : decode cX9_feed 28 = .ok (.if_icmp .ge 7, 3) := by decide +kernel
theorem dX9_feed_31 : decode cX9_feed 31 = .ok (.iload_n 1, 1) := by decide +kernel
theorem dX9_feed_32 : decode cX9_feed 32 = .ok (.goto 15, 3) := by decide +kernel
theorem dX9_feed_35 : decode cX9_feed 35 = .ok (.iload 4, 2) := by decide +kernel
theorem dX9_feed_37 : decode cX9_feed 37 = .ok (.bipush 8, 2) := by decide +kernel
theorem dX9_feed_39 : decode cX9_feed 39 = .ok (.if_icmp .ge 7, 3) := by decide +kernel
theorem dX9_feed_42 : decode cX9_feed 42 = .ok (.iload_n 2, 1) := by decide +kernel
theorem dX9_feed_43 : decode cX9_feed 43 = .ok (.goto 4, 3) := by decide +kernel
theorem dX9_feed_46 : decode cX9_feed 46 = .ok (.iload_n 3, 1) := by decide +kernel
theorem dX9_feed_47 : decode cX9_feed 47 = .ok (.istore 5, 2) := by decide +kernel
theorem dX9_feed_49 : decode cX9_feed 49 = .ok (.aload_n 0, 1) := by decide +kernel
theorem dX9_feed_50 : decode cX9_feed 50 = .ok (.getfield 28, 3) := by decide +kernel
theorem dX9_feed_53 : decode cX9_feed 53 = .ok (.aload_n 0, 1) := by decide +kernel
theorem dX9_feed_54 : decode cX9_feed 54 = .ok (.getfield 218, 3) := by decide +kernel
theorem dX9_feed_57 : decode cX9_feed 57 = .ok (.iload 4, 2) := by decide +kernel
theorem dX9_feed_59 : decode cX9_feed 59 = .ok (.iadd, 1) := by decide +kernel
theorem dX9_feed_60 : decode cX9_feed 60 = .ok (.iload 5, 2) := by decide +kernel
theorem dX9_feed_62 : decode cX9_feed 62 = .ok (.bipush 24, 2) := by decide +kernel
theorem dX9_feed_64 : decode cX9_feed 64 = .ok (.bipush 8, 2) := by decide +kernel
theorem dX9_feed_66 : decode cX9_feed 66 = .ok (.iload 4, 2) := by decide +kernel
theorem dX9_feed_68 : decode cX9_feed 68 = .ok (.iconst 4, 1) := by decide +kernel
theorem dX9_feed_69 : decode cX9_feed 69 = .ok (.irem, 1) := by decide +kernel
theorem dX9_feed_70 : decode cX9_feed 70 = .ok (.imul, 1) := by decide +kernel
theorem dX9_feed_71 : decode cX9_feed 71 = .ok (.isub, 1) := by decide +kernel
theorem dX9_feed_72 : decode cX9_feed 72 = .ok (.ishr, 1) := by decide +kernel
theorem dX9_feed_73 : decode cX9_feed 73 = .ok (.sipush 255, 3) := by decide +kernel
theorem dX9_feed_76 : decode cX9_feed 76 = .ok (.iand, 1) := by decide +kernel
theorem dX9_feed_77 : decode cX9_feed 77 = .ok (.iastore, 1) := by decide +kernel
theorem dX9_feed_78 : decode cX9_feed 78 = .ok (.iinc 4 1, 3) := by decide +kernel
theorem dX9_feed_81 : decode cX9_feed 81 = .ok (.goto (-63), 3) := by decide +kernel
theorem dX9_feed_84 : decode cX9_feed 84 = .ok (.aload_n 0, 1) := by decide +kernel
theorem dX9_feed_85 : decode cX9_feed 85 = .ok (.dup, 1) := by decide +kernel
theorem dX9_feed_86 : decode cX9_feed 86 = .ok (.getfield 218, 3) := by decide +kernel
theorem dX9_feed_89 : decode cX9_feed 89 = .ok (.bipush 12, 2) := by decide +kernel
theorem dX9_feed_91 : decode cX9_feed 91 = .ok (.iadd, 1) := by decide +kernel
theorem dX9_feed_92 : decode cX9_feed 92 = .ok (.putfield 218, 3) := by decide +kernel
theorem dX9_feed_95 : decode cX9_feed 95 = .ok (.aload_n 0, 1) := by decide +kernel
theorem dX9_feed_96 : decode cX9_feed 96 = .ok (.getfield 218, 3) := by decide +kernel
theorem dX9_feed_99 : decode cX9_feed 99 = .ok (.ireturn, 1) := by decide +kernel
theorem dX9_trim_0 : decode cX9_trim 0 = .ok (.iload_n 1, 1) := by decide +kernel
theorem dX9_trim_1 : decode cX9_trim 1 = .ok (.iconst 0, 1) := by decide +kernel
theorem dX9_trim_2 : decode cX9_trim 2 = .ok (.aload_n 0, 1) := by decide +kernel
theorem dX9_trim_3 : decode cX9_trim 3 = .ok (.getfield 218, 3) := by decide +kernel
theorem dX9_trim_6 : decode cX9_trim 6 = .ok (.invokestatic 81, 3) := by decide +kernel
theorem dX9_trim_9 : decode cX9_trim 9 = .ok (.ifCond .ne 6, 3) := by decide +kernel
theorem dX9_trim_12 : decode cX9_trim 12 = .ok (.ldc 121, 2) := by decide +kernel
theorem dX9_trim_14 : decode cX9_trim 14 = .ok (.ireturn, 1) := by decide +kernel
theorem dX9_trim_15 : decode cX9_trim 15 = .ok (.aload_n 0, 1) := by decide +kernel
theorem dX9_trim_16 : decode cX9_trim 16 = .ok (.iload_n 1, 1) := by decide +kernel
theorem dX9_trim_17 : decode cX9_trim 17 = .ok (.putfield 218, 3) := by decide +kernel
theorem dX9_trim_20 : decode cX9_trim 20 = .ok (.iload_n 1, 1) := by decide +kernel
theorem dX9_trim_21 : decode cX9_trim 21 = .ok (.ireturn, 1) := by decide +kernel
theorem dX9_isLetter_0 : decode cX9_isLetter 0 = .ok (.iload_n 1, 1) := by decide +kernel
theorem dX9_isLetter_1 : decode cX9_isLetter 1 = .ok (.aload_n 0, 1) := by decide +kernel
theorem dX9_isLetter_2 : decode cX9_isLetter 2 = .ok (.getfield 218, 3) := by decide +kernel
theorem dX9_isLetter_5 : decode cX9_isLetter 5 = .ok (.if_icmp .ge 29, 3) := by decide +kernel
theorem dX9_isLetter_8 : decode cX9_isLetter 8 = .ok (.aload_n 0, 1) := by decide +kernel
theorem dX9_isLetter_9 : decode cX9_isLetter 9 = .ok (.getfield 28, 3) := by decide +kernel
theorem dX9_isLetter_12 : decode cX9_isLetter 12 = .ok (.iload_n 1, 1) := by decide +kernel
theorem dX9_isLetter_13 : decode cX9_isLetter 13 = .ok (.iaload, 1) := by decide +kernel
theorem dX9_isLetter_14 : decode cX9_isLetter 14 = .ok (.bipush 97, 2) := by decide +kernel
theorem dX9_isLetter_16 : decode cX9_isLetter 16 = .ok (.if_icmp .lt 18, 3) := by decide +kernel
theorem dX9_isLetter_19 : decode cX9_isLetter 19 = .ok (.aload_n 0, 1) := by decide +kernel
theorem dX9_isLetter_20 : decode cX9_isLetter 20 = .ok (.getfield 28, 3) := by decide +kernel
theorem dX9_isLetter_23 : decode cX9_isLetter 23 = .ok (.iload_n 1, 1) := by decide +kernel
theorem dX9_isLetter_24 : decode cX9_isLetter 24 = .ok (.iaload, 1) := by decide +kernel
theorem dX9_isLetter_25 : decode cX9_isLetter 25 = .ok (.bipush 122, 2) := by decide +kernel
theorem dX9_isLetter_27 : decode cX9_isLetter 27 = .ok (.if_icmp .gt 7, 3) := by decide +kernel
theorem dX9_isLetter_30 : decode cX9_isLetter 30 = .ok (.iconst 1, 1) := by decide +kernel
theorem dX9_isLetter_31 : decode cX9_isLetter 31 = .ok (.goto 4, 3) := by decide +kernel
theorem dX9_isLetter_34 : decode cX9_isLetter 34 = .ok (.iconst 0, 1) := by decide +kernel
theorem dX9_isLetter_35 : decode cX9_isLetter 35 = .ok (.ireturn, 1) := by decide +kernel
theorem dX9_isFigure_0 : decode cX9_isFigure 0 = .ok (.iload_n 1, 1) := by decide +kernel
theorem dX9_isFigure_1 : decode cX9_isFigure 1 = .ok (.aload_n 0, 1) := by decide +kernel
theorem dX9_isFigure_2 : decode cX9_isFigure 2 = .ok (.getfield 218, 3) := by decide +kernel
theorem dX9_isFigure_5 : decode cX9_isFigure 5 = .ok (.if_icmp .ge 29, 3) := by decide +kernel
theorem dX9_isFigure_8 : decode cX9_isFigure 8 = .ok (.aload_n 0, 1) := by decide +kernel
theorem dX9_isFigure_9 : decode cX9_isFigure 9 = .ok (.getfield 28, 3) := by decide +kernel
theorem dX9_isFigure_12 : decode cX9_isFigure 12 = .ok (.iload_n 1, 1) := by decide +kernel
theorem dX9_isFigure_13 : decode cX9_isFigure 13 = .ok (.iaload, 1) := by decide +kernel
theorem dX9_isFigure_14 : decode cX9_isFigure 14 = .ok (.bipush 48, 2) := by decide +kernel
theorem dX9_isFigure_16 : decode cX9_isFigure 16 = .ok (.if_icmp .lt 18, 3) := by decide +kernel
theorem dX9_isFigure_19 : decode cX9_isFigure 19 = .ok (.aload_n 0, 1) := by decide +kernel
theorem dX9_isFigure_20 : decode cX9_isFigure 20 = .ok (.getfield 28, 3) := by decide +kernel
theorem dX9_isFigure_23 : decode cX9_isFigure 23 = .ok (.iload_n 1, 1) := by decide +kernel
theorem dX9_isFigure_24 : decode cX9_isFigure 24 = .ok (.iaload, 1) := by decide +kernel
theorem dX9_isFigure_25 : decode cX9_isFigure 25 = .ok (.bipush 57, 2) := by decide +kernel
theorem dX9_isFigure_27 : decode cX9_isFigure 27 = .ok (.if_icmp .gt 7, 3) := by decide +kernel
theorem dX9_isFigure_30 : decode cX9_isFigure 30 = .ok (.iconst 1, 1) := by decide +kernel
theorem dX9_isFigure_31 : decode cX9_isFigure 31 = .ok (.goto 4, 3) := by decide +kernel
theorem dX9_isFigure_34 : decode cX9_isFigure 34 = .ok (.iconst 0, 1) := by decide +kernel
theorem dX9_isFigure_35 : decode cX9_isFigure 35 = .ok (.ireturn, 1) := by decide +kernel
theorem dX9_go_0 : decode cX9_go 0 = .ok (.aload_n 0, 1) := by decide +kernel
theorem dX9_go_1 : decode cX9_go 1 = .ok (.getfield 221, 3) := by decide +kernel
theorem dX9_go_4 : decode cX9_go 4 = .ok (.aload_n 0, 1) := by decide +kernel
theorem dX9_go_5 : decode cX9_go 5 = .ok (.getfield 218, 3) := by decide +kernel
theorem dX9_go_8 : decode cX9_go 8 = .ok (.if_icmp .ge 30, 3) := by decide +kernel
theorem dX9_go_11 : decode cX9_go 11 = .ok (.aload_n 0, 1) := by decide +kernel
theorem dX9_go_12 : decode cX9_go 12 = .ok (.getfield 28, 3) := by decide +kernel
theorem dX9_go_15 : decode cX9_go 15 = .ok (.aload_n 0, 1) := by decide +kernel
theorem dX9_go_16 : decode cX9_go 16 = .ok (.getfield 221, 3) := by decide +kernel
theorem dX9_go_19 : decode cX9_go 19 = .ok (.iaload, 1) := by decide +kernel
theorem dX9_go_20 : decode cX9_go 20 = .ok (.bipush 32, 2) := by decide +kernel
theorem dX9_go_22 : decode cX9_go 22 = .ok (.if_icmp .ne 16, 3) := by decide +kernel
theorem dX9_go_25 : decode cX9_go 25 = .ok (.aload_n 0, 1) := by decide +kernel
theorem dX9_go_26 : decode cX9_go 26 = .ok (.dup, 1) := by decide +kernel
theorem dX9_go_27 : decode cX9_go 27 = .ok (.getfield 221, 3) := by decide +kernel
theorem dX9_go_30 : decode cX9_go 30 = .ok (.iconst 1, 1) := by decide +kernel
theorem dX9_go_31 : decode cX9_go 31 = .ok (.iadd, 1) := by decide +kernel
theorem dX9_go_32 : decode cX9_go 32 = .ok (.putfield 221, 3) := by decide +kernel
theorem dX9_go_35 : decode cX9_go 35 = .ok (.goto (-35), 3) := by decide +kernel
theorem dX9_go_38 : decode cX9_go 38 = .ok (.aload_n 0, 1) := by decide +kernel
theorem dX9_go_39 : decode cX9_go 39 = .ok (.aload_n 0, 1) := by decide +kernel
theorem dX9_go_40 : decode cX9_go 40 = .ok (.getfield 221, 3) := by decide +kernel
theorem dX9_go_43 : decode cX9_go 43 = .ok (.putfield 224, 3) := by decide +kernel
theorem dX9_go_46 : decode cX9_go 46 = .ok (.aload_n 0, 1) := by decide +kernel
theorem dX9_go_47 : decode cX9_go 47 = .ok (.getfield 224, 3) := by decide +kernel
theorem dX9_go_50 : decode cX9_go 50 = .ok (.aload_n 0, 1) := by decide +kernel
theorem dX9_go_51 : decode cX9_go 51 = .ok (.getfield 227, 3) := by decide +kernel
theorem dX9_go_54 : decode cX9_go 54 = .ok (.if_icmp .ne 7, 3) := by decide +kernel
theorem dX9_go_57 : decode cX9_go 57 = .ok (.iconst 1, 1) := by decide +kernel
theorem dX9_go_58 : decode cX9_go 58 = .ok (.goto 4, 3) := by decide +kernel
theorem dX9_go_61 : decode cX9_go 61 = .ok (.iconst 0, 1) := by decide +kernel
theorem dX9_go_62 : decode cX9_go 62 = .ok (.istore_n 1, 1) := by decide +kernel
theorem dX9_go_63 : decode cX9_go 63 = .ok (.aload_n 0, 1) := by decide +kernel
theorem dX9_go_64 : decode cX9_go 64 = .ok (.getfield 224, 3) := by decide +kernel
theorem dX9_go_67 : decode cX9_go 67 = .ok (.aload_n 0, 1) := by decide +kernel
theorem dX9_go_68 : decode cX9_go 68 = .ok (.getfield 218, 3) := by decide +kernel
theorem dX9_go_71 : decode cX9_go 71 = .ok (.if_icmp .ne 11, 3) := by decide +kernel
theorem dX9_go_74 : decode cX9_go 74 = .ok (.aload_n 0, 1) := by decide +kernel
theorem dX9_go_75 : decode cX9_go 75 = .ok (.iconst 0, 1) := by decide +kernel
theorem dX9_go_76 : decode cX9_go 76 = .ok (.putfield 230, 3) := by decide +kernel
theorem dX9_go_79 : decode cX9_go 79 = .ok (.goto 224, 3) := by decide +kernel
theorem dX9_go_82 : decode cX9_go 82 = .ok (.aload_n 0, 1) := by decide +kernel
theorem dX9_go_83 : decode cX9_go 83 = .ok (.aload_n 0, 1) := by decide +kernel
theorem dX9_go_84 : decode cX9_go 84 = .ok (.getfield 224, 3) := by decide +kernel
theorem dX9_go_87 : decode cX9_go 87 = .ok (.invokevirtual 233, 3) := by decide +kernel
theorem dX9_go_90 : decode cX9_go 90 = .ok (.ifCond .eq 64, 3) := by decide +kernel
theorem dX9_go_93 : decode cX9_go 93 = .ok (.aload_n 0, 1) := by decide +kernel
theorem dX9_go_94 : decode cX9_go 94 = .ok (.aload_n 0, 1) := by decide +kernel
theorem dX9_go_95 : decode cX9_go 95 = .ok (.getfield 221, 3) := by decide +kernel
theorem dX9_go_98 : decode cX9_go 98 = .ok (.invokevirtual 233, 3) := by decide +kernel
theorem dX9_go_101 : decode cX9_go 101 = .ok (.ifCond .eq 16, 3) := by decide +kernel
theorem dX9_go_104 : decode cX9_go 104 = .ok (.aload_n 0, 1) := by decide +kernel
theorem dX9_go_105 : decode cX9_go 105 = .ok (.dup, 1) := by decide +kernel
theorem dX9_go_106 : decode cX9_go 106 = .ok (.getfield 221, 3) := by decide +kernel
theorem dX9_go_109 : decode cX9_go 109 = .ok (.iconst 1, 1) := by decide +kernel
theorem dX9_go_110 : decode cX9_go 110 = .ok (.iadd, 1) := by decide +kernel
theorem dX9_go_111 : decode cX9_go 111 = .ok (.putfield 221, 3) := by decide +kernel
theorem dX9_go_114 : decode cX9_go 114 = .ok (.goto (-21), 3) := by decide +kernel
theorem dX9_go_117 : decode cX9_go 117 = .ok (.aload_n 0, 1) := by decide +kernel
theorem dX9_go_118 : decode cX9_go 118 = .ok (.iload_n 1, 1) := by decide +kernel
theorem dX9_go_119 : decode cX9_go 119 = .ok (.ifCond .eq 7, 3) := by decide +kernel
theorem dX9_go_122 : decode cX9_go 122 = .ok (.iconst 4, 1) := by decide +kernel
theorem dX9_go_123 : decode cX9_go 123 = .ok (.goto 4, 3) := by decide +kernel
theorem dX9_go_126 : decode cX9_go 126 = .ok (.iconst 1, 1) := by decide +kernel
theorem dX9_go_127 : decode cX9_go 127 = .ok (.putfield 230, 3) := by decide +kernel
theorem dX9_go_130 : decode cX9_go 130 = .ok (.aload_n 0, 1) := by decide +kernel
theorem dX9_go_131 : decode cX9_go 131 = .ok (.aload_n 0, 1) := by decide +kernel
theorem dX9_go_132 : decode cX9_go 132 = .ok (.getfield 28, 3) := by decide +kernel
theorem dX9_go_135 : decode cX9_go 135 = .ok (.aload_n 0, 1) := by decide +kernel
theorem dX9_go_136 : decode cX9_go 136 = .ok (.getfield 224, 3) := by decide +kernel
theorem dX9_go_139 : decode cX9_go 139 = .ok (.iaload, 1) := by decide +kernel
theorem dX9_go_140 : decode cX9_go 140 = .ok (.putfield 236, 3) := by decide +kernel
theorem dX9_go_143 : decode cX9_go 143 = .ok (.aload_n 0, 1) := by decide +kernel
theorem dX9_go_144 : decode cX9_go 144 = .ok (.aload_n 0, 1) := by decide +kernel
theorem dX9_go_145 : decode cX9_go 145 = .ok (.getfield 221, 3) := by decide +kernel
theorem dX9_go_148 : decode cX9_go 148 = .ok (.putfield 227, 3) := by decide +kernel
theorem dX9_go_151 : decode cX9_go 151 = .ok (.goto 152, 3) := by decide +kernel
theorem dX9_go_154 : decode cX9_go 154 = .ok (.aload_n 0, 1) := by decide +kernel
theorem dX9_go_155 : decode cX9_go 155 = .ok (.aload_n 0, 1) := by decide +kernel
theorem dX9_go_156 : decode cX9_go 156 = .ok (.getfield 224, 3) := by decide +kernel
theorem dX9_go_159 : decode cX9_go 159 = .ok (.invokevirtual 239, 3) := by decide +kernel
theorem dX9_go_162 : decode cX9_go 162 = .ok (.ifCond .eq 113, 3) := by decide +kernel
theorem dX9_go_165 : decode cX9_go 165 = .ok (.aload_n 0, 1) := by decide +kernel
theorem dX9_go_166 : decode cX9_go 166 = .ok (.iconst 0, 1) := by decide +kernel
theorem dX9_go_167 : decode cX9_go 167 = .ok (.putfield 236, 3) := by decide +kernel
theorem dX9_go_170 : decode cX9_go 170 = .ok (.aload_n 0, 1) := by decide +kernel
theorem dX9_go_171 : decode cX9_go 171 = .ok (.aload_n 0, 1) := by decide +kernel
theorem dX9_go_172 : decode cX9_go 172 = .ok (.getfield 221, 3) := by decide +kernel
theorem dX9_go_175 : decode cX9_go 175 = .ok (.invokevirtual 239, 3) := by decide +kernel
theorem dX9_go_178 : decode cX9_go 178 = .ok (.ifCond .eq 60, 3) := by decide +kernel
theorem dX9_go_181 : decode cX9_go 181 = .ok (.aload_n 0, 1) := by decide +kernel
theorem dX9_go_182 : decode cX9_go 182 = .ok (.aload_n 0, 1) := by decide +kernel
theorem dX9_go_183 : decode cX9_go 183 = .ok (.getfield 221, 3) := by decide +kernel
theorem dX9_go_186 : decode cX9_go 186 = .ok (.aload_n 0, 1) := by decide +kernel
theorem dX9_go_187 : decode cX9_go 187 = .ok (.getfield 224, 3) := by decide +kernel
theorem dX9_go_190 : decode cX9_go 190 = .ok (.isub, 1) := by decide +kernel
theorem dX9_go_191 : decode cX9_go 191 = .ok (.iconst 4, 1) := by decide +kernel
theorem dX9_go_192 : decode cX9_go 192 = .ok (.if_icmp .ge 26, 3) := by decide +kernel
theorem dX9_go_195 : decode cX9_go 195 = .ok (.bipush 10, 2) := by decide +kernel
theorem dX9_go_197 : decode cX9_go 197 = .ok (.aload_n 0, 1) := by decide +kernel
theorem dX9_go_198 : decode cX9_go 198 = .ok (.getfield 236, 3) := by decide +kernel
theorem dX9_go_201 : decode cX9_go 201 = .ok (.imul, 1) := by decide +kernel
theorem dX9_go_202 : decode cX9_go 202 = .ok (.aload_n 0, 1) := by decide +kernel
theorem dX9_go_203 : decode cX9_go 203 = .ok (.getfield 28, 3) := by decide +kernel
theorem dX9_go_206 : decode cX9_go 206 = .ok (.aload_n 0, 1) := by decide +kernel
theorem dX9_go_207 : decode cX9_go 207 = .ok (.getfield 221, 3) := by decide +kernel
theorem dX9_go_210 : decode cX9_go 210 = .ok (.iaload, 1) := by decide +kernel
theorem dX9_go_211 : decode cX9_go 211 = .ok (.iadd, 1) := by decide +kernel
theorem dX9_go_212 : decode cX9_go 212 = .ok (.bipush 48, 2) := by decide +kernel
theorem dX9_go_214 : decode cX9_go 214 = .ok (.isub, 1) := by decide +kernel
theorem dX9_go_215 : decode cX9_go 215 = .ok (.goto 7, 3) := by decide +kernel
theorem dX9_go_218 : decode cX9_go 218 = .ok (.aload_n 0, 1) := by decide +kernel
theorem dX9_go_219 : decode cX9_go 219 = .ok (.getfield 236, 3) := by decide +kernel
theorem dX9_go_222 : decode cX9_go 222 = .ok (.putfield 236, 3) := by decide +kernel
theorem dX9_go_225 : decode cX9_go 225 = .ok (.aload_n 0, 1) := by decide +kernel
theorem dX9_go_226 : decode cX9_go 226 = .ok (.dup, 1) := by decide +kernel
theorem dX9_go_227 : decode cX9_go 227 = .ok (.getfield 221, 3) := by decide +kernel
theorem dX9_go_230 : decode cX9_go 230 = .ok (.iconst 1, 1) := by decide +kernel
theorem dX9_go_231 : decode cX9_go 231 = .ok (.iadd, 1) := by decide +kernel
theorem dX9_go_232 : decode cX9_go 232 = .ok (.putfield 221, 3) := by decide +kernel
theorem dX9_go_235 : decode cX9_go 235 = .ok (.goto (-65), 3) := by decide +kernel
theorem dX9_go_238 : decode cX9_go 238 = .ok (.aload_n 0, 1) := by decide +kernel
theorem dX9_go_239 : decode cX9_go 239 = .ok (.iload_n 1, 1) := by decide +kernel
theorem dX9_go_240 : decode cX9_go 240 = .ok (.ifCond .ne 16, 3) := by decide +kernel
theorem dX9_go_243 : decode cX9_go 243 = .ok (.aload_n 0, 1) := by decide +kernel
theorem dX9_go_244 : decode cX9_go 244 = .ok (.getfield 221, 3) := by decide +kernel
theorem dX9_go_247 : decode cX9_go 247 = .ok (.aload_n 0, 1) := by decide +kernel
theorem dX9_go_248 : decode cX9_go 248 = .ok (.getfield 224, 3) := by decide +kernel
theorem dX9_go_251 : decode cX9_go 251 = .ok (.isub, 1) := by decide +kernel
theorem dX9_go_252 : decode cX9_go 252 = .ok (.iconst 4, 1) := by decide +kernel
theorem dX9_go_253 : decode cX9_go 253 = .ok (.if_icmp .le 7, 3) := by decide +kernel
theorem dX9_go_256 : decode cX9_go 256 = .ok (.iconst 4, 1) := by decide +kernel
theorem dX9_go_257 : decode cX9_go 257 = .ok (.goto 4, 3) := by decide +kernel
theorem dX9_go_260 : decode cX9_go 260 = .ok (.iconst 2, 1) := by decide +kernel
theorem dX9_go_261 : decode cX9_go 261 = .ok (.putfield 230, 3) := by decide +kernel
theorem dX9_go_264 : decode cX9_go 264 = .ok (.aload_n 0, 1) := by decide +kernel
theorem dX9_go_265 : decode cX9_go 265 = .ok (.aload_n 0, 1) := by decide +kernel
theorem dX9_go_266 : decode cX9_go 266 = .ok (.getfield 221, 3) := by decide +kernel
theorem dX9_go_269 : decode cX9_go 269 = .ok (.putfield 227, 3) := by decide +kernel
theorem dX9_go_272 : decode cX9_go 272 = .ok (.goto 31, 3) := by decide +kernel
theorem dX9_go_275 : decode cX9_go 275 = .ok (.aload_n 0, 1) := by decide +kernel
theorem dX9_go_276 : decode cX9_go 276 = .ok (.iconst 3, 1) := by decide +kernel
theorem dX9_go_277 : decode cX9_go 277 = .ok (.putfield 230, 3) := by decide +kernel
theorem dX9_go_280 : decode cX9_go 280 = .ok (.aload_n 0, 1) := by decide +kernel
theorem dX9_go_281 : decode cX9_go 281 = .ok (.aload_n 0, 1) := by decide +kernel
theorem dX9_go_282 : decode cX9_go 282 = .ok (.getfield 28, 3) := by decide +kernel
theorem dX9_go_285 : decode cX9_go 285 = .ok (.aload_n 0, 1) := by decide +kernel
theorem dX9_go_286 : decode cX9_go 286 = .ok (.getfield 224, 3) := by decide +kernel
theorem dX9_go_289 : decode cX9_go 289 = .ok (.iaload, 1) := by decide +kernel
theorem dX9_go_290 : decode cX9_go 290 = .ok (.putfield 236, 3) := by decide +kernel
theorem dX9_go_293 : decode cX9_go 293 = .ok (.aload_n 0, 1) := by decide +kernel
theorem dX9_go_294 : decode cX9_go 294 = .ok (.dup, 1) := by decide +kernel
theorem dX9_go_295 : decode cX9_go 295 = .ok (.getfield 221, 3) := by decide +kernel
theorem dX9_go_298 : decode cX9_go 298 = .ok (.iconst 1, 1) := by decide +kernel
theorem dX9_go_299 : decode cX9_go 299 = .ok (.iadd, 1) := by decide +kernel
theorem dX9_go_300 : decode cX9_go 300 = .ok (.putfield 221, 3) := by decide +kernel
theorem dX9_go_303 : decode cX9_go 303 = .ok (.return_, 1) := by decide +kernel
