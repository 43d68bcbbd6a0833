theorem dX8_addDifferences_0 : decode cX8_addDifferences 0 = .ok (.aload_n 0, 1) := by decide +kernel
theorem dX8_addDifferences_1 : decode cX8_addDifferences 1 = .ok (.getfield 65, 3) := by decide +kernel
theorem dX8_addDifferences_4 : decode cX8_addDifferences 4 = .ok (.iconst 0, 1) := by decide +kernel
theorem dX8_addDifferences_5 : decode cX8_addDifferences 5 = .ok (.invokestatic 228, 3) := by decide +kernel
theorem dX8_addDifferences_8 : decode cX8_addDifferences 8 = .ok (.aload_n 0, 1) := by decide +kernel
theorem dX8_addDifferences_9 : decode cX8_addDifferences 9 = .ok (.getfield 19, 3) := by decide +kernel
theorem dX8_addDifferences_12 : decode cX8_addDifferences 12 = .ok (.aload_n 0, 1) := by decide +kernel
theorem dX8_addDifferences_13 : decode cX8_addDifferences 13 = .ok (.getfield 10, 3) := by decide +kernel
theorem dX8_addDifferences_16 : decode cX8_addDifferences 16 = .ok (.invokevirtual 209, 3) := by decide +kernel
theorem dX8_addDifferences_19 : decode cX8_addDifferences 19 = .ok (.iconst 0, 1) := by decide +kernel
theorem dX8_addDifferences_20 : decode cX8_addDifferences 20 = .ok (.istore_n 2, 1) := by decide +kernel
theorem dX8_addDifferences_21 : decode cX8_addDifferences 21 = .ok (.iload_n 2, 1) := by decide +kernel
theorem dX8_addDifferences_22 : decode cX8_addDifferences 22 = .ok (.aload_n 1, 1) := by decide +kernel
theorem dX8_addDifferences_23 : decode cX8_addDifferences 23 = .ok (.getfield 234, 3) := by decide +kernel
theorem dX8_addDifferences_26 : decode cX8_addDifferences 26 = .ok (.if_icmp .ge 78, 3) := by decide +kernel
theorem dX8_addDifferences_29 : decode cX8_addDifferences 29 = .ok (.iload_n 2, 1) := by decide +kernel
theorem dX8_addDifferences_30 : decode cX8_addDifferences 30 = .ok (.ifCond .le 10, 3) := by decide +kernel
theorem dX8_addDifferences_33 : decode cX8_addDifferences 33 = .ok (.aload_n 0, 1) := by decide +kernel
theorem dX8_addDifferences_34 : decode cX8_addDifferences 34 = .ok (.getfield 19, 3) := by decide +kernel
theorem dX8_addDifferences_37 : decode cX8_addDifferences 37 = .ok (.invokevirtual 213, 3) := by decide +kernel
theorem dX8_addDifferences_40 : decode cX8_addDifferences 40 = .ok (.aload_n 1, 1) := by decide +kernel
theorem dX8_addDifferences_41 : decode cX8_addDifferences 41 = .ok (.iload_n 2, 1) := by decide +kernel
theorem dX8_addDifferences_42 : decode cX8_addDifferences 42 = .ok (.invokevirtual 235, 3) := by decide +kernel
theorem dX8_addDifferences_45 : decode cX8_addDifferences 45 = .ok (.ifCond .eq 53, 3) := by decide +kernel
theorem dX8_addDifferences_48 : decode cX8_addDifferences 48 = .ok (.iconst 0, 1) := by decide +kernel
theorem dX8_addDifferences_49 : decode cX8_addDifferences 49 = .ok (.istore_n 3, 1) := by decide +kernel
theorem dX8_addDifferences_50 : decode cX8_addDifferences 50 = .ok (.iload_n 3, 1) := by decide +kernel
theorem dX8_addDifferences_51 : decode cX8_addDifferences 51 = .ok (.aload_n 0, 1) := by decide +kernel
theorem dX8_addDifferences_52 : decode cX8_addDifferences 52 = .ok (.getfield 19, 3) := by decide +kernel
theorem dX8_addDifferences_55 : decode cX8_addDifferences 55 = .ok (.getfield 75, 3) := by decide +kernel
theorem dX8_addDifferences_58 : decode cX8_addDifferences 58 = .ok (.if_icmp .ge 40, 3) := by decide +kernel
theorem dX8_addDifferences_61 : decode cX8_addDifferences 61 = .ok (.aload_n 0, 1) := by decide +kernel
theorem dX8_addDifferences_62 : decode cX8_addDifferences 62 = .ok (.getfield 65, 3) := by decide +kernel
theorem dX8_addDifferences_65 : decode cX8_addDifferences 65 = .ok (.iload_n 3, 1) := by decide +kernel
theorem dX8_addDifferences_66 : decode cX8_addDifferences 66 = .ok (.dup2, 1) := by decide +kernel
theorem dX8_addDifferences_67 : decode cX8_addDifferences 67 = .ok (.iaload, 1) := by decide +kernel
theorem dX8_addDifferences_68 : decode cX8_addDifferences 68 = .ok (.aload_n 0, 1) := by decide +kernel
theorem dX8_addDifferences_69 : decode cX8_addDifferences 69 = .ok (.getfield 19, 3) := by decide +kernel
theorem dX8_addDifferences_72 : decode cX8_addDifferences 72 = .ok (.getfield 87, 3) := by decide +kernel
theorem dX8_addDifferences_75 : decode cX8_addDifferences 75 = .ok (.iload_n 3, 1) := by decide +kernel
theorem dX8_addDifferences_76 : decode cX8_addDifferences 76 = .ok (.aaload, 1) := by decide +kernel
theorem dX8_addDifferences_77 : decode cX8_addDifferences 77 = .ok (.getfield 96, 3) := by decide +kernel
theorem dX8_addDifferences_80 : decode cX8_addDifferences 80 = .ok (.aload_n 1, 1) := by decide +kernel
theorem dX8_addDifferences_81 : decode cX8_addDifferences 81 = .ok (.getfield 238, 3) := by decide +kernel
theorem dX8_addDifferences_84 : decode cX8_addDifferences 84 = .ok (.iload_n 2, 1) := by decide +kernel
theorem dX8_addDifferences_85 : decode cX8_addDifferences 85 = .ok (.iaload, 1) := by decide +kernel
theorem dX8_addDifferences_86 : decode cX8_addDifferences 86 = .ok (.isub, 1) := by decide +kernel
theorem dX8_addDifferences_87 : decode cX8_addDifferences 87 = .ok (.invokestatic 241, 3) := by decide +kernel
theorem dX8_addDifferences_90 : decode cX8_addDifferences 90 = .ok (.iadd, 1) := by decide +kernel
theorem dX8_addDifferences_91 : decode cX8_addDifferences 91 = .ok (.iastore, 1) := by decide +kernel
theorem dX8_addDifferences_92 : decode cX8_addDifferences 92 = .ok (.iinc 3 1, 3) := by decide +kernel
theorem dX8_addDifferences_95 : decode cX8_addDifferences 95 = .ok (.goto (-45), 3) := by decide +kernel
theorem dX8_addDifferences_98 : decode cX8_addDifferences 98 = .ok (.iinc 2 1, 3) := by decide +kernel
theorem dX8_addDifferences_101 : decode cX8_addDifferences 101 = .ok (.goto (-80), 3) := by decide +kernel
theorem dX8_addDifferences_104 : decode cX8_addDifferences 104 = .ok (.return_, 1) := by decide +kernel
theorem dX8_fee_0 : decode cX8_fee 0 = .ok (.aload_n 0, 1) := by decide +kernel
theorem dX8_fee_1 : decode cX8_fee 1 = .ok (.getfield 10, 3) := by decide +kernel
theorem dX8_fee_4 : decode cX8_fee 4 = .ok (.iconst 1, 1) := by decide +kernel
theorem dX8_fee_5 : decode cX8_fee 5 = .ok (.invokevirtual 244, 3) := by decide +kernel
theorem dX8_fee_8 : decode cX8_fee 8 = .ok (.astore_n 1, 1) := by decide +kernel
theorem dX8_fee_9 : decode cX8_fee 9 = .ok (.aload_n 1, 1) := by decide +kernel
theorem dX8_fee_10 : decode cX8_fee 10 = .ok (.ifnonnull 13, 3) := by decide +kernel
theorem dX8_fee_13 : decode cX8_fee 13 = .ok (.aload_n 0, 1) := by decide +kernel
theorem dX8_fee_14 : decode cX8_fee 14 = .ok (.getfield 10, 3) := by decide +kernel
theorem dX8_fee_17 : decode cX8_fee 17 = .ok (.getfield 137, 3) := by decide +kernel
theorem dX8_fee_20 : decode cX8_fee 20 = .ok (.goto 23, 3) := by decide +kernel
theorem dX8_fee_23 : decode cX8_fee 23 = .ok (.aload_n 1, 1) := by decide +kernel
theorem dX8_fee_24 : decode cX8_fee 24 = .ok (.aload_n 0, 1) := by decide +kernel
theorem dX8_fee_25 : decode cX8_fee 25 = .ok (.getfield 10, 3) := by decide +kernel
theorem dX8_fee_28 : decode cX8_fee 28 = .ok (.getfield 137, 3) := by decide +kernel
theorem dX8_fee_31 : decode cX8_fee 31 = .ok (.aload_n 0, 1) := by decide +kernel
theorem dX8_fee_32 : decode cX8_fee 32 = .ok (.getfield 10, 3) := by decide +kernel
theorem dX8_fee_35 : decode cX8_fee 35 = .ok (.getfield 168, 3) := by decide +kernel
theorem dX8_fee_38 : decode cX8_fee 38 = .ok (.iconst 0, 1) := by decide +kernel
theorem dX8_fee_39 : decode cX8_fee 39 = .ok (.iconst 0, 1) := by decide +kernel
theorem dX8_fee_40 : decode cX8_fee 40 = .ok (.invokevirtual 248, 3) := by decide +kernel
theorem dX8_fee_43 : decode cX8_fee 43 = .ok (.ireturn, 1) := by decide +kernel
theorem dX8_fine_0 : decode cX8_fine 0 = .ok (.aload_n 0, 1) := by decide +kernel
theorem dX8_fine_1 : decode cX8_fine 1 = .ok (.getfield 10, 3) := by decide +kernel
theorem dX8_fine_4 : decode cX8_fine 4 = .ok (.iload_n 1, 1) := by decide +kernel
theorem dX8_fine_5 : decode cX8_fine 5 = .ok (.invokevirtual 83, 3) := by decide +kernel
theorem dX8_fine_8 : decode cX8_fine 8 = .ok (.ifCond .ne 6, 3) := by decide +kernel
theorem dX8_fine_11 : decode cX8_fine 11 = .ok (.ldc 74, 2) := by decide +kernel
theorem dX8_fine_13 : decode cX8_fine 13 = .ok (.ireturn, 1) := by decide +kernel
theorem dX8_fine_14 : decode cX8_fine 14 = .ok (.aload_n 0, 1) := by decide +kernel
theorem dX8_fine_15 : decode cX8_fine 15 = .ok (.getfield 10, 3) := by decide +kernel
theorem dX8_fine_18 : decode cX8_fine 18 = .ok (.getfield 87, 3) := by decide +kernel
theorem dX8_fine_21 : decode cX8_fine 21 = .ok (.iload_n 1, 1) := by decide +kernel
theorem dX8_fine_22 : decode cX8_fine 22 = .ok (.aaload, 1) := by decide +kernel
theorem dX8_fine_23 : decode cX8_fine 23 = .ok (.astore_n 2, 1) := by decide +kernel
theorem dX8_fine_24 : decode cX8_fine 24 = .ok (.aload_n 0, 1) := by decide +kernel
theorem dX8_fine_25 : decode cX8_fine 25 = .ok (.getfield 10, 3) := by decide +kernel
theorem dX8_fine_28 : decode cX8_fine 28 = .ok (.iconst 2, 1) := by decide +kernel
theorem dX8_fine_29 : decode cX8_fine 29 = .ok (.invokevirtual 244, 3) := by decide +kernel
theorem dX8_fine_32 : decode cX8_fine 32 = .ok (.astore_n 3, 1) := by decide +kernel
theorem dX8_fine_33 : decode cX8_fine 33 = .ok (.aload_n 3, 1) := by decide +kernel
theorem dX8_fine_34 : decode cX8_fine 34 = .ok (.ifnonnull 10, 3) := by decide +kernel
theorem dX8_fine_37 : decode cX8_fine 37 = .ok (.aload_n 2, 1) := by decide +kernel
theorem dX8_fine_38 : decode cX8_fine 38 = .ok (.getfield 96, 3) := by decide +kernel
theorem dX8_fine_41 : decode cX8_fine 41 = .ok (.goto 17, 3) := by decide +kernel
theorem dX8_fine_44 : decode cX8_fine 44 = .ok (.aload_n 3, 1) := by decide +kernel
theorem dX8_fine_45 : decode cX8_fine 45 = .ok (.aload_n 2, 1) := by decide +kernel
theorem dX8_fine_46 : decode cX8_fine 46 = .ok (.getfield 96, 3) := by decide +kernel
theorem dX8_fine_49 : decode cX8_fine 49 = .ok (.aload_n 2, 1) := by decide +kernel
theorem dX8_fine_50 : decode cX8_fine 50 = .ok (.getfield 99, 3) := by decide +kernel
theorem dX8_fine_53 : decode cX8_fine 53 = .ok (.iconst 0, 1) := by decide +kernel
theorem dX8_fine_54 : decode cX8_fine 54 = .ok (.iconst 0, 1) := by decide +kernel
theorem dX8_fine_55 : decode cX8_fine 55 = .ok (.invokevirtual 248, 3) := by decide +kernel
theorem dX8_fine_58 : decode cX8_fine 58 = .ok (.ireturn, 1) := by decide +kernel
theorem dX8_feed_0 : decode cX8_feed 0 = .ok (.aload_n 0, 1) := by decide +kernel
theorem dX8_feed_1 : decode cX8_feed 1 = .ok (.getfield 44, 3) := by decide +kernel
theorem dX8_feed_4 : decode cX8_feed 4 = .ok (.getfield 253, 3) := by decide +kernel
theorem dX8_feed_7 : decode cX8_feed 7 = .ok (.bipush 12, 2) := by decide +kernel
theorem dX8_feed_9 : decode cX8_feed 9 = .ok (.iadd, 1) := by decide +kernel
theorem dX8_feed_10 : decode cX8_feed 10 = .ok (.bipush 96, 2) := by decide +kernel
theorem dX8_feed_12 : decode cX8_feed 12 = .ok (.if_icmp .le 6, 3) := by decide +kernel
theorem dX8_feed_15 : decode cX8_feed 15 = .ok (.ldc 78, 2) := by decide +kernel
theorem dX8_feed_17 : decode cX8_feed 17 = .ok (.ireturn, 1) := by decide +kernel
theorem dX8_feed_18 : decode cX8_feed 18 = .ok (.aload_n 0, 1) := by decide +kernel
theorem dX8_feed_19 : decode cX8_feed 19 = .ok (.getfield 44, 3) := by decide +kernel
theorem dX8_feed_22 : decode cX8_feed 22 = .ok (.iload_n 1, 1) := by decide +kernel
theorem dX8_feed_23 : decode cX8_feed 23 = .ok (.invokevirtual 256, 3) := by decide +kernel
theorem dX8_feed_26 : decode cX8_feed 26 = .ok (.aload_n 0, 1) := by decide +kernel
theorem dX8_feed_27 : decode cX8_feed 27 = .ok (.getfield 44, 3) := by decide +kernel
theorem dX8_feed_30 : decode cX8_feed 30 = .ok (.iload_n 2, 1) := by decide +kernel
theorem dX8_feed_31 : decode cX8_feed 31 = .ok (.invokevirtual 256, 3) := by decide +kernel
theorem dX8_feed_34 : decode cX8_feed 34 = .ok (.aload_n 0, 1) := by decide +kernel
theorem dX8_feed_35 : decode cX8_feed 35 = .ok (.getfield 44, 3) := by decide +kernel
theorem dX8_feed_38 : decode cX8_feed 38 = .ok (.iload_n 3, 1) := by decide +kernel
theorem dX8_feed_39 : decode cX8_feed 39 = .ok (.invokevirtual 256, 3) := by decide +kernel
theorem dX8_feed_42 : decode cX8_feed 42 = .ok (.aload_n 0, 1) := by decide +kernel
theorem dX8_feed_43 : decode cX8_feed 43 = .ok (.getfield 44, 3) := by decide +kernel
theorem dX8_feed_46 : decode cX8_feed 46 = .ok (.getfield 253, 3) := by decide +kernel
theorem dX8_feed_49 : decode cX8_feed 49 = .ok (.ireturn, 1) := by decide +kernel
theorem dX8_trim_0 : decode cX8_trim 0 = .ok (.iload_n 1, 1) := by decide +kernel
theorem dX8_trim_1 : decode cX8_trim 1 = .ok (.iconst 0, 1) := by decide +kernel
theorem dX8_trim_2 : decode cX8_trim 2 = .ok (.aload_n 0, 1) := by decide +kernel
theorem dX8_trim_3 : decode cX8_trim 3 = .ok (.getfield 44, 3) := by decide +kernel
theorem dX8_trim_6 : decode cX8_trim 6 = .ok (.getfield 253, 3) := by decide +kernel
theorem dX8_trim_9 : decode cX8_trim 9 = .ok (.invokestatic 70, 3) := by decide +kernel
theorem dX8_trim_12 : decode cX8_trim 12 = .ok (.ifCond .ne 6, 3) := by decide +kernel
theorem dX8_trim_15 : decode cX8_trim 15 = .ok (.ldc 74, 2) := by decide +kernel
theorem dX8_trim_17 : decode cX8_trim 17 = .ok (.ireturn, 1) := by decide +kernel
theorem dX8_trim_18 : decode cX8_trim 18 = .ok (.aload_n 0, 1) := by decide +kernel
theorem dX8_trim_19 : decode cX8_trim 19 = .ok (.getfield 44, 3) := by decide +kernel
theorem dX8_trim_22 : decode cX8_trim 22 = .ok (.iload_n 1, 1) := by decide +kernel
theorem dX8_trim_23 : decode cX8_trim 23 = .ok (.putfield 253, 3) := by decide +kernel
theorem dX8_trim_26 : decode cX8_trim 26 = .ok (.iload_n 1, 1) := by decide +kernel
theorem dX8_trim_27 : decode cX8_trim 27 = .ok (.ireturn, 1) := by decide +kernel
theorem dX8_text_0 : decode cX8_text 0 = .ok (.aload_n 0, 1) := by decide +kernel
theorem dX8_text_1 : decode cX8_text 1 = .ok (.getfield 36, 3) := by decide +kernel
theorem dX8_text_4 : decode cX8_text 4 = .ok (.invokevirtual 259, 3) := by decide +kernel
theorem dX8_text_7 : decode cX8_text 7 = .ok (.istore_n 1, 1) := by decide +kernel
theorem dX8_text_8 : decode cX8_text 8 = .ok (.aload_n 0, 1) := by decide +kernel
theorem dX8_text_9 : decode cX8_text 9 = .ok (.getfield 44, 3) := by decide +kernel
theorem dX8_text_12 : decode cX8_text 12 = .ok (.iconst 0, 1) := by decide +kernel
theorem dX8_text_13 : decode cX8_text 13 = .ok (.putfield 253, 3) := by decide +kernel
theorem dX8_text_16 : decode cX8_text 16 = .ok (.iload_n 1, 1) := by decide +kernel
theorem dX8_text_17 : decode cX8_text 17 = .ok (.iconst (-1), 1) := by decide +kernel
theorem dX8_text_18 : decode cX8_text 18 = .ok (.if_icmp .eq 8, 3) := by decide +kernel
theorem dX8_text_21 : decode cX8_text 21 = .ok (.bipush (-100), 2) := by decide +kernel
theorem dX8_text_23 : decode cX8_text 23 = .ok (.iload_n 1, 1) := by decide +kernel
theorem dX8_text_24 : decode cX8_text 24 = .ok (.isub, 1) := by decide +kernel
theorem dX8_text_25 : decode cX8_text 25 = .ok (.ireturn, 1) := by decide +kernel
theorem dX8_text_26 : decode cX8_text 26 = .ok (.aload_n 0, 1) := by decide +kernel
theorem dX8_text_27 : decode cX8_text 27 = .ok (.getfield 10, 3) := by decide +kernel
theorem dX8_text_30 : decode cX8_text 30 = .ok (.getfield 262, 3) := by decide +kernel
theorem dX8_text_33 : decode cX8_text 33 = .ok (.bipush 14, 2) := by decide +kernel
theorem dX8_text_35 : decode cX8_text 35 = .ok (.if_icmp .ge 20, 3) := by decide +kernel
theorem dX8_text_38 : decode cX8_text 38 = .ok (.aload_n 0, 1) := by decide +kernel
theorem dX8_text_39 : decode cX8_text 39 = .ok (.getfield 10, 3) := by decide +kernel
theorem dX8_text_42 : decode cX8_text 42 = .ok (.aload_n 0, 1) := by decide +kernel
theorem dX8_text_43 : decode cX8_text 43 = .ok (.getfield 36, 3) := by decide +kernel
theorem dX8_text_46 : decode cX8_text 46 = .ok (.invokevirtual 265, 3) := by decide +kernel
theorem dX8_text_49 : decode cX8_text 49 = .ok (.invokevirtual 269, 3) := by decide +kernel
theorem dX8_text_52 : decode cX8_text 52 = .ok (.goto 5, 3) := by decide +kernel
theorem dX8_text_55 : decode cX8_text 55 = .ok (.ldc 78, 2) := by decide +kernel
theorem dX8_text_57 : decode cX8_text 57 = .ok (.ireturn, 1) := by decide +kernel
theorem dX8_textTold_0 : decode cX8_textTold 0 = .ok (.iload_n 1, 1) := by decide +kernel
theorem dX8_textTold_1 : decode cX8_textTold 1 = .ok (.iconst 0, 1) := by decide +kernel
theorem dX8_textTold_2 : decode cX8_textTold 2 = .ok (.aload_n 0, 1) := by decide +kernel
theorem dX8_textTold_3 : decode cX8_textTold 3 = .ok (.getfield 10, 3) := by decide +kernel
theorem dX8_textTold_6 : decode cX8_textTold 6 = .ok (.getfield 262, 3) := by decide +kernel
theorem dX8_textTold_9 : decode cX8_textTold 9 = .ok (.iconst 1, 1) := by decide +kernel
theorem dX8_textTold_10 : decode cX8_textTold 10 = .ok (.isub, 1) := by decide +kernel
theorem dX8_textTold_11 : decode cX8_textTold 11 = .ok (.invokestatic 70, 3) := by decide +kernel
theorem dX8_textTold_14 : decode cX8_textTold 14 = .ok (.ifCond .eq 12, 3) := by decide +kernel
theorem dX8_textTold_17 : decode cX8_textTold 17 = .ok (.iload_n 2, 1) := by decide +kernel
theorem dX8_textTold_18 : decode cX8_textTold 18 = .ok (.iconst 0, 1) := by decide +kernel
theorem dX8_textTold_19 : decode cX8_textTold 19 = .ok (.iconst 1, 1) := by decide +kernel
theorem dX8_textTold_20 : decode cX8_textTold 20 = .ok (.invokestatic 70, 3) := by decide +kernel
theorem dX8_textTold_23 : decode cX8_textTold 23 = .ok (.ifCond .ne 6, 3) := by decide +kernel
theorem dX8_textTold_26 : decode cX8_textTold 26 = .ok (.ldc 74, 2) := by decide +kernel
theorem dX8_textTold_28 : decode cX8_textTold 28 = .ok (.ireturn, 1) := by decide +kernel
theorem dX8_textTold_29 : decode cX8_textTold 29 = .ok (.aload_n 0, 1) := by decide +kernel
theorem dX8_textTold_30 : decode cX8_textTold 30 = .ok (.getfield 10, 3) := by decide +kernel
theorem dX8_textTold_33 : decode cX8_textTold 33 = .ok (.getfield 273, 3) := by decide +kernel
theorem dX8_textTold_36 : decode cX8_textTold 36 = .ok (.iload_n 1, 1) := by decide +kernel
theorem dX8_textTold_37 : decode cX8_textTold 37 = .ok (.aaload, 1) := by decide +kernel
theorem dX8_textTold_38 : decode cX8_textTold 38 = .ok (.astore_n 3, 1) := by decide +kernel
theorem dX8_textTold_39 : decode cX8_textTold 39 = .ok (.aload_n 3, 1) := by decide +kernel
theorem dX8_textTold_40 : decode cX8_textTold 40 = .ok (.ifnonnull 6, 3) := by decide +kernel
theorem dX8_textTold_43 : decode cX8_textTold 43 = .ok (.ldc 74, 2) := by decide +kernel
theorem dX8_textTold_45 : decode cX8_textTold 45 = .ok (.ireturn, 1) := by decide +kernel
theorem dX8_textTold_46 : decode cX8_textTold 46 = .ok (.iload_n 2, 1) := by decide +kernel
theorem dX8_textTold_47 : decode cX8_textTold 47 = .ok (.ifCond .ne 10, 3) := by decide +kernel
theorem dX8_textTold_50 : decode cX8_textTold 50 = .ok (.aload_n 3, 1) := by decide +kernel
theorem dX8_textTold_51 : decode cX8_textTold 51 = .ok (.getfield 277, 3) := by decide +kernel
theorem dX8_textTold_54 : decode cX8_textTold 54 = .ok (.goto 7, 3) := by decide +kernel
theorem dX8_textTold_57 : decode cX8_textTold 57 = .ok (.aload_n 3, 1) := by decide +kernel
theorem dX8_textTold_58 : decode cX8_textTold 58 = .ok (.getfield 280, 3) := by decide +kernel
theorem dX8_textTold_61 : decode cX8_textTold 61 = .ok (.ireturn, 1) := by decide +kernel
theorem dX8_why_0 : decode cX8_why 0 = .ok (.iload_n 1, 1) := by decide +kernel
theorem dX8_why_1 : decode cX8_why 1 = .ok (.iconst 0, 1) := by decide +kernel
theorem dX8_why_2 : decode cX8_why 2 = .ok (.iconst 2, 1) := by decide +kernel
theorem dX8_why_3 : decode cX8_why 3 = .ok (.invokestatic 70, 3) := by decide +kernel
theorem dX8_why_6 : decode cX8_why 6 = .ok (.ifCond .eq 15, 3) := by decide +kernel
theorem dX8_why_9 : decode cX8_why 9 = .ok (.aload_n 0, 1) := by decide +kernel
theorem dX8_why_10 : decode cX8_why 10 = .ok (.getfield 10, 3) := by decide +kernel
theorem dX8_why_13 : decode cX8_why 13 = .ok (.getfield 283, 3) := by decide +kernel
theorem dX8_why_16 : decode cX8_why 16 = .ok (.iload_n 1, 1) := by decide +kernel
theorem dX8_why_17 : decode cX8_why 17 = .ok (.iaload, 1) := by decide +kernel
theorem dX8_why_18 : decode cX8_why 18 = .ok (.goto 5, 3) := by decide +kernel
theorem dX8_why_21 : decode cX8_why 21 = .ok (.ldc 74, 2) := by decide +kernel
theorem dX8_why_23 : decode cX8_why 23 = .ok (.ireturn, 1) := by decide +kernel
theorem dX8_sheet_0 : decode cX8_sheet 0 = .ok (.iload_n 1, 1) := by decide +kernel
theorem dX8_sheet_1 : decode cX8_sheet 1 = .ok (.invokestatic 216, 3) := by decide +kernel
theorem dX8_sheet_4 : decode cX8_sheet 4 = .ok (.ifCond .eq 12, 3) := by decide +kernel
theorem dX8_sheet_7 : decode cX8_sheet 7 = .ok (.iload_n 2, 1) := by decide +kernel
theorem dX8_sheet_8 : decode cX8_sheet 8 = .ok (.iconst (-1), 1) := by decide +kernel
theorem dX8_sheet_9 : decode cX8_sheet 9 = .ok (.iconst 1, 1) := by decide +kernel
theorem dX8_sheet_10 : decode cX8_sheet 10 = .ok (.invokestatic 70, 3) := by decide +kernel
theorem dX8_sheet_13 : decode cX8_sheet 13 = .ok (.ifCond .ne 6, 3) := by decide +kernel
theorem dX8_sheet_16 : decode cX8_sheet 16 = .ok (.ldc 74, 2) := by decide +kernel
theorem dX8_sheet_18 : decode cX8_sheet 18 = .ok (.ireturn, 1) := by decide +kernel
theorem dX8_sheet_19 : decode cX8_sheet 19 = .ok (.iload_n 2, 1) := by decide +kernel
theorem dX8_sheet_20 : decode cX8_sheet 20 = .ok (.iconst (-1), 1) := by decide +kernel
theorem dX8_sheet_21 : decode cX8_sheet 21 = .ok (.if_icmp .ne 16, 3) := by decide +kernel
theorem dX8_sheet_24 : decode cX8_sheet 24 = .ok (.aload_n 0, 1) := by decide +kernel
theorem dX8_sheet_25 : decode cX8_sheet 25 = .ok (.getfield 47, 3) := by decide +kernel
theorem dX8_sheet_28 : decode cX8_sheet 28 = .ok (.iload_n 1, 1) := by decide +kernel
theorem dX8_sheet_29 : decode cX8_sheet 29 = .ok (.aaload, 1) := by decide +kernel
theorem dX8_sheet_30 : decode cX8_sheet 30 = .ok (.iconst (-1), 1) := by decide +kernel
theorem dX8_sheet_31 : decode cX8_sheet 31 = .ok (.iconst 0, 1) := by decide +kernel
theorem dX8_sheet_32 : decode cX8_sheet 32 = .ok (.invokevirtual 286, 3) := by decide +kernel
theorem dX8_sheet_35 : decode cX8_sheet 35 = .ok (.iconst 0, 1) := by decide +kernel
theorem dX8_sheet_36 : decode cX8_sheet 36 = .ok (.ireturn, 1) := by decide +kernel
theorem dX8_sheet_37 : decode cX8_sheet 37 = .ok (.iload_n 3, 1) := by decide +kernel
theorem dX8_sheet_38 : decode cX8_sheet 38 = .ok (.bipush 24, 2) := by decide +kernel
theorem dX8_sheet_40 : decode cX8_sheet 40 = .ok (.if_icmp .le 6, 3) := by decide +kernel
theorem dX8_sheet_43 : decode cX8_sheet 43 = .ok (.ldc 74, 2) := by decide +kernel
theorem dX8_sheet_45 : decode cX8_sheet 45 = .ok (.ireturn, 1) := by decide +kernel
theorem dX8_sheet_46 : decode cX8_sheet 46 = .ok (.iload_n 3, 1) := by decide +kernel
theorem dX8_sheet_47 : decode cX8_sheet 47 = .ok (.ifCond .ge 7, 3) := by decide +kernel
theorem dX8_sheet_50 : decode cX8_sheet 50 = .ok (.ldc_w 290, 3) := by decide +kernel
theorem dX8_sheet_53 : decode cX8_sheet 53 = .ok (.ireturn, 1) := by decide +kernel
theorem dX8_sheet_54 : decode cX8_sheet 54 = .ok (.aload_n 0, 1) := by decide +kernel
theorem dX8_sheet_55 : decode cX8_sheet 55 = .ok (.getfield 47, 3) := by decide +kernel
theorem dX8_sheet_58 : decode cX8_sheet 58 = .ok (.iload_n 1, 1) := by decide +kernel
theorem dX8_sheet_59 : decode cX8_sheet 59 = .ok (.aaload, 1) := by decide +kernel
theorem dX8_sheet_60 : decode cX8_sheet 60 = .ok (.iload_n 2, 1) := by decide +kernel
theorem dX8_sheet_61 : decode cX8_sheet 61 = .ok (.iload_n 3, 1) := by decide +kernel
theorem dX8_sheet_62 : decode cX8_sheet 62 = .ok (.invokevirtual 286, 3) := by decide +kernel
theorem dX8_sheet_65 : decode cX8_sheet 65 = .ok (.iload_n 3, 1) := by decide +kernel
theorem dX8_sheet_66 : decode cX8_sheet 66 = .ok (.ireturn, 1) := by decide +kernel
theorem dX8_mark_0 : decode cX8_mark 0 = .ok (.iload_n 1, 1) := by decide +kernel
theorem dX8_mark_1 : decode cX8_mark 1 = .ok (.invokestatic 216, 3) := by decide +kernel
theorem dX8_mark_4 : decode cX8_mark 4 = .ok (.ifCond .ne 6, 3) := by decide +kernel
theorem dX8_mark_7 : decode cX8_mark 7 = .ok (.ldc 74, 2) := by decide +kernel
theorem dX8_mark_9 : decode cX8_mark 9 = .ok (.ireturn, 1) := by decide +kernel
theorem dX8_mark_10 : decode cX8_mark 10 = .ok (.aload_n 0, 1) := by decide +kernel
theorem dX8_mark_11 : decode cX8_mark 11 = .ok (.getfield 47, 3) := by decide +kernel
theorem dX8_mark_14 : decode cX8_mark 14 = .ok (.iload_n 1, 1) := by decide +kernel
theorem dX8_mark_15 : decode cX8_mark 15 = .ok (.aaload, 1) := by decide +kernel
theorem dX8_mark_16 : decode cX8_mark 16 = .ok (.astore 4, 2) := by decide +kernel
theorem dX8_mark_18 : decode cX8_mark 18 = .ok (.aload 4, 2) := by decide +kernel
theorem dX8_mark_20 : decode cX8_mark 20 = .ok (.invokevirtual 219, 3) := by decide +kernel
theorem dX8_mark_23 : decode cX8_mark 23 = .ok (.ifCond .eq 6, 3) := by decide +kernel
theorem dX8_mark_26 : decode cX8_mark 26 = .ok (.ldc 223, 2) := by decide +kernel
theorem dX8_mark_28 : decode cX8_mark 28 = .ok (.ireturn, 1) := by decide +kernel
theorem dX8_mark_29 : decode cX8_mark 29 = .ok (.aload 4, 2) := by decide +kernel
theorem dX8_mark_31 : decode cX8_mark 31 = .ok (.iload_n 2, 1) := by decide +kernel
theorem dX8_mark_32 : decode cX8_mark 32 = .ok (.invokevirtual 291, 3) := by decide +kernel
theorem dX8_mark_35 : decode cX8_mark 35 = .ok (.ifCond .ne 7, 3) := by decide +kernel
theorem dX8_mark_38 : decode cX8_mark 38 = .ok (.ldc_w 292, 3) := by decide +kernel
theorem dX8_mark_41 : decode cX8_mark 41 = .ok (.ireturn, 1) := by decide +kernel
theorem dX8_mark_42 : decode cX8_mark 42 = .ok (.aload 4, 2) := by decide +kernel
theorem dX8_mark_44 : decode cX8_mark 44 = .ok (.getfield 293, 3) := by decide +kernel
theorem dX8_mark_47 : decode cX8_mark 47 = .ok (.ifCond .ne 23, 3) := by decide +kernel
theorem dX8_mark_50 : decode cX8_mark 50 = .ok (.iload_n 3, 1) := by decide +kernel
theorem dX8_mark_51 : decode cX8_mark 51 = .ok (.ldc 183, 2) := by decide +kernel
theorem dX8_mark_53 : decode cX8_mark 53 = .ok (.if_icmp .ne 6, 3) := by decide +kernel
theorem dX8_mark_56 : decode cX8_mark 56 = .ok (.ldc 125, 2) := by decide +kernel
theorem dX8_mark_58 : decode cX8_mark 58 = .ok (.ireturn, 1) := by decide +kernel
theorem dX8_mark_59 : decode cX8_mark 59 = .ok (.aload 4, 2) := by decide +kernel
theorem dX8_mark_61 : decode cX8_mark 61 = .ok (.getfield 238, 3) := by decide +kernel
theorem dX8_mark_64 : decode cX8_mark 64 = .ok (.iload_n 2, 1) := by decide +kernel
theorem dX8_mark_65 : decode cX8_mark 65 = .ok (.iload_n 3, 1) := by decide +kernel
theorem dX8_mark_66 : decode cX8_mark 66 = .ok (.i2s, 1) := by decide +kernel
theorem dX8_mark_67 : decode cX8_mark 67 = .ok (.iastore, 1) := by decide +kernel
theorem dX8_mark_68 : decode cX8_mark 68 = .ok (.iconst 1, 1) := by decide +kernel
theorem dX8_mark_69 : decode cX8_mark 69 = .ok (.ireturn, 1) := by decide +kernel
theorem dX8_mark_70 : decode cX8_mark 70 = .ok (.iload_n 3, 1) := by decide +kernel
theorem dX8_mark_71 : decode cX8_mark 71 = .ok (.ldc 183, 2) := by decide +kernel
theorem dX8_mark_73 : decode cX8_mark 73 = .ok (.if_icmp .eq 19, 3) := by decide +kernel
theorem dX8_mark_76 : decode cX8_mark 76 = .ok (.iload_n 3, 1) := by decide +kernel
theorem dX8_mark_77 : decode cX8_mark 77 = .ok (.ldc_w 296, 3) := by decide +kernel
theorem dX8_mark_80 : decode cX8_mark 80 = .ok (.ldc_w 297, 3) := by decide +kernel
theorem dX8_mark_83 : decode cX8_mark 83 = .ok (.invokestatic 70, 3) := by decide +kernel
theorem dX8_mark_86 : decode cX8_mark 86 = .ok (.ifCond .ne 6, 3) := by decide +kernel
theorem dX8_mark_89 : decode cX8_mark 89 = .ok (.ldc 74, 2) := by decide +kernel
theorem dX8_mark_91 : decode cX8_mark 91 = .ok (.ireturn, 1) := by decide +kernel
theorem dX8_mark_92 : decode cX8_mark 92 = .ok (.aload 4, 2) := by decide +kernel
theorem dX8_mark_94 : decode cX8_mark 94 = .ok (.getfield 238, 3) := by decide +kernel
theorem dX8_mark_97 : decode cX8_mark 97 = .ok (.iload_n 2, 1) := by decide +kernel
theorem dX8_mark_98 : decode cX8_mark 98 = .ok (.iload_n 3, 1) := by decide +kernel
theorem dX8_mark_99 : decode cX8_mark 99 = .ok (.iastore, 1) := by decide +kernel
theorem dX8_mark_100 : decode cX8_mark 100 = .ok (.iconst 1, 1) := by decide +kernel
theorem dX8_mark_101 : decode cX8_mark 101 = .ok (.ireturn, 1) := by decide +kernel
theorem dX8_pour_0 : decode cX8_pour 0 = .ok (.iload_n 1, 1) := by decide +kernel
theorem dX8_pour_1 : decode cX8_pour 1 = .ok (.invokestatic 216, 3) := by decide +kernel
theorem dX8_pour_4 : decode cX8_pour 4 = .ok (.ifCond .ne 6, 3) := by decide +kernel
theorem dX8_pour_7 : decode cX8_pour 7 = .ok (.ldc 74, 2) := by decide +kernel
theorem dX8_pour_9 : decode cX8_pour 9 = .ok (.ireturn, 1) := by decide +kernel
theorem dX8_pour_10 : decode cX8_pour 10 = .ok (.aload_n 0, 1) := by decide +kernel
theorem dX8_pour_11 : decode cX8_pour 11 = .ok (.getfield 47, 3) := by decide +kernel
theorem dX8_pour_14 : decode cX8_pour 14 = .ok (.iload_n 1, 1) := by decide +kernel
theorem dX8_pour_15 : decode cX8_pour 15 = .ok (.aaload, 1) := by decide +kernel
theorem dX8_pour_16 : decode cX8_pour 16 = .ok (.astore_n 2, 1) := by decide +kernel
theorem dX8_pour_17 : decode cX8_pour 17 = .ok (.aload_n 2, 1) := by decide +kernel
theorem dX8_pour_18 : decode cX8_pour 18 = .ok (.invokevirtual 219, 3) := by decide +kernel
theorem dX8_pour_21 : decode cX8_pour 21 = .ok (.ifCond .eq 6, 3) := by decide +kernel
theorem dX8_pour_24 : decode cX8_pour 24 = .ok (.ldc 223, 2) := by decide +kernel
theorem dX8_pour_26 : decode cX8_pour 26 = .ok (.ireturn, 1) := by decide +kernel
theorem dX8_pour_27 : decode cX8_pour 27 = .ok (.iconst 0, 1) := by decide +kernel
theorem dX8_pour_28 : decode cX8_pour 28 = .ok (.istore_n 3, 1) := by decide +kernel
theorem dX8_pour_29 : decode cX8_pour 29 = .ok (.iconst 0, 1) := by decide +kernel
theorem dX8_pour_30 : decode cX8_pour 30 = .ok (.istore 4, 2) := by decide +kernel
theorem dX8_pour_32 : decode cX8_pour 32 = .ok (.iload 4, 2) := by decide +kernel
theorem dX8_pour_34 : decode cX8_pour 34 = .ok (.aload_n 0, 1) := by decide +kernel
theorem dX8_pour_35 : decode cX8_pour 35 = .ok (.getfield 10, 3) := by decide +kernel
theorem dX8_pour_38 : decode cX8_pour 38 = .ok (.getfield 75, 3) := by decide +kernel
theorem dX8_pour_41 : decode cX8_pour 41 = .ok (.if_icmp .ge 77, 3) := by decide +kernel
theorem dX8_pour_44 : decode cX8_pour 44 = .ok (.iload 4, 2) := by decide +kernel
theorem dX8_pour_46 : decode cX8_pour 46 = .ok (.aload_n 2, 1) := by decide +kernel
theorem dX8_pour_47 : decode cX8_pour 47 = .ok (.getfield 234, 3) := by decide +kernel
theorem dX8_pour_50 : decode cX8_pour 50 = .ok (.if_icmp .ge 68, 3) := by decide +kernel
theorem dX8_pour_53 : decode cX8_pour 53 = .ok (.aload_n 2, 1) := by decide +kernel
theorem dX8_pour_54 : decode cX8_pour 54 = .ok (.iload 4, 2) := by decide +kernel
theorem dX8_pour_56 : decode cX8_pour 56 = .ok (.invokevirtual 235, 3) := by decide +kernel
theorem dX8_pour_59 : decode cX8_pour 59 = .ok (.ifCond .eq 53, 3) := by decide +kernel
theorem dX8_pour_62 : decode cX8_pour 62 = .ok (.aload_n 2, 1) := by decide +kernel
theorem dX8_pour_63 : decode cX8_pour 63 = .ok (.getfield 238, 3) := by decide +kernel
theorem dX8_pour_66 : decode cX8_pour 66 = .ok (.iload 4, 2) := by decide +kernel
theorem dX8_pour_68 : decode cX8_pour 68 = .ok (.iaload, 1) := by decide +kernel
theorem dX8_pour_69 : decode cX8_pour 69 = .ok (.bipush 99, 2) := by decide +kernel
theorem dX8_pour_71 : decode cX8_pour 71 = .ok (.invokestatic 298, 3) := by decide +kernel
theorem dX8_pour_74 : decode cX8_pour 74 = .ok (.istore 5, 2) := by decide +kernel
theorem dX8_pour_76 : decode cX8_pour 76 = .ok (.iload 5, 2) := by decide +kernel
theorem dX8_pour_78 : decode cX8_pour 78 = .ok (.aload_n 0, 1) := by decide +kernel
theorem dX8_pour_79 : decode cX8_pour 79 = .ok (.getfield 10, 3) := by decide +kernel
theorem dX8_pour_82 : decode cX8_pour 82 = .ok (.getfield 87, 3) := by decide +kernel
theorem dX8_pour_85 : decode cX8_pour 85 = .ok (.iload 4, 2) := by decide +kernel
theorem dX8_pour_87 : decode cX8_pour 87 = .ok (.aaload, 1) := by decide +kernel
theorem dX8_pour_88 : decode cX8_pour 88 = .ok (.getfield 96, 3) := by decide +kernel
theorem dX8_pour_91 : decode cX8_pour 91 = .ok (.if_icmp .eq 6, 3) := by decide +kernel
theorem dX8_pour_94 : decode cX8_pour 94 = .ok (.iinc 3 1, 3) := by decide +kernel
theorem dX8_pour_97 : decode cX8_pour 97 = .ok (.aload_n 0, 1) := by decide +kernel
theorem dX8_pour_98 : decode cX8_pour 98 = .ok (.getfield 10, 3) := by decide +kernel
theorem dX8_pour_101 : decode cX8_pour 101 = .ok (.getfield 87, 3) := by decide +kernel
theorem dX8_pour_104 : decode cX8_pour 104 = .ok (.iload 4, 2) := by decide +kernel
theorem dX8_pour_106 : decode cX8_pour 106 = .ok (.aaload, 1) := by decide +kernel
theorem dX8_pour_107 : decode cX8_pour 107 = .ok (.iload 5, 2) := by decide +kernel
theorem dX8_pour_109 : decode cX8_pour 109 = .ok (.putfield 96, 3) := by decide +kernel
theorem dX8_pour_112 : decode cX8_pour 112 = .ok (.iinc 4 1, 3) := by decide +kernel
theorem dX8_pour_115 : decode cX8_pour 115 = .ok (.goto (-83), 3) := by decide +kernel
theorem dX8_pour_118 : decode cX8_pour 118 = .ok (.iload_n 3, 1) := by decide +kernel
theorem dX8_pour_119 : decode cX8_pour 119 = .ok (.ireturn, 1) := by decide +kernel
theorem dX8_reads_0 : decode cX8_reads 0 = .ok (.iload_n 1, 1) := by decide +kernel
theorem dX8_reads_1 : decode cX8_reads 1 = .ok (.invokestatic 216, 3) := by decide +kernel
theorem dX8_reads_4 : decode cX8_reads 4 = .ok (.ifCond .ne 6, 3) := by decide +kernel
theorem dX8_reads_7 : decode cX8_reads 7 = .ok (.ldc 74, 2) := by decide +kernel
theorem dX8_reads_9 : decode cX8_reads 9 = .ok (.ireturn, 1) := by decide +kernel
theorem dX8_reads_10 : decode cX8_reads 10 = .ok (.aload_n 0, 1) := by decide +kernel
theorem dX8_reads_11 : decode cX8_reads 11 = .ok (.getfield 47, 3) := by decide +kernel
theorem dX8_reads_14 : decode cX8_reads 14 = .ok (.iload_n 1, 1) := by decide +kernel
theorem dX8_reads_15 : decode cX8_reads 15 = .ok (.aaload, 1) := by decide +kernel
theorem dX8_reads_16 : decode cX8_reads 16 = .ok (.astore_n 2, 1) := by decide +kernel
theorem dX8_reads_17 : decode cX8_reads 17 = .ok (.aload_n 2, 1) := by decide +kernel
theorem dX8_reads_18 : decode cX8_reads 18 = .ok (.invokevirtual 219, 3) := by decide +kernel
theorem dX8_reads_21 : decode cX8_reads 21 = .ok (.ifCond .eq 6, 3) := by decide +kernel
theorem dX8_reads_24 : decode cX8_reads 24 = .ok (.ldc 223, 2) := by decide +kernel
theorem dX8_reads_26 : decode cX8_reads 26 = .ok (.ireturn, 1) := by decide +kernel
theorem dX8_reads_27 : decode cX8_reads 27 = .ok (.iconst 0, 1) := by decide +kernel
theorem dX8_reads_28 : decode cX8_reads 28 = .ok (.istore_n 3, 1) := by decide +kernel
theorem dX8_reads_29 : decode cX8_reads 29 = .ok (.iload_n 3, 1) := by decide +kernel
theorem dX8_reads_30 : decode cX8_reads 30 = .ok (.aload_n 2, 1) := by decide +kernel
theorem dX8_reads_31 : decode cX8_reads 31 = .ok (.getfield 234, 3) := by decide +kernel
theorem dX8_reads_34 : decode cX8_reads 34 = .ok (.if_icmp .ge 51, 3) := by decide +kernel
theorem dX8_reads_37 : decode cX8_reads 37 = .ok (.aload_n 2, 1) := by decide +kernel
theorem dX8_reads_38 : decode cX8_reads 38 = .ok (.iload_n 3, 1) := by decide +kernel
theorem dX8_reads_39 : decode cX8_reads 39 = .ok (.invokevirtual 235, 3) := by decide +kernel
theorem dX8_reads_42 : decode cX8_reads 42 = .ok (.ifCond .eq 37, 3) := by decide +kernel
theorem dX8_reads_45 : decode cX8_reads 45 = .ok (.aload_n 0, 1) := by decide +kernel
theorem dX8_reads_46 : decode cX8_reads 46 = .ok (.getfield 10, 3) := by decide +kernel
theorem dX8_reads_49 : decode cX8_reads 49 = .ok (.iload_n 3, 1) := by decide +kernel
theorem dX8_reads_50 : decode cX8_reads 50 = .ok (.invokevirtual 83, 3) := by decide +kernel
theorem dX8_reads_53 : decode cX8_reads 53 = .ok (.ifCond .eq 24, 3) := by decide +kernel
theorem dX8_reads_56 : decode cX8_reads 56 = .ok (.aload_n 2, 1) := by decide +kernel
theorem dX8_reads_57 : decode cX8_reads 57 = .ok (.getfield 238, 3) := by decide +kernel
theorem dX8_reads_60 : decode cX8_reads 60 = .ok (.iload_n 3, 1) := by decide +kernel
theorem dX8_reads_61 : decode cX8_reads 61 = .ok (.iaload, 1) := by decide +kernel
theorem dX8_reads_62 : decode cX8_reads 62 = .ok (.aload_n 0, 1) := by decide +kernel
theorem dX8_reads_63 : decode cX8_reads 63 = .ok (.getfield 10, 3) := by decide +kernel
theorem dX8_reads_66 : decode cX8_reads 66 = .ok (.getfield 87, 3) := by decide +kernel
theorem dX8_reads_69 : decode cX8_reads 69 = .ok (.iload_n 3, 1) := by decide +kernel
theorem dX8_reads_70 : decode cX8_reads 70 = .ok (.aaload, 1) := by decide +kernel
theorem dX8_reads_71 : decode cX8_reads 71 = .ok (.getfield 99, 3) := by decide +kernel
theorem dX8_reads_74 : decode cX8_reads 74 = .ok (.if_icmp .eq 5, 3) := by decide +kernel
theorem dX8_reads_77 : decode cX8_reads 77 = .ok (.iload_n 3, 1) := by decide +kernel
theorem dX8_reads_78 : decode cX8_reads 78 = .ok (.ireturn, 1) := by decide +kernel
theorem dX8_reads_79 : decode cX8_reads 79 = .ok (.iinc 3 1, 3) := by decide +kernel
theorem dX8_reads_82 : decode cX8_reads 82 = .ok (.goto (-53), 3) := by decide +kernel
theorem dX8_reads_85 : decode cX8_reads 85 = .ok (.ldc 183, 2) := by decide +kernel
theorem dX8_reads_87 : decode cX8_reads 87 = .ok (.ireturn, 1) := by decide +kernel
theorem dX8_copy_0 : decode cX8_copy 0 = .ok (.iload_n 1, 1) := by decide +kernel
theorem dX8_copy_1 : decode cX8_copy 1 = .ok (.invokestatic 216, 3) := by decide +kernel
theorem dX8_copy_4 : decode cX8_copy 4 = .ok (.ifCond .eq 10, 3) := by decide +kernel
theorem dX8_copy_7 : decode cX8_copy 7 = .ok (.iload_n 3, 1) := by decide +kernel
theorem dX8_copy_8 : decode cX8_copy 8 = .ok (.invokestatic 216, 3) := by decide +kernel
theorem dX8_copy_11 : decode cX8_copy 11 = .ok (.ifCond .ne 6, 3) := by decide +kernel
theorem dX8_copy_14 : decode cX8_copy 14 = .ok (.ldc 74, 2) := by decide +kernel
theorem dX8_copy_16 : decode cX8_copy 16 = .ok (.ireturn, 1) := by decide +kernel
theorem dX8_copy_17 : decode cX8_copy 17 = .ok (.aload_n 0, 1) := by decide +kernel
theorem dX8_copy_18 : decode cX8_copy 18 = .ok (.getfield 47, 3) := by decide +kernel
theorem dX8_copy_21 : decode cX8_copy 21 = .ok (.iload_n 1, 1) := by decide +kernel
theorem dX8_copy_22 : decode cX8_copy 22 = .ok (.aaload, 1) := by decide +kernel
theorem dX8_copy_23 : decode cX8_copy 23 = .ok (.astore 6, 2) := by decide +kernel
theorem dX8_copy_25 : decode cX8_copy 25 = .ok (.aload_n 0, 1) := by decide +kernel
theorem dX8_copy_26 : decode cX8_copy 26 = .ok (.getfield 47, 3) := by decide +kernel
theorem dX8_copy_29 : decode cX8_copy 29 = .ok (.iload_n 3, 1) := by decide +kernel
theorem dX8_copy_30 : decode cX8_copy 30 = .ok (.aaload, 1) := by decide +kernel
theorem dX8_copy_31 : decode cX8_copy 31 = .ok (.astore 7, 2) := by decide +kernel
theorem dX8_copy_33 : decode cX8_copy 33 = .ok (.aload 6, 2) := by decide +kernel
theorem dX8_copy_35 : decode cX8_copy 35 = .ok (.invokevirtual 219, 3) := by decide +kernel
theorem dX8_copy_38 : decode cX8_copy 38 = .ok (.ifCond .ne 11, 3) := by decide +kernel
theorem dX8_copy_41 : decode cX8_copy 41 = .ok (.aload 7, 2) := by decide +kernel
theorem dX8_copy_43 : decode cX8_copy 43 = .ok (.invokevirtual 219, 3) := by decide +kernel
theorem dX8_copy_46 : decode cX8_copy 46 = .ok (.ifCond .eq 6, 3) := by decide +kernel
theorem dX8_copy_49 : decode cX8_copy 49 = .ok (.ldc 223, 2) := by decide +kernel
theorem dX8_copy_51 : decode cX8_copy 51 = .ok (.ireturn, 1) := by decide +kernel
theorem dX8_copy_52 : decode cX8_copy 52 = .ok (.aload 6, 2) := by decide +kernel
theorem dX8_copy_54 : decode cX8_copy 54 = .ok (.getfield 293, 3) := by decide +kernel
theorem dX8_copy_57 : decode cX8_copy 57 = .ok (.aload 7, 2) := by decide +kernel
theorem dX8_copy_59 : decode cX8_copy 59 = .ok (.getfield 293, 3) := by decide +kernel
theorem dX8_copy_62 : decode cX8_copy 62 = .ok (.if_icmp .eq 6, 3) := by decide +kernel
theorem dX8_copy_65 : decode cX8_copy 65 = .ok (.ldc 125, 2) := by decide +kernel
theorem dX8_copy_67 : decode cX8_copy 67 = .ok (.ireturn, 1) := by decide +kernel
theorem dX8_copy_68 : decode cX8_copy 68 = .ok (.aload 6, 2) := by decide +kernel
theorem dX8_copy_70 : decode cX8_copy 70 = .ok (.iload_n 2, 1) := by decide +kernel
theorem dX8_copy_71 : decode cX8_copy 71 = .ok (.iload 5, 2) := by decide +kernel
theorem dX8_copy_73 : decode cX8_copy 73 = .ok (.invokevirtual 301, 3) := by decide +kernel
theorem dX8_copy_76 : decode cX8_copy 76 = .ok (.ifCond .eq 15, 3) := by decide +kernel
theorem dX8_copy_79 : decode cX8_copy 79 = .ok (.aload 7, 2) := by decide +kernel
theorem dX8_copy_81 : decode cX8_copy 81 = .ok (.iload 4, 2) := by decide +kernel
theorem dX8_copy_83 : decode cX8_copy 83 = .ok (.iload 5, 2) := by decide +kernel
theorem dX8_copy_85 : decode cX8_copy 85 = .ok (.invokevirtual 301, 3) := by decide +kernel
theorem dX8_copy_88 : decode cX8_copy 88 = .ok (.ifCond .ne 7, 3) := by decide +kernel
theorem dX8_copy_91 : decode cX8_copy 91 = .ok (.ldc_w 292, 3) := by decide +kernel
theorem dX8_copy_94 : decode cX8_copy 94 = .ok (.ireturn, 1) := by decide +kernel
theorem dX8_copy_95 : decode cX8_copy 95 = .ok (.aload 6, 2) := by decide +kernel
theorem dX8_copy_97 : decode cX8_copy 97 = .ok (.getfield 238, 3) := by decide +kernel
theorem dX8_copy_100 : decode cX8_copy 100 = .ok (.iload_n 2, 1) := by decide +kernel
theorem dX8_copy_101 : decode cX8_copy 101 = .ok (.aload 7, 2) := by decide +kernel
theorem dX8_copy_103 : decode cX8_copy 103 = .ok (.getfield 238, 3) := by decide +kernel
theorem dX8_copy_106 : decode cX8_copy 106 = .ok (.iload 4, 2) := by decide +kernel
theorem dX8_copy_108 : decode cX8_copy 108 = .ok (.iload 5, 2) := by decide +kernel
theorem dX8_copy_110 : decode cX8_copy 110 = .ok (.invokestatic 305, 3) := by decide +kernel
theorem dX8_copy_113 : decode cX8_copy 113 = .ok (.iload 5, 2) := by decide +kernel
theorem dX8_copy_115 : decode cX8_copy 115 = .ok (.ireturn, 1) := by decide +kernel
theorem dX8_lay_0 : decode cX8_lay 0 = .ok (.iload_n 1, 1) := by decide +kernel
theorem dX8_lay_1 : decode cX8_lay 1 = .ok (.invokestatic 311, 3) := by decide +kernel
theorem dX8_lay_4 : decode cX8_lay 4 = .ok (.ifCond .eq 40, 3) := by decide +kernel
theorem dX8_lay_7 : decode cX8_lay 7 = .ok (.iload_n 2, 1) := by decide +kernel
theorem dX8_lay_8 : decode cX8_lay 8 = .ok (.iconst 0, 1) := by decide +kernel
theorem dX8_lay_9 : decode cX8_lay 9 = .ok (.iconst 3, 1) := by decide +kernel
theorem dX8_lay_10 : decode cX8_lay 10 = .ok (.invokestatic 70, 3) := by decide +kernel
theorem dX8_lay_13 : decode cX8_lay 13 = .ok (.ifCond .eq 31, 3) := by decide +kernel
theorem dX8_lay_16 : decode cX8_lay 16 = .ok (.iload_n 2, 1) := by decide +kernel
theorem dX8_lay_17 : decode cX8_lay 17 = .ok (.iconst 1, 1) := by decide +kernel
theorem dX8_lay_18 : decode cX8_lay 18 = .ok (.if_icmp .ne 14, 3) := by decide +kernel
theorem dX8_lay_21 : decode cX8_lay 21 = .ok (.aload_n 0, 1) := by decide +kernel
theorem dX8_lay_22 : decode cX8_lay 22 = .ok (.getfield 10, 3) := by decide +kernel
theorem dX8_lay_25 : decode cX8_lay 25 = .ok (.iload_n 3, 1) := by decide +kernel
theorem dX8_lay_26 : decode cX8_lay 26 = .ok (.invokevirtual 83, 3) := by decide +kernel
theorem dX8_lay_29 : decode cX8_lay 29 = .ok (.ifCond .eq 15, 3) := by decide +kernel
theorem dX8_lay_32 : decode cX8_lay 32 = .ok (.iload_n 2, 1) := by decide +kernel
theorem dX8_lay_33 : decode cX8_lay 33 = .ok (.iconst 2, 1) := by decide +kernel
theorem dX8_lay_34 : decode cX8_lay 34 = .ok (.if_icmp .ne 13, 3) := by decide +kernel
theorem dX8_lay_37 : decode cX8_lay 37 = .ok (.iload_n 3, 1) := by decide +kernel
theorem dX8_lay_38 : decode cX8_lay 38 = .ok (.invokestatic 216, 3) := by decide +kernel
theorem dX8_lay_41 : decode cX8_lay 41 = .ok (.ifCond .ne 6, 3) := by decide +kernel
theorem dX8_lay_44 : decode cX8_lay 44 = .ok (.ldc 74, 2) := by decide +kernel
theorem dX8_lay_46 : decode cX8_lay 46 = .ok (.ireturn, 1) := by decide +kernel
theorem dX8_lay_47 : decode cX8_lay 47 = .ok (.iload_n 2, 1) := by decide +kernel
theorem dX8_lay_48 : decode cX8_lay 48 = .ok (.iconst 2, 1) := by decide +kernel
theorem dX8_lay_49 : decode cX8_lay 49 = .ok (.if_icmp .ne 18, 3) := by decide +kernel
theorem dX8_lay_52 : decode cX8_lay 52 = .ok (.aload_n 0, 1) := by decide +kernel
theorem dX8_lay_53 : decode cX8_lay 53 = .ok (.getfield 47, 3) := by decide +kernel
theorem dX8_lay_56 : decode cX8_lay 56 = .ok (.iload_n 3, 1) := by decide +kernel
theorem dX8_lay_57 : decode cX8_lay 57 = .ok (.aaload, 1) := by decide +kernel
theorem dX8_lay_58 : decode cX8_lay 58 = .ok (.invokevirtual 219, 3) := by decide +kernel
theorem dX8_lay_61 : decode cX8_lay 61 = .ok (.ifCond .eq 6, 3) := by decide +kernel
theorem dX8_lay_64 : decode cX8_lay 64 = .ok (.ldc 223, 2) := by decide +kernel
theorem dX8_lay_66 : decode cX8_lay 66 = .ok (.ireturn, 1) := by decide +kernel
theorem dX8_lay_67 : decode cX8_lay 67 = .ok (.aload_n 0, 1) := by decide +kernel
theorem dX8_lay_68 : decode cX8_lay 68 = .ok (.getfield 53, 3) := by decide +kernel
theorem dX8_lay_71 : decode cX8_lay 71 = .ok (.iload_n 1, 1) := by decide +kernel
theorem dX8_lay_72 : decode cX8_lay 72 = .ok (.aaload, 1) := by decide +kernel
theorem dX8_lay_73 : decode cX8_lay 73 = .ok (.astore 4, 2) := by decide +kernel
theorem dX8_lay_75 : decode cX8_lay 75 = .ok (.aload 4, 2) := by decide +kernel
theorem dX8_lay_77 : decode cX8_lay 77 = .ok (.getfield 314, 3) := by decide +kernel
theorem dX8_lay_80 : decode cX8_lay 80 = .ok (.istore 5, 2) := by decide +kernel
theorem dX8_lay_82 : decode cX8_lay 82 = .ok (.aload 4, 2) := by decide +kernel
theorem dX8_lay_84 : decode cX8_lay 84 = .ok (.iload_n 2, 1) := by decide +kernel
theorem dX8_lay_85 : decode cX8_lay 85 = .ok (.putfield 314, 3) := by decide +kernel
theorem dX8_lay_88 : decode cX8_lay 88 = .ok (.iload_n 2, 1) := by decide +kernel
theorem dX8_lay_89 : decode cX8_lay 89 = .ok (.lookupswitch 64 #[(1, 27), (2, 47)], 27) := by decide +kernel
theorem dX8_lay_116 : decode cX8_lay 116 = .ok (.aload 4, 2) := by decide +kernel
theorem dX8_lay_118 : decode cX8_lay 118 = .ok (.getfield 317, 3) := by decide +kernel
theorem dX8_lay_121 : decode cX8_lay 121 = .ok (.aload_n 0, 1) := by decide +kernel
theorem dX8_lay_122 : decode cX8_lay 122 = .ok (.getfield 10, 3) := by decide +kernel
theorem dX8_lay_125 : decode cX8_lay 125 = .ok (.getfield 87, 3) := by decide +kernel
theorem dX8_lay_128 : decode cX8_lay 128 = .ok (.iload_n 3, 1) := by decide +kernel
theorem dX8_lay_129 : decode cX8_lay 129 = .ok (.aaload, 1) := by decide +kernel
theorem dX8_lay_130 : decode cX8_lay 130 = .ok (.invokevirtual 321, 3) := by decide +kernel
theorem dX8_lay_133 : decode cX8_lay 133 = .ok (.goto 26, 3) := by decide +kernel
theorem dX8_lay_136 : decode cX8_lay 136 = .ok (.aload 4, 2) := by decide +kernel
theorem dX8_lay_138 : decode cX8_lay 138 = .ok (.getfield 324, 3) := by decide +kernel
theorem dX8_lay_141 : decode cX8_lay 141 = .ok (.aload_n 0, 1) := by decide +kernel
theorem dX8_lay_142 : decode cX8_lay 142 = .ok (.getfield 47, 3) := by decide +kernel
theorem dX8_lay_145 : decode cX8_lay 145 = .ok (.iload_n 3, 1) := by decide +kernel
theorem dX8_lay_146 : decode cX8_lay 146 = .ok (.aaload, 1) := by decide +kernel
theorem dX8_lay_147 : decode cX8_lay 147 = .ok (.invokevirtual 328, 3) := by decide +kernel
theorem dX8_lay_150 : decode cX8_lay 150 = .ok (.goto 9, 3) := by decide +kernel
theorem dX8_lay_153 : decode cX8_lay 153 = .ok (.aload 4, 2) := by decide +kernel
theorem dX8_lay_155 : decode cX8_lay 155 = .ok (.iload_n 3, 1) := by decide +kernel
theorem dX8_lay_156 : decode cX8_lay 156 = .ok (.putfield 330, 3) := by decide +kernel
theorem dX8_lay_159 : decode cX8_lay 159 = .ok (.iload 5, 2) := by decide +kernel
theorem dX8_lay_161 : decode cX8_lay 161 = .ok (.ireturn, 1) := by decide +kernel
theorem dX8_ask_0 : decode cX8_ask 0 = .ok (.iload_n 1, 1) := by decide +kernel
theorem dX8_ask_1 : decode cX8_ask 1 = .ok (.invokestatic 311, 3) := by decide +kernel
theorem dX8_ask_4 : decode cX8_ask 4 = .ok (.ifCond .eq 12, 3) := by decide +kernel
theorem dX8_ask_7 : decode cX8_ask 7 = .ok (.iload_n 2, 1) := by decide +kernel
theorem dX8_ask_8 : decode cX8_ask 8 = .ok (.iconst 0, 1) := by decide +kernel
theorem dX8_ask_9 : decode cX8_ask 9 = .ok (.iconst 5, 1) := by decide +kernel
theorem dX8_ask_10 : decode cX8_ask 10 = .ok (.invokestatic 70, 3) := by decide +kernel
theorem dX8_ask_13 : decode cX8_ask 13 = .ok (.ifCond .ne 6, 3) := by decide +kernel
theorem dX8_ask_16 : decode cX8_ask 16 = .ok (.ldc 74, 2) := by decide +kernel
theorem dX8_ask_18 : decode cX8_ask 18 = .ok (.ireturn, 1) := by decide +kernel
theorem dX8_ask_19 : decode cX8_ask 19 = .ok (.aload_n 0, 1) := by decide +kernel
theorem dX8_ask_20 : decode cX8_ask 20 = .ok (.getfield 53, 3) := by decide +kernel
theorem dX8_ask_23 : decode cX8_ask 23 = .ok (.iload_n 1, 1) := by decide +kernel
theorem dX8_ask_24 : decode cX8_ask 24 = .ok (.aaload, 1) := by decide +kernel
theorem dX8_ask_25 : decode cX8_ask 25 = .ok (.astore_n 3, 1) := by decide +kernel
theorem dX8_ask_26 : decode cX8_ask 26 = .ok (.aload_n 3, 1) := by decide +kernel
theorem dX8_ask_27 : decode cX8_ask 27 = .ok (.getfield 314, 3) := by decide +kernel
theorem dX8_ask_30 : decode cX8_ask 30 = .ok (.ifCond .ne 6, 3) := by decide +kernel
theorem dX8_ask_33 : decode cX8_ask 33 = .ok (.ldc 223, 2) := by decide +kernel
theorem dX8_ask_35 : decode cX8_ask 35 = .ok (.ireturn, 1) := by decide +kernel
theorem dX8_ask_36 : decode cX8_ask 36 = .ok (.aload_n 3, 1) := by decide +kernel
theorem dX8_ask_37 : decode cX8_ask 37 = .ok (.getfield 314, 3) := by decide +kernel
theorem dX8_ask_40 : decode cX8_ask 40 = .ok (.iconst 1, 1) := by decide +kernel
theorem dX8_ask_41 : decode cX8_ask 41 = .ok (.if_icmp .ne 14, 3) := by decide +kernel
theorem dX8_ask_44 : decode cX8_ask 44 = .ok (.aload_n 3, 1) := by decide +kernel
theorem dX8_ask_45 : decode cX8_ask 45 = .ok (.getfield 317, 3) := by decide +kernel
theorem dX8_ask_48 : decode cX8_ask 48 = .ok (.iload_n 2, 1) := by decide +kernel
theorem dX8_ask_49 : decode cX8_ask 49 = .ok (.invokevirtual 122, 3) := by decide +kernel
theorem dX8_ask_52 : decode cX8_ask 52 = .ok (.ifCond .ne 6, 3) := by decide +kernel
theorem dX8_ask_55 : decode cX8_ask 55 = .ok (.ldc 125, 2) := by decide +kernel
theorem dX8_ask_57 : decode cX8_ask 57 = .ok (.ireturn, 1) := by decide +kernel
theorem dX8_ask_58 : decode cX8_ask 58 = .ok (.aload_n 3, 1) := by decide +kernel
theorem dX8_ask_59 : decode cX8_ask 59 = .ok (.getfield 317, 3) := by decide +kernel
theorem dX8_ask_62 : decode cX8_ask 62 = .ok (.invokevirtual 115, 3) := by decide +kernel
theorem dX8_ask_65 : decode cX8_ask 65 = .ok (.ireturn, 1) := by decide +kernel
theorem dX8_item_0 : decode cX8_item 0 = .ok (.iload_n 1, 1) := by decide +kernel
theorem dX8_item_1 : decode cX8_item 1 = .ok (.invokestatic 311, 3) := by decide +kernel
theorem dX8_item_4 : decode cX8_item 4 = .ok (.ifCond .ne 6, 3) := by decide +kernel
theorem dX8_item_7 : decode cX8_item 7 = .ok (.ldc 74, 2) := by decide +kernel
theorem dX8_item_9 : decode cX8_item 9 = .ok (.ireturn, 1) := by decide +kernel
theorem dX8_item_10 : decode cX8_item 10 = .ok (.aload_n 0, 1) := by decide +kernel
theorem dX8_item_11 : decode cX8_item 11 = .ok (.getfield 53, 3) := by decide +kernel
theorem dX8_item_14 : decode cX8_item 14 = .ok (.iload_n 1, 1) := by decide +kernel
theorem dX8_item_15 : decode cX8_item 15 = .ok (.aaload, 1) := by decide +kernel
theorem dX8_item_16 : decode cX8_item 16 = .ok (.astore_n 3, 1) := by decide +kernel
theorem dX8_item_17 : decode cX8_item 17 = .ok (.aload_n 3, 1) := by decide +kernel
theorem dX8_item_18 : decode cX8_item 18 = .ok (.getfield 314, 3) := by decide +kernel
theorem dX8_item_21 : decode cX8_item 21 = .ok (.ifCond .ne 6, 3) := by decide +kernel
theorem dX8_item_24 : decode cX8_item 24 = .ok (.ldc 223, 2) := by decide +kernel
theorem dX8_item_26 : decode cX8_item 26 = .ok (.ireturn, 1) := by decide +kernel
theorem dX8_item_27 : decode cX8_item 27 = .ok (.aload_n 3, 1) := by decide +kernel
theorem dX8_item_28 : decode cX8_item 28 = .ok (.getfield 314, 3) := by decide +kernel
theorem dX8_item_31 : decode cX8_item 31 = .ok (.iconst 2, 1) := by decide +kernel
theorem dX8_item_32 : decode cX8_item 32 = .ok (.if_icmp .eq 6, 3) := by decide +kernel
theorem dX8_item_35 : decode cX8_item 35 = .ok (.ldc 125, 2) := by decide +kernel
theorem dX8_item_37 : decode cX8_item 37 = .ok (.ireturn, 1) := by decide +kernel
theorem dX8_item_38 : decode cX8_item 38 = .ok (.aload_n 3, 1) := by decide +kernel
theorem dX8_item_39 : decode cX8_item 39 = .ok (.getfield 324, 3) := by decide +kernel
theorem dX8_item_42 : decode cX8_item 42 = .ok (.iload_n 2, 1) := by decide +kernel
theorem dX8_item_43 : decode cX8_item 43 = .ok (.invokevirtual 291, 3) := by decide +kernel
theorem dX8_item_46 : decode cX8_item 46 = .ok (.ifCond .ne 7, 3) := by decide +kernel
theorem dX8_item_49 : decode cX8_item 49 = .ok (.ldc_w 292, 3) := by decide +kernel
theorem dX8_item_52 : decode cX8_item 52 = .ok (.ireturn, 1) := by decide +kernel
theorem dX8_item_53 : decode cX8_item 53 = .ok (.aload_n 3, 1) := by decide +kernel
theorem dX8_item_54 : decode cX8_item 54 = .ok (.getfield 324, 3) := by decide +kernel
theorem dX8_item_57 : decode cX8_item 57 = .ok (.iload_n 2, 1) := by decide +kernel
theorem dX8_item_58 : decode cX8_item 58 = .ok (.invokevirtual 235, 3) := by decide +kernel
theorem dX8_item_61 : decode cX8_item 61 = .ok (.ifCond .eq 15, 3) := by decide +kernel
theorem dX8_item_64 : decode cX8_item 64 = .ok (.aload_n 3, 1) := by decide +kernel
theorem dX8_item_65 : decode cX8_item 65 = .ok (.getfield 324, 3) := by decide +kernel
theorem dX8_item_68 : decode cX8_item 68 = .ok (.getfield 238, 3) := by decide +kernel
theorem dX8_item_71 : decode cX8_item 71 = .ok (.iload_n 2, 1) := by decide +kernel
theorem dX8_item_72 : decode cX8_item 72 = .ok (.iaload, 1) := by decide +kernel
theorem dX8_item_73 : decode cX8_item 73 = .ok (.goto 5, 3) := by decide +kernel
theorem dX8_item_76 : decode cX8_item 76 = .ok (.ldc 125, 2) := by decide +kernel
theorem dX8_item_78 : decode cX8_item 78 = .ok (.ireturn, 1) := by decide +kernel
theorem dX8_rest_0 : decode cX8_rest 0 = .ok (.iload_n 1, 1) := by decide +kernel
theorem dX8_rest_1 : decode cX8_rest 1 = .ok (.invokestatic 311, 3) := by decide +kernel
theorem dX8_rest_4 : decode cX8_rest 4 = .ok (.ifCond .ne 6, 3) := by decide +kernel
theorem dX8_rest_7 : decode cX8_rest 7 = .ok (.ldc 74, 2) := by decide +kernel
theorem dX8_rest_9 : decode cX8_rest 9 = .ok (.ireturn, 1) := by decide +kernel
theorem dX8_rest_10 : decode cX8_rest 10 = .ok (.aload_n 0, 1) := by decide +kernel
theorem dX8_rest_11 : decode cX8_rest 11 = .ok (.getfield 53, 3) := by decide +kernel
theorem dX8_rest_14 : decode cX8_rest 14 = .ok (.iload_n 1, 1) := by decide +kernel
theorem dX8_rest_15 : decode cX8_rest 15 = .ok (.aaload, 1) := by decide +kernel
theorem dX8_rest_16 : decode cX8_rest 16 = .ok (.astore_n 3, 1) := by decide +kernel
theorem dX8_rest_17 : decode cX8_rest 17 = .ok (.aload_n 3, 1) := by decide +kernel
theorem dX8_rest_18 : decode cX8_rest 18 = .ok (.getfield 314, 3) := by decide +kernel
theorem dX8_rest_21 : decode cX8_rest 21 = .ok (.ifCond .ne 6, 3) := by decide +kernel
theorem dX8_rest_24 : decode cX8_rest 24 = .ok (.ldc 223, 2) := by decide +kernel
theorem dX8_rest_26 : decode cX8_rest 26 = .ok (.ireturn, 1) := by decide +kernel
theorem dX8_rest_27 : decode cX8_rest 27 = .ok (.aload_n 3, 1) := by decide +kernel
theorem dX8_rest_28 : decode cX8_rest 28 = .ok (.getfield 314, 3) := by decide +kernel
theorem dX8_rest_31 : decode cX8_rest 31 = .ok (.iconst 3, 1) := by decide +kernel
theorem dX8_rest_32 : decode cX8_rest 32 = .ok (.if_icmp .eq 6, 3) := by decide +kernel
theorem dX8_rest_35 : decode cX8_rest 35 = .ok (.ldc 125, 2) := by decide +kernel
theorem dX8_rest_37 : decode cX8_rest 37 = .ok (.ireturn, 1) := by decide +kernel
theorem dX8_rest_38 : decode cX8_rest 38 = .ok (.iload_n 2, 1) := by decide +kernel
theorem dX8_rest_39 : decode cX8_rest 39 = .ok (.ifCond .ne 8, 3) := by decide +kernel
theorem dX8_rest_42 : decode cX8_rest 42 = .ok (.ldc 136, 2) := by decide +kernel
theorem dX8_rest_44 : decode cX8_rest 44 = .ok (.goto 9, 3) := by decide +kernel
theorem dX8_rest_47 : decode cX8_rest 47 = .ok (.aload_n 3, 1) := by decide +kernel
theorem dX8_rest_48 : decode cX8_rest 48 = .ok (.getfield 330, 3) := by decide +kernel
theorem dX8_rest_51 : decode cX8_rest 51 = .ok (.iload_n 2, 1) := by decide +kernel
theorem dX8_rest_52 : decode cX8_rest 52 = .ok (.irem, 1) := by decide +kernel
theorem dX8_rest_53 : decode cX8_rest 53 = .ok (.ireturn, 1) := by decide +kernel
theorem dX8_tell_0 : decode cX8_tell 0 = .ok (.aload_n 0, 1) := by decide +kernel
theorem dX8_tell_1 : decode cX8_tell 1 = .ok (.getfield 61, 3) := by decide +kernel
theorem dX8_tell_4 : decode cX8_tell 4 = .ok (.bipush 60, 2) := by decide +kernel
theorem dX8_tell_6 : decode cX8_tell 6 = .ok (.if_icmp .lt 6, 3) := by decide +kernel
theorem dX8_tell_9 : decode cX8_tell 9 = .ok (.ldc 78, 2) := by decide +kernel
theorem dX8_tell_11 : decode cX8_tell 11 = .ok (.ireturn, 1) := by decide +kernel
theorem dX8_tell_12 : decode cX8_tell 12 = .ok (.aload_n 0, 1) := by decide +kernel
theorem dX8_tell_13 : decode cX8_tell 13 = .ok (.getfield 57, 3) := by decide +kernel
theorem dX8_tell_16 : decode cX8_tell 16 = .ok (.aload_n 0, 1) := by decide +kernel
theorem dX8_tell_17 : decode cX8_tell 17 = .ok (.getfield 61, 3) := by decide +kernel
theorem dX8_tell_20 : decode cX8_tell 20 = .ok (.iload_n 1, 1) := by decide +kernel
theorem dX8_tell_21 : decode cX8_tell 21 = .ok (.iastore, 1) := by decide +kernel
theorem dX8_tell_22 : decode cX8_tell 22 = .ok (.aload_n 0, 1) := by decide +kernel
theorem dX8_tell_23 : decode cX8_tell 23 = .ok (.dup, 1) := by decide +kernel
theorem dX8_tell_24 : decode cX8_tell 24 = .ok (.getfield 61, 3) := by decide +kernel
theorem dX8_tell_27 : decode cX8_tell 27 = .ok (.iconst 1, 1) := by decide +kernel
theorem dX8_tell_28 : decode cX8_tell 28 = .ok (.iadd, 1) := by decide +kernel
theorem dX8_tell_29 : decode cX8_tell 29 = .ok (.putfield 61, 3) := by decide +kernel
theorem dX8_tell_32 : decode cX8_tell 32 = .ok (.aload_n 0, 1) := by decide +kernel
theorem dX8_tell_33 : decode cX8_tell 33 = .ok (.getfield 61, 3) := by decide +kernel
theorem dX8_tell_36 : decode cX8_tell 36 = .ok (.ireturn, 1) := by decide +kernel
theorem dX8_check_0 : decode cX8_check 0 = .ok (.aload_n 0, 1) := by decide +kernel
theorem dX8_check_1 : decode cX8_check 1 = .ok (.getfield 61, 3) := by decide +kernel
theorem dX8_check_4 : decode cX8_check 4 = .ok (.istore_n 2, 1) := by decide +kernel
theorem dX8_check_5 : decode cX8_check 5 = .ok (.aload_n 0, 1) := by decide +kernel
theorem dX8_check_6 : decode cX8_check 6 = .ok (.iconst 0, 1) := by decide +kernel
theorem dX8_check_7 : decode cX8_check 7 = .ok (.putfield 61, 3) := by decide +kernel
theorem dX8_check_10 : decode cX8_check 10 = .ok (.iload_n 1, 1) := by decide +kernel
theorem dX8_check_11 : decode cX8_check 11 = .ok (.iconst 1, 1) := by decide +kernel
theorem dX8_check_12 : decode cX8_check 12 = .ok (.bipush 30, 2) := by decide +kernel
theorem dX8_check_14 : decode cX8_check 14 = .ok (.invokestatic 70, 3) := by decide +kernel
theorem dX8_check_17 : decode cX8_check 17 = .ok (.ifCond .ne 6, 3) := by decide +kernel
theorem dX8_check_20 : decode cX8_check 20 = .ok (.ldc 74, 2) := by decide +kernel
theorem dX8_check_22 : decode cX8_check 22 = .ok (.ireturn, 1) := by decide +kernel
theorem dX8_check_23 : decode cX8_check 23 = .ok (.aload_n 0, 1) := by decide +kernel
theorem dX8_check_24 : decode cX8_check 24 = .ok (.getfield 22, 3) := by decide +kernel
theorem dX8_check_27 : decode cX8_check 27 = .ok (.ifCond .ne 6, 3) := by decide +kernel
theorem dX8_check_30 : decode cX8_check 30 = .ok (.ldc 136, 2) := by decide +kernel
theorem dX8_check_32 : decode cX8_check 32 = .ok (.ireturn, 1) := by decide +kernel
theorem dX8_check_33 : decode cX8_check 33 = .ok (.aload_n 0, 1) := by decide +kernel
theorem dX8_check_34 : decode cX8_check 34 = .ok (.getfield 19, 3) := by decide +kernel
theorem dX8_check_37 : decode cX8_check 37 = .ok (.aload_n 0, 1) := by decide +kernel
theorem dX8_check_38 : decode cX8_check 38 = .ok (.getfield 16, 3) := by decide +kernel
theorem dX8_check_41 : decode cX8_check 41 = .ok (.invokevirtual 209, 3) := by decide +kernel
theorem dX8_check_44 : decode cX8_check 44 = .ok (.iload_n 1, 1) := by decide +kernel
theorem dX8_check_45 : decode cX8_check 45 = .ok (.sipush 9999, 3) := by decide +kernel
theorem dX8_check_48 : decode cX8_check 48 = .ok (.aload_n 0, 1) := by decide +kernel
theorem dX8_check_49 : decode cX8_check 49 = .ok (.getfield 16, 3) := by decide +kernel
theorem dX8_check_52 : decode cX8_check 52 = .ok (.getfield 161, 3) := by decide +kernel
theorem dX8_check_55 : decode cX8_check 55 = .ok (.isub, 1) := by decide +kernel
theorem dX8_check_56 : decode cX8_check 56 = .ok (.invokestatic 150, 3) := by decide +kernel
theorem dX8_check_59 : decode cX8_check 59 = .ok (.istore_n 3, 1) := by decide +kernel
theorem dX8_check_60 : decode cX8_check 60 = .ok (.iconst 0, 1) := by decide +kernel
theorem dX8_check_61 : decode cX8_check 61 = .ok (.istore 4, 2) := by decide +kernel
theorem dX8_check_63 : decode cX8_check 63 = .ok (.iconst 0, 1) := by decide +kernel
theorem dX8_check_64 : decode cX8_check 64 = .ok (.istore 5, 2) := by decide +kernel
theorem dX8_check_66 : decode cX8_check 66 = .ok (.iload 5, 2) := by decide +kernel
theorem dX8_check_68 : decode cX8_check 68 = .ok (.iload_n 3, 1) := by decide +kernel
theorem dX8_check_69 : decode cX8_check 69 = .ok (.if_icmp .ge 66, 3) := by decide +kernel
theorem dX8_check_72 : decode cX8_check 72 = .ok (.aload_n 0, 1) := by decide +kernel
theorem dX8_check_73 : decode cX8_check 73 = .ok (.getfield 19, 3) := by decide +kernel
theorem dX8_check_76 : decode cX8_check 76 = .ok (.invokevirtual 213, 3) := by decide +kernel
theorem dX8_check_79 : decode cX8_check 79 = .ok (.aload_n 0, 1) := by decide +kernel
theorem dX8_check_80 : decode cX8_check 80 = .ok (.iload 4, 2) := by decide +kernel
theorem dX8_check_82 : decode cX8_check 82 = .ok (.iload_n 2, 1) := by decide +kernel
theorem dX8_check_83 : decode cX8_check 83 = .ok (.aload_n 0, 1) := by decide +kernel
theorem dX8_check_84 : decode cX8_check 84 = .ok (.getfield 19, 3) := by decide +kernel
theorem dX8_check_87 : decode cX8_check 87 = .ok (.getfield 137, 3) := by decide +kernel
theorem dX8_check_90 : decode cX8_check 90 = .ok (.invokevirtual 333, 3) := by decide +kernel
theorem dX8_check_93 : decode cX8_check 93 = .ok (.ifCond .ne 8, 3) := by decide +kernel
theorem dX8_check_96 : decode cX8_check 96 = .ok (.iconst 1, 1) := by decide +kernel
theorem dX8_check_97 : decode cX8_check 97 = .ok (.iload 4, 2) := by decide +kernel
theorem dX8_check_99 : decode cX8_check 99 = .ok (.iadd, 1) := by decide +kernel
theorem dX8_check_100 : decode cX8_check 100 = .ok (.ireturn, 1) := by decide +kernel
theorem dX8_check_101 : decode cX8_check 101 = .ok (.iinc 4 1, 3) := by decide +kernel
theorem dX8_check_104 : decode cX8_check 104 = .ok (.aload_n 0, 1) := by decide +kernel
theorem dX8_check_105 : decode cX8_check 105 = .ok (.iload 4, 2) := by decide +kernel
theorem dX8_check_107 : decode cX8_check 107 = .ok (.iload_n 2, 1) := by decide +kernel
theorem dX8_check_108 : decode cX8_check 108 = .ok (.aload_n 0, 1) := by decide +kernel
theorem dX8_check_109 : decode cX8_check 109 = .ok (.getfield 19, 3) := by decide +kernel
theorem dX8_check_112 : decode cX8_check 112 = .ok (.invokevirtual 177, 3) := by decide +kernel
theorem dX8_check_115 : decode cX8_check 115 = .ok (.invokevirtual 333, 3) := by decide +kernel
theorem dX8_check_118 : decode cX8_check 118 = .ok (.ifCond .ne 8, 3) := by decide +kernel
theorem dX8_check_121 : decode cX8_check 121 = .ok (.iconst 1, 1) := by decide +kernel
theorem dX8_check_122 : decode cX8_check 122 = .ok (.iload 4, 2) := by decide +kernel
theorem dX8_check_124 : decode cX8_check 124 = .ok (.iadd, 1) := by decide +kernel
theorem dX8_check_125 : decode cX8_check 125 = .ok (.ireturn, 1) := by decide +kernel
theorem dX8_check_126 : decode cX8_check 126 = .ok (.iinc 4 1, 3) := by decide +kernel
theorem dX8_check_129 : decode cX8_check 129 = .ok (.iinc 5 1, 3) := by decide +kernel
theorem dX8_check_132 : decode cX8_check 132 = .ok (.goto (-66), 3) := by decide +kernel
theorem dX8_check_135 : decode cX8_check 135 = .ok (.iload_n 2, 1) := by decide +kernel
theorem dX8_check_136 : decode cX8_check 136 = .ok (.iload 4, 2) := by decide +kernel
theorem dX8_check_138 : decode cX8_check 138 = .ok (.if_icmp .le 10, 3) := by decide +kernel
theorem dX8_check_141 : decode cX8_check 141 = .ok (.iconst 1, 1) := by decide +kernel
theorem dX8_check_142 : decode cX8_check 142 = .ok (.iload 4, 2) := by decide +kernel
theorem dX8_check_144 : decode cX8_check 144 = .ok (.iadd, 1) := by decide +kernel
theorem dX8_check_145 : decode cX8_check 145 = .ok (.goto 4, 3) := by decide +kernel
theorem dX8_check_148 : decode cX8_check 148 = .ok (.iconst 0, 1) := by decide +kernel
theorem dX8_check_149 : decode cX8_check 149 = .ok (.ireturn, 1) := by decide +kernel
theorem dX8_isTold_0 : decode cX8_isTold 0 = .ok (.iload_n 1, 1) := by decide +kernel
theorem dX8_isTold_1 : decode cX8_isTold 1 = .ok (.iload_n 2, 1) := by decide +kernel
theorem dX8_isTold_2 : decode cX8_isTold 2 = .ok (.if_icmp .ge 23, 3) := by decide +kernel
theorem dX8_isTold_5 : decode cX8_isTold 5 = .ok (.iload_n 1, 1) := by decide +kernel
theorem dX8_isTold_6 : decode cX8_isTold 6 = .ok (.bipush 60, 2) := by decide +kernel
theorem dX8_isTold_8 : decode cX8_isTold 8 = .ok (.if_icmp .ge 17, 3) := by decide +kernel
theorem dX8_isTold_11 : decode cX8_isTold 11 = .ok (.aload_n 0, 1) := by decide +kernel
theorem dX8_isTold_12 : decode cX8_isTold 12 = .ok (.getfield 57, 3) := by decide +kernel
theorem dX8_isTold_15 : decode cX8_isTold 15 = .ok (.iload_n 1, 1) := by decide +kernel
theorem dX8_isTold_16 : decode cX8_isTold 16 = .ok (.iaload, 1) := by decide +kernel
theorem dX8_isTold_17 : decode cX8_isTold 17 = .ok (.iload_n 3, 1) := by decide +kernel
theorem dX8_isTold_18 : decode cX8_isTold 18 = .ok (.if_icmp .ne 7, 3) := by decide +kernel
theorem dX8_isTold_21 : decode cX8_isTold 21 = .ok (.iconst 1, 1) := by decide +kernel
theorem dX8_isTold_22 : decode cX8_isTold 22 = .ok (.goto 4, 3) := by decide +kernel
theorem dX8_isTold_25 : decode cX8_isTold 25 = .ok (.iconst 0, 1) := by decide +kernel
theorem dX8_isTold_26 : decode cX8_isTold 26 = .ok (.ireturn, 1) := by decide +kernel
theorem dX8_keep_0 : decode cX8_keep 0 = .ok (.aload_n 0, 1) := by decide +kernel
theorem dX8_keep_1 : decode cX8_keep 1 = .ok (.getfield 16, 3) := by decide +kernel
theorem dX8_keep_4 : decode cX8_keep 4 = .ok (.aload_n 0, 1) := by decide +kernel
theorem dX8_keep_5 : decode cX8_keep 5 = .ok (.getfield 10, 3) := by decide +kernel
theorem dX8_keep_8 : decode cX8_keep 8 = .ok (.invokevirtual 209, 3) := by decide +kernel
theorem dX8_keep_11 : decode cX8_keep 11 = .ok (.aload_n 0, 1) := by decide +kernel
theorem dX8_keep_12 : decode cX8_keep 12 = .ok (.iconst 1, 1) := by decide +kernel
theorem dX8_keep_13 : decode cX8_keep 13 = .ok (.putfield 22, 3) := by decide +kernel
theorem dX8_keep_16 : decode cX8_keep 16 = .ok (.aload_n 0, 1) := by decide +kernel
theorem dX8_keep_17 : decode cX8_keep 17 = .ok (.getfield 10, 3) := by decide +kernel
theorem dX8_keep_20 : decode cX8_keep 20 = .ok (.getfield 75, 3) := by decide +kernel
theorem dX8_keep_23 : decode cX8_keep 23 = .ok (.ireturn, 1) := by decide +kernel
theorem dX8_back_0 : decode cX8_back 0 = .ok (.aload_n 0, 1) := by decide +kernel
theorem dX8_back_1 : decode cX8_back 1 = .ok (.getfield 22, 3) := by decide +kernel
theorem dX8_back_4 : decode cX8_back 4 = .ok (.ifCond .ne 6, 3) := by decide +kernel
theorem dX8_back_7 : decode cX8_back 7 = .ok (.ldc 136, 2) := by decide +kernel
theorem dX8_back_9 : decode cX8_back 9 = .ok (.ireturn, 1) := by decide +kernel
theorem dX8_back_10 : decode cX8_back 10 = .ok (.aload_n 0, 1) := by decide +kernel
theorem dX8_back_11 : decode cX8_back 11 = .ok (.getfield 10, 3) := by decide +kernel
theorem dX8_back_14 : decode cX8_back 14 = .ok (.aload_n 0, 1) := by decide +kernel
theorem dX8_back_15 : decode cX8_back 15 = .ok (.getfield 16, 3) := by decide +kernel
theorem dX8_back_18 : decode cX8_back 18 = .ok (.invokevirtual 209, 3) := by decide +kernel
theorem dX8_back_21 : decode cX8_back 21 = .ok (.aload_n 0, 1) := by decide +kernel
theorem dX8_back_22 : decode cX8_back 22 = .ok (.getfield 10, 3) := by decide +kernel
theorem dX8_back_25 : decode cX8_back 25 = .ok (.getfield 75, 3) := by decide +kernel
theorem dX8_back_28 : decode cX8_back 28 = .ok (.ireturn, 1) := by decide +kernel
theorem dX8_count_0 : decode cX8_count 0 = .ok (.iload_n 1, 1) := by decide +kernel
theorem dX8_count_1 : decode cX8_count 1 = .ok (.tableswitch 96 0 6 #[43, 51, 59, 67, 75, 80, 88], 43) := by decide +kernel
theorem dX8_count_44 : decode cX8_count 44 = .ok (.aload_n 0, 1) := by decide +kernel
theorem dX8_count_45 : decode cX8_count 45 = .ok (.getfield 10, 3) := by decide +kernel
theorem dX8_count_48 : decode cX8_count 48 = .ok (.getfield 75, 3) := by decide +kernel
theorem dX8_count_51 : decode cX8_count 51 = .ok (.ireturn, 1) := by decide +kernel
theorem dX8_count_52 : decode cX8_count 52 = .ok (.aload_n 0, 1) := by decide +kernel
theorem dX8_count_53 : decode cX8_count 53 = .ok (.getfield 10, 3) := by decide +kernel
theorem dX8_count_56 : decode cX8_count 56 = .ok (.getfield 161, 3) := by decide +kernel
theorem dX8_count_59 : decode cX8_count 59 = .ok (.ireturn, 1) := by decide +kernel
theorem dX8_count_60 : decode cX8_count 60 = .ok (.aload_n 0, 1) := by decide +kernel
theorem dX8_count_61 : decode cX8_count 61 = .ok (.getfield 10, 3) := by decide +kernel
theorem dX8_count_64 : decode cX8_count 64 = .ok (.invokevirtual 144, 3) := by decide +kernel
theorem dX8_count_67 : decode cX8_count 67 = .ok (.ireturn, 1) := by decide +kernel
theorem dX8_count_68 : decode cX8_count 68 = .ok (.aload_n 0, 1) := by decide +kernel
theorem dX8_count_69 : decode cX8_count 69 = .ok (.getfield 10, 3) := by decide +kernel
theorem dX8_count_72 : decode cX8_count 72 = .ok (.getfield 262, 3) := by decide +kernel
theorem dX8_count_75 : decode cX8_count 75 = .ok (.ireturn, 1) := by decide +kernel
theorem dX8_count_76 : decode cX8_count 76 = .ok (.aload_n 0, 1) := by decide +kernel
theorem dX8_count_77 : decode cX8_count 77 = .ok (.getfield 61, 3) := by decide +kernel
theorem dX8_count_80 : decode cX8_count 80 = .ok (.ireturn, 1) := by decide +kernel
theorem dX8_count_81 : decode cX8_count 81 = .ok (.aload_n 0, 1) := by decide +kernel
theorem dX8_count_82 : decode cX8_count 82 = .ok (.getfield 44, 3) := by decide +kernel
theorem dX8_count_85 : decode cX8_count 85 = .ok (.getfield 253, 3) := by decide +kernel
theorem dX8_count_88 : decode cX8_count 88 = .ok (.ireturn, 1) := by decide +kernel
theorem dX8_count_89 : decode cX8_count 89 = .ok (.aload_n 0, 1) := by decide +kernel
theorem dX8_count_90 : decode cX8_count 90 = .ok (.getfield 10, 3) := by decide +kernel
theorem dX8_count_93 : decode cX8_count 93 = .ok (.getfield 158, 3) := by decide +kernel
theorem dX8_count_96 : decode cX8_count 96 = .ok (.ireturn, 1) := by decide +kernel
theorem dX8_count_97 : decode cX8_count 97 = .ok (.ldc 74, 2) := by decide +kernel
theorem dX8_count_99 : decode cX8_count 99 = .ok (.ireturn, 1) := by decide +kernel
theorem dX8_isWithin_0 : decode cX8_isWithin 0 = .ok (.iload_n 0, 1) := by decide +kernel
theorem dX8_isWithin_1 : decode cX8_isWithin 1 = .ok (.iload_n 1, 1) := by decide +kernel
theorem dX8_isWithin_2 : decode cX8_isWithin 2 = .ok (.if_icmp .lt 12, 3) := by decide +kernel
theorem dX8_isWithin_5 : decode cX8_isWithin 5 = .ok (.iload_n 0, 1) := by decide +kernel
theorem dX8_isWithin_6 : decode cX8_isWithin 6 = .ok (.iload_n 2, 1) := by decide +kernel
theorem dX8_isWithin_7 : decode cX8_isWithin 7 = .ok (.if_icmp .gt 7, 3) := by decide +kernel
theorem dX8_isWithin_10 : decode cX8_isWithin 10 = .ok (.iconst 1, 1) := by decide +kernel
theorem dX8_isWithin_11 : decode cX8_isWithin 11 = .ok (.goto 4, 3) := by decide +kernel
theorem dX8_isWithin_14 : decode cX8_isWithin 14 = .ok (.iconst 0, 1) := by decide +kernel
theorem dX8_isWithin_15 : decode cX8_isWithin 15 = .ok (.ireturn, 1) := by decide +kernel
theorem dX8_isSheet_0 : decode cX8_isSheet 0 = .ok (.iload_n 0, 1) := by decide +kernel
theorem dX8_isSheet_1 : decode cX8_isSheet 1 = .ok (.iconst 0, 1) := by decide +kernel
theorem dX8_isSheet_2 : decode cX8_isSheet 2 = .ok (.iconst 3, 1) := by decide +kernel
theorem dX8_isSheet_3 : decode cX8_isSheet 3 = .ok (.invokestatic 70, 3) := by decide +kernel
theorem dX8_isSheet_6 : decode cX8_isSheet 6 = .ok (.ireturn, 1) := by decide +kernel
theorem dX8_isSlot_0 : decode cX8_isSlot 0 = .ok (.iload_n 0, 1) := by decide +kernel
theorem dX8_isSlot_1 : decode cX8_isSlot 1 = .ok (.iconst 0, 1) := by decide +kernel
theorem dX8_isSlot_2 : decode cX8_isSlot 2 = .ok (.iconst 4, 1) := by decide +kernel
theorem dX8_isSlot_3 : decode cX8_isSlot 3 = .ok (.invokestatic 70, 3) := by decide +kernel
theorem dX8_isSlot_6 : decode cX8_isSlot 6 = .ok (.ireturn, 1) := by decide +kernel
theorem dX8_held_0 : decode cX8_held 0 = .ok (.iconst 0, 1) := by decide +kernel
theorem dX8_held_1 : decode cX8_held 1 = .ok (.iload_n 0, 1) := by decide +kernel
theorem dX8_held_2 : decode cX8_held 2 = .ok (.iload_n 1, 1) := by decide +kernel
theorem dX8_held_3 : decode cX8_held 3 = .ok (.invokestatic 150, 3) := by decide +kernel
theorem dX8_held_6 : decode cX8_held 6 = .ok (.invokestatic 336, 3) := by decide +kernel
theorem dX8_held_9 : decode cX8_held 9 = .ok (.ireturn, 1) := by decide +kernel
theorem dX9_init_0 : decode cX9_init 0 = .ok (.aload_n 0, 1) := by decide +kernel
theorem dX9_init_1 : decode cX9_init 1 = .ok (.invokespecial 1, 3) := by decide +kernel
theorem dX9_init_4 : decode cX9_init 4 = .ok (.aload_n 0, 1) := by decide +kernel
theorem dX9_init_5 : decode cX9_init 5 = .ok (.sipush 1433, 3) := by decide +kernel
theorem dX9_init_8 : decode cX9_init 8 = .ok (.newarray .int, 2) := by decide +kernel
theorem dX9_init_10 : decode cX9_init 10 = .ok (.putfield 9, 3) := by decide +kernel
theorem dX9_init_13 : decode cX9_init 13 = .ok (.aload_n 0, 1) := by decide +kernel
theorem dX9_init_14 : decode cX9_init 14 = .ok (.sipush 1433, 3) := by decide +kernel
theorem dX9_init_17 : decode cX9_init 17 = .ok (.newarray .int, 2) := by decide +kernel
theorem dX9_init_19 : decode cX9_init 19 = .ok (.putfield 13, 3) := by decide +kernel
theorem dX9_init_22 : decode cX9_init 22 = .ok (.aload_n 0, 1) := by decide +kernel
theorem dX9_init_23 : decode cX9_init 23 = .ok (.sipush 1433, 3) := by decide +kernel
theorem dX9_init_26 : decode cX9_init 26 = .ok (.newarray .int, 2) := by decide +kernel
theorem dX9_init_28 : decode cX9_init 28 = .ok (.putfield 16, 3) := by decide +kernel
theorem dX9_init_31 : decode cX9_init 31 = .ok (.aload_n 0, 1) := by decide +kernel
theorem dX9_init_32 : decode cX9_init 32 = .ok (.sipush 512, 3) := by decide +kernel
theorem dX9_init_35 : decode cX9_init 35 = .ok (.newarray .int, 2) := by decide +kernel
theorem dX9_init_37 : decode cX9_init 37 = .ok (.putfield 19, 3) := by decide +kernel
theorem dX9_init_40 : decode cX9_init 40 = .ok (.aload_n 0, 1) := by decide +kernel
theorem dX9_init_41 : decode cX9_init 41 = .ok (.sipush 512, 3) := by decide +kernel
theorem dX9_init_44 : decode cX9_init 44 = .ok (.newarray .int, 2) := by decide +kernel
theorem dX9_init_46 : decode cX9_init 46 = .ok (.putfield 22, 3) := by decide +kernel
theorem dX9_init_49 : decode cX9_init 49 = .ok (.aload_n 0, 1) := by decide +kernel
theorem dX9_init_50 : decode cX9_init 50 = .ok (.bipush 9, 2) := by decide +kernel
theorem dX9_init_52 : decode cX9_init 52 = .ok (.newarray .int, 2) := by decide +kernel
theorem dX9_init_54 : decode cX9_init 54 = .ok (.putfield 25, 3) := by decide +kernel
theorem dX9_init_57 : decode cX9_init 57 = .ok (.aload_n 0, 1) := by decide +kernel
theorem dX9_init_58 : decode cX9_init 58 = .ok (.bipush 96, 2) := by decide +kernel
theorem dX9_init_60 : decode cX9_init 60 = .ok (.newarray .int, 2) := by decide +kernel
theorem dX9_init_62 : decode cX9_init 62 = .ok (.putfield 28, 3) := by decide +kernel
theorem dX9_init_65 : decode cX9_init 65 = .ok (.aload_n 0, 1) := by decide +kernel
theorem dX9_init_66 : decode cX9_init 66 = .ok (.bipush 12, 2) := by decide +kernel
theorem dX9_init_68 : decode cX9_init 68 = .ok (.newarray .char, 2) := by decide +kernel
theorem dX9_init_70 : decode cX9_init 70 = .ok (.dup, 1) := by decide +kernel
theorem dX9_init_71 : decode cX9_init 71 = .ok (.iconst 0, 1) := by decide +kernel
theorem dX9_init_72 : decode cX9_init 72 = .ok (.bipush 98, 2) := by decide +kernel
theorem dX9_init_74 : decode cX9_init 74 = .ok (.castore, 1) := by decide +kernel
theorem dX9_init_75 : decode cX9_init 75 = .ok (.dup, 1) := by decide +kernel
theorem dX9_init_76 : decode cX9_init 76 = .ok (.iconst 1, 1) := by decide +kernel
theorem dX9_init_77 : decode cX9_init 77 = .ok (.bipush 101, 2) := by decide +kernel
theorem dX9_init_79 : decode cX9_init 79 = .ok (.castore, 1) := by decide +kernel
theorem dX9_init_80 : decode cX9_init 80 = .ok (.dup, 1) := by decide +kernel
theorem dX9_init_81 : decode cX9_init 81 = .ok (.iconst 2, 1) := by decide +kernel
theorem dX9_init_82 : decode cX9_init 82 = .ok (.bipush 97, 2) := by decide +kernel
theorem dX9_init_84 : decode cX9_init 84 = .ok (.castore, 1) := by decide +kernel
theorem dX9_init_85 : decode cX9_init 85 = .ok (.dup, 1) := by decide +kernel
theorem dX9_init_86 : decode cX9_init 86 = .ok (.iconst 3, 1) := by decide +kernel
theorem dX9_init_87 : decode cX9_init 87 = .ok (.bipush 114, 2) := by decide +kernel
theorem dX9_init_89 : decode cX9_init 89 = .ok (.castore, 1) := by decide +kernel
theorem dX9_init_90 : decode cX9_init 90 = .ok (.dup, 1) := by decide +kernel
theorem dX9_init_91 : decode cX9_init 91 = .ok (.iconst 4, 1) := by decide +kernel
theorem dX9_init_92 : decode cX9_init 92 = .ok (.bipush 115, 2) := by decide +kernel
theorem dX9_init_94 : decode cX9_init 94 = .ok (.castore, 1) := by decide +kernel
theorem dX9_init_95 : decode cX9_init 95 = .ok (.dup, 1) := by decide +kernel
theorem dX9_init_96 : decode cX9_init 96 = .ok (.iconst 5, 1) := by decide +kernel
theorem dX9_init_97 : decode cX9_init 97 = .ok (.bipush 102, 2) := by decide +kernel
theorem dX9_init_99 : decode cX9_init 99 = .ok (.castore, 1) := by decide +kernel
theorem dX9_init_100 : decode cX9_init 100 = .ok (.dup, 1) := by decide +kernel
theorem dX9_init_101 : decode cX9_init 101 = .ok (.bipush 6, 2) := by decide +kernel
theorem dX9_init_103 : decode cX9_init 103 = .ok (.bipush 101, 2) := by decide +kernel
theorem dX9_init_105 : decode cX9_init 105 = .ok (.castore, 1) := by decide +kernel
theorem dX9_init_106 : decode cX9_init 106 = .ok (.dup, 1) := by decide +kernel
theorem dX9_init_107 : decode cX9_init 107 = .ok (.bipush 7, 2) := by decide +kernel
theorem dX9_init_109 : decode cX9_init 109 = .ok (.bipush 101, 2) := by decide +kernel
theorem dX9_init_111 : decode cX9_init 111 = .ok (.castore, 1) := by decide +kernel
theorem dX9_init_112 : decode cX9_init 112 = .ok (.dup, 1) := by decide +kernel
theorem dX9_init_113 : decode cX9_init 113 = .ok (.bipush 8, 2) := by decide +kernel
theorem dX9_init_115 : decode cX9_init 115 = .ok (.bipush 102, 2) := by decide +kernel
theorem dX9_init_117 : decode cX9_init 117 = .ok (.castore, 1) := by decide +kernel
theorem dX9_init_118 : decode cX9_init 118 = .ok (.dup, 1) := by decide +kernel
theorem dX9_init_119 : decode cX9_init 119 = .ok (.bipush 9, 2) := by decide +kernel
theorem dX9_init_121 : decode cX9_init 121 = .ok (.bipush 105, 2) := by decide +kernel
theorem dX9_init_123 : decode cX9_init 123 = .ok (.castore, 1) := by decide +kernel
theorem dX9_init_124 : decode cX9_init 124 = .ok (.dup, 1) := by decide +kernel
theorem dX9_init_125 : decode cX9_init 125 = .ok (.bipush 10, 2) := by decide +kernel
theorem dX9_init_127 : decode cX9_init 127 = .ok (.bipush 110, 2) := by decide +kernel
theorem dX9_init_129 : decode cX9_init 129 = .ok (.castore, 1) := by decide +kernel
theorem dX9_init_130 : decode cX9_init 130 = .ok (.dup, 1) := by decide +kernel
theorem dX9_init_131 : decode cX9_init 131 = .ok (.bipush 11, 2) := by decide +kernel
theorem dX9_init_133 : decode cX9_init 133 = .ok (.bipush 101, 2) := by decide +kernel
theorem dX9_init_135 : decode cX9_init 135 = .ok (.castore, 1) := by decide +kernel
theorem dX9_init_136 : decode cX9_init 136 = .ok (.putfield 31, 3) := by decide +kernel
theorem dX9_init_139 : decode cX9_init 139 = .ok (.aload_n 0, 1) := by decide +kernel
theorem dX9_init_140 : decode cX9_init 140 = .ok (.iconst 4, 1) := by decide +kernel
theorem dX9_init_141 : decode cX9_init 141 = .ok (.newarray .int, 2) := by decide +kernel
theorem dX9_init_143 : decode cX9_init 143 = .ok (.dup, 1) := by decide +kernel
theorem dX9_init_144 : decode cX9_init 144 = .ok (.iconst 0, 1) := by decide +kernel
theorem dX9_init_145 : decode cX9_init 145 = .ok (.iconst 0, 1) := by decide +kernel
theorem dX9_init_146 : decode cX9_init 146 = .ok (.iastore, 1) := by decide +kernel
theorem dX9_init_147 : decode cX9_init 147 = .ok (.dup, 1) := by decide +kernel
theorem dX9_init_148 : decode cX9_init 148 = .ok (.iconst 1, 1) := by decide +kernel
theorem dX9_init_149 : decode cX9_init 149 = .ok (.iconst 5, 1) := by decide +kernel
theorem dX9_init_150 : decode cX9_init 150 = .ok (.iastore, 1) := by decide +kernel
theorem dX9_init_151 : decode cX9_init 151 = .ok (.dup, 1) := by decide +kernel
theorem dX9_init_152 : decode cX9_init 152 = .ok (.iconst 2, 1) := by decide +kernel
theorem dX9_init_153 : decode cX9_init 153 = .ok (.bipush 8, 2) := by decide +kernel
theorem dX9_init_155 : decode cX9_init 155 = .ok (.iastore, 1) := by decide +kernel
theorem dX9_init_156 : decode cX9_init 156 = .ok (.dup, 1) := by decide +kernel
theorem dX9_init_157 : decode cX9_init 157 = .ok (.iconst 3, 1) := by decide +kernel
theorem dX9_init_158 : decode cX9_init 158 = .ok (.bipush 12, 2) := by decide +kernel
theorem dX9_init_160 : decode cX9_init 160 = .ok (.iastore, 1) := by decide +kernel
theorem dX9_init_161 : decode cX9_init 161 = .ok (.putfield 35, 3) := by decide +kernel
theorem dX9_init_164 : decode cX9_init 164 = .ok (.aload_n 0, 1) := by decide +kernel
theorem dX9_init_165 : decode cX9_init 165 = .ok (.bipush 96, 2) := by decide +kernel
theorem dX9_init_167 : decode cX9_init 167 = .ok (.newarray .int, 2) := by decide +kernel
theorem dX9_init_169 : decode cX9_init 169 = .ok (.putfield 38, 3) := by decide +kernel
theorem dX9_init_172 : decode cX9_init 172 = .ok (.aload_n 0, 1) := by decide +kernel
theorem dX9_init_173 : decode cX9_init 173 = .ok (.bipush 96, 2) := by decide +kernel
theorem dX9_init_175 : decode cX9_init 175 = .ok (.newarray .int, 2) := by decide +kernel
theorem dX9_init_177 : decode cX9_init 177 = .ok (.putfield 41, 3) := by decide +kernel
theorem dX9_init_180 : decode cX9_init 180 = .ok (.aload_n 0, 1) := by decide +kernel
theorem dX9_init_181 : decode cX9_init 181 = .ok (.bipush 10, 2) := by decide +kernel
theorem dX9_init_183 : decode cX9_init 183 = .ok (.newarray .boolean, 2) := by decide +kernel
theorem dX9_init_185 : decode cX9_init 185 = .ok (.putfield 44, 3) := by decide +kernel
theorem dX9_init_188 : decode cX9_init 188 = .ok (.aload_n 0, 1) := by decide +kernel
theorem dX9_init_189 : decode cX9_init 189 = .ok (.bipush 96, 2) := by decide +kernel
theorem dX9_init_191 : decode cX9_init 191 = .ok (.newarray .int, 2) := by decide +kernel
theorem dX9_init_193 : decode cX9_init 193 = .ok (.putfield 48, 3) := by decide +kernel
theorem dX9_init_196 : decode cX9_init 196 = .ok (.aload_n 0, 1) := by decide +kernel
theorem dX9_init_197 : decode cX9_init 197 = .ok (.iconst 4, 1) := by decide +kernel
theorem dX9_init_198 : decode cX9_init 198 = .ok (.newarray .int, 2) := by decide +kernel
theorem dX9_init_200 : decode cX9_init 200 = .ok (.putfield 51, 3) := by decide +kernel
theorem dX9_init_203 : decode cX9_init 203 = .ok (.aload_n 0, 1) := by decide +kernel
theorem dX9_init_204 : decode cX9_init 204 = .ok (.iconst 4, 1) := by decide +kernel
theorem dX9_init_205 : decode cX9_init 205 = .ok (.newarray .int, 2) := by decide +kernel
theorem dX9_init_207 : decode cX9_init 207 = .ok (.dup, 1) := by decide +kernel
theorem dX9_init_208 : decode cX9_init 208 = .ok (.iconst 0, 1) := by decide +kernel
theorem dX9_init_209 : decode cX9_init 209 = .ok (.iconst (-1), 1) := by decide +kernel
theorem dX9_init_210 : decode cX9_init 210 = .ok (.iastore, 1) := by decide +kernel
theorem dX9_init_211 : decode cX9_init 211 = .ok (.dup, 1) := by decide +kernel
theorem dX9_init_212 : decode cX9_init 212 = .ok (.iconst 1, 1) := by decide +kernel
theorem dX9_init_213 : decode cX9_init 213 = .ok (.iconst (-1), 1) := by decide +kernel
theorem dX9_init_214 : decode cX9_init 214 = .ok (.iastore, 1) := by decide +kernel
theorem dX9_init_215 : decode cX9_init 215 = .ok (.dup, 1) := by decide +kernel
theorem dX9_init_216 : decode cX9_init 216 = .ok (.iconst 2, 1) := by decide +kernel
theorem dX9_init_217 : decode cX9_init 217 = .ok (.iconst (-1), 1) := by decide +kernel
theorem dX9_init_218 : decode cX9_init 218 = .ok (.iastore, 1) := by decide +kernel
theorem dX9_init_219 : decode cX9_init 219 = .ok (.dup, 1) := by decide +kernel
theorem dX9_init_220 : decode cX9_init 220 = .ok (.iconst 3, 1) := by decide +kernel
theorem dX9_init_221 : decode cX9_init 221 = .ok (.iconst (-1), 1) := by decide +kernel
theorem dX9_init_222 : decode cX9_init 222 = .ok (.iastore, 1) := by decide +kernel
theorem dX9_init_223 : decode cX9_init 223 = .ok (.putfield 54, 3) := by decide +kernel
theorem dX9_init_226 : decode cX9_init 226 = .ok (.aload_n 0, 1) := by decide +kernel
theorem dX9_init_227 : decode cX9_init 227 = .ok (.iconst 4, 1) := by decide +kernel
theorem dX9_init_228 : decode cX9_init 228 = .ok (.newarray .int, 2) := by decide +kernel
theorem dX9_init_230 : decode cX9_init 230 = .ok (.putfield 57, 3) := by decide +kernel
theorem dX9_init_233 : decode cX9_init 233 = .ok (.aload_n 0, 1) := by decide +kernel
theorem dX9_init_234 : decode cX9_init 234 = .ok (.bipush 96, 2) := by decide +kernel
theorem dX9_init_236 : decode cX9_init 236 = .ok (.newarray .int, 2) := by decide +kernel
theorem dX9_init_238 : decode cX9_init 238 = .ok (.putfield 60, 3) := by decide +kernel
theorem dX9_init_241 : decode cX9_init 241 = .ok (.aload_n 0, 1) := by decide +kernel
theorem dX9_init_242 : decode cX9_init 242 = .ok (.iconst 5, 1) := by decide +kernel
theorem dX9_init_243 : decode cX9_init 243 = .ok (.newarray .int, 2) := by decide +kernel
theorem dX9_init_245 : decode cX9_init 245 = .ok (.putfield 63, 3) := by decide +kernel
theorem dX9_init_248 : decode cX9_init 248 = .ok (.aload_n 0, 1) := by decide +kernel
theorem dX9_init_249 : decode cX9_init 249 = .ok (.iconst 5, 1) := by decide +kernel
theorem dX9_init_250 : decode cX9_init 250 = .ok (.newarray .int, 2) := by decide +kernel
theorem dX9_init_252 : decode cX9_init 252 = .ok (.putfield 66, 3) := by decide +kernel
theorem dX9_init_255 : decode cX9_init 255 = .ok (.aload_n 0, 1) := by decide +kernel
theorem dX9_init_256 : decode cX9_init 256 = .ok (.iconst 5, 1) := by decide +kernel
theorem dX9_init_257 : decode cX9_init 257 = .ok (.newarray .int, 2) := by decide +kernel
theorem dX9_init_259 : decode cX9_init 259 = .ok (.putfield 69, 3) := by decide +kernel
theorem dX9_init_262 : decode cX9_init 262 = .ok (.aload_n 0, 1) := by decide +kernel
theorem dX9_init_263 : decode cX9_init 263 = .ok (.bipush 120, 2) := by decide +kernel
theorem dX9_init_265 : decode cX9_init 265 = .ok (.newarray .int, 2) := by decide +kernel
theorem dX9_init_267 : decode cX9_init 267 = .ok (.putfield 72, 3) := by decide +kernel
theorem dX9_init_270 : decode cX9_init 270 = .ok (.aload_n 0, 1) := by decide +kernel
theorem dX9_init_271 : decode cX9_init 271 = .ok (.bipush 24, 2) := by decide +kernel
theorem dX9_init_273 : decode cX9_init 273 = .ok (.newarray .int, 2) := by decide +kernel
theorem dX9_init_275 : decode cX9_init 275 = .ok (.putfield 75, 3) := by decide +kernel
theorem dX9_init_278 : decode cX9_init 278 = .ok (.aload_n 0, 1) := by decide +kernel
theorem dX9_init_279 : decode cX9_init 279 = .ok (.bipush 60, 2) := by decide +kernel
theorem dX9_init_281 : decode cX9_init 281 = .ok (.newarray .int, 2) := by decide +kernel
theorem dX9_init_283 : decode cX9_init 283 = .ok (.putfield 78, 3) := by decide +kernel
theorem dX9_init_286 : decode cX9_init 286 = .ok (.aload_n 0, 1) := by decide +kernel
theorem dX9_init_287 : decode cX9_init 287 = .ok (.getfield 9, 3) := by decide +kernel
theorem dX9_init_290 : decode cX9_init 290 = .ok (.iconst 0, 1) := by decide +kernel
theorem dX9_init_291 : decode cX9_init 291 = .ok (.iconst 1, 1) := by decide +kernel
theorem dX9_init_292 : decode cX9_init 292 = .ok (.iastore, 1) := by decide +kernel
theorem dX9_init_293 : decode cX9_init 293 = .ok (.return_, 1) := by decide +kernel
theorem dX9_in_0 : decode cX9_in 0 = .ok (.iload_n 0, 1) := by decide +kernel
theorem dX9_in_1 : decode cX9_in 1 = .ok (.iload_n 1, 1) := by decide +kernel
theorem dX9_in_2 : decode cX9_in 2 = .ok (.if_icmp .lt 12, 3) := by decide +kernel
theorem dX9_in_5 : decode cX9_in 5 = .ok (.iload_n 0, 1) := by decide +kernel
theorem dX9_in_6 : decode cX9_in 6 = .ok (.iload_n 2, 1) := by decide +kernel
theorem dX9_in_7 : decode cX9_in 7 = .ok (.if_icmp .gt 7, 3) := by decide +kernel
theorem dX9_in_10 : decode cX9_in 10 = .ok (.iconst 1, 1) := by decide +kernel
theorem dX9_in_11 : decode cX9_in 11 = .ok (.goto 4, 3) := by decide +kernel
theorem dX9_in_14 : decode cX9_in 14 = .ok (.iconst 0, 1) := by decide +kernel
theorem dX9_in_15 : decode cX9_in 15 = .ok (.ireturn, 1) := by decide +kernel
theorem dX9_within_0 : decode cX9_within 0 = .ok (.iload_n 0, 1) := by decide +kernel
theorem dX9_within_1 : decode cX9_within 1 = .ok (.iload_n 1, 1) := by decide +kernel
theorem dX9_within_2 : decode cX9_within 2 = .ok (.if_icmp .ge 7, 3) := by decide +kernel
theorem dX9_within_5 : decode cX9_within 5 = .ok (.iload_n 1, 1) := by decide +kernel
theorem dX9_within_6 : decode cX9_within 6 = .ok (.goto 13, 3) := by decide +kernel
theorem dX9_within_9 : decode cX9_within 9 = .ok (.iload_n 0, 1) := by decide +kernel
theorem dX9_within_10 : decode cX9_within 10 = .ok (.iload_n 2, 1) := by decide +kernel
theorem dX9_within_11 : decode cX9_within 11 = .ok (.if_icmp .le 7, 3) := by decide +kernel
theorem dX9_within_14 : decode cX9_within 14 = .ok (.iload_n 2, 1) := by decide +kernel
theorem dX9_within_15 : decode cX9_within 15 = .ok (.goto 4, 3) := by decide +kernel
theorem dX9_within_18 : decode cX9_within 18 = .ok (.iload_n 0, 1) := by decide +kernel
theorem dX9_within_19 : decode cX9_within 19 = .ok (.ireturn, 1) := by decide +kernel
theorem dX9_copyAll_0 : decode cX9_copyAll 0 = .ok (.iconst 0, 1) := by decide +kernel
theorem dX9_copyAll_1 : decode cX9_copyAll 1 = .ok (.istore_n 2, 1) := by decide +kernel
theorem dX9_copyAll_2 : decode cX9_copyAll 2 = .ok (.iload_n 2, 1) := by decide +kernel
theorem dX9_copyAll_3 : decode cX9_copyAll 3 = .ok (.sipush 1433, 3) := by decide +kernel
theorem dX9_copyAll_6 : decode cX9_copyAll 6 = .ok (.if_icmp .ge 15, 3) := by decide +kernel
theorem dX9_copyAll_9 : decode cX9_copyAll 9 = .ok (.aload_n 1, 1) := by decide +kernel
theorem dX9_copyAll_10 : decode cX9_copyAll 10 = .ok (.iload_n 2, 1) := by decide +kernel
theorem dX9_copyAll_11 : decode cX9_copyAll 11 = .ok (.aload_n 0, 1) := by decide +kernel
theorem dX9_copyAll_12 : decode cX9_copyAll 12 = .ok (.iload_n 2, 1) := by decide +kernel
theorem dX9_copyAll_13 : decode cX9_copyAll 13 = .ok (.iaload, 1) := by decide +kernel
theorem dX9_copyAll_14 : decode cX9_copyAll 14 = .ok (.iastore, 1) := by decide +kernel
theorem dX9_copyAll_15 : decode cX9_copyAll 15 = .ok (.iinc 2 1, 3) := by decide +kernel
theorem dX9_copyAll_18 : decode cX9_copyAll 18 = .ok (.goto (-16), 3) := by decide +kernel
theorem dX9_copyAll_21 : decode cX9_copyAll 21 = .ok (.return_, 1) := by decide +kernel
theorem dX9_bits_0 : decode cX9_bits 0 = .ok (.iconst 0, 1) := by decide +kernel
theorem dX9_bits_1 : decode cX9_bits 1 = .ok (.istore_n 1, 1) := by decide +kernel
theorem dX9_bits_2 : decode cX9_bits 2 = .ok (.iload_n 0, 1) := by decide +kernel
theorem dX9_bits_3 : decode cX9_bits 3 = .ok (.istore_n 2, 1) := by decide +kernel
theorem dX9_bits_4 : decode cX9_bits 4 = .ok (.iload_n 2, 1) := by decide +kernel
theorem dX9_bits_5 : decode cX9_bits 5 = .ok (.ifCond .eq 15, 3) := by decide +kernel
theorem dX9_bits_8 : decode cX9_bits 8 = .ok (.iinc 1 1, 3) := by decide +kernel
theorem dX9_bits_11 : decode cX9_bits 11 = .ok (.iload_n 2, 1) := by decide +kernel
theorem dX9_bits_12 : decode cX9_bits 12 = .ok (.iload_n 2, 1) := by decide +kernel
theorem dX9_bits_13 : decode cX9_bits 13 = .ok (.iconst 1, 1) := by decide +kernel
theorem dX9_bits_14 : decode cX9_bits 14 = .ok (.isub, 1) := by decide +kernel
theorem dX9_bits_15 : decode cX9_bits 15 = .ok (.iand, 1) := by decide +kernel
theorem dX9_bits_16 : decode cX9_bits 16 = .ok (.istore_n 2, 1) := by decide +kernel
theorem dX9_bits_17 : decode cX9_bits 17 = .ok (.goto (-13), 3) := by decide +kernel
theorem dX9_bits_20 : decode cX9_bits 20 = .ok (.iload_n 1, 1) := by decide +kernel
theorem dX9_bits_21 : decode cX9_bits 21 = .ok (.ireturn, 1) := by decide +kernel
theorem dX9_isMan_0 : decode cX9_isMan 0 = .ok (.iload_n 1, 1) := by decide +kernel
theorem dX9_isMan_1 : decode cX9_isMan 1 = .ok (.iconst 0, 1) := by decide +kernel
theorem dX9_isMan_2 : decode cX9_isMan 2 = .ok (.aload_n 0, 1) := by decide +kernel
theorem dX9_isMan_3 : decode cX9_isMan 3 = .ok (.getfield 9, 3) := by decide +kernel
theorem dX9_isMan_6 : decode cX9_isMan 6 = .ok (.iconst 1, 1) := by decide +kernel
theorem dX9_isMan_7 : decode cX9_isMan 7 = .ok (.iaload, 1) := by decide +kernel
theorem dX9_isMan_8 : decode cX9_isMan 8 = .ok (.iconst 1, 1) := by decide +kernel
theorem dX9_isMan_9 : decode cX9_isMan 9 = .ok (.isub, 1) := by decide +kernel
theorem dX9_isMan_10 : decode cX9_isMan 10 = .ok (.invokestatic 81, 3) := by decide +kernel
theorem dX9_isMan_13 : decode cX9_isMan 13 = .ok (.ireturn, 1) := by decide +kernel
theorem dX9_isTopic_0 : decode cX9_isTopic 0 = .ok (.iload_n 0, 1) := by decide +kernel
theorem dX9_isTopic_1 : decode cX9_isTopic 1 = .ok (.iconst 0, 1) := by decide +kernel
theorem dX9_isTopic_2 : decode cX9_isTopic 2 = .ok (.bipush 7, 2) := by decide +kernel
theorem dX9_isTopic_4 : decode cX9_isTopic 4 = .ok (.invokestatic 81, 3) := by decide +kernel
theorem dX9_isTopic_7 : decode cX9_isTopic 7 = .ok (.ireturn, 1) := by decide +kernel
theorem dX9_of_0 : decode cX9_of 0 = .ok (.aload_n 0, 1) := by decide +kernel
theorem dX9_of_1 : decode cX9_of 1 = .ok (.getfield 9, 3) := by decide +kernel
theorem dX9_of_4 : decode cX9_of 4 = .ok (.bipush 7, 2) := by decide +kernel
theorem dX9_of_6 : decode cX9_of 6 = .ok (.bipush 6, 2) := by decide +kernel
theorem dX9_of_8 : decode cX9_of 8 = .ok (.iload_n 1, 1) := by decide +kernel
theorem dX9_of_9 : decode cX9_of 9 = .ok (.imul, 1) := by decide +kernel
theorem dX9_of_10 : decode cX9_of 10 = .ok (.iadd, 1) := by decide +kernel
theorem dX9_of_11 : decode cX9_of 11 = .ok (.iload_n 2, 1) := by decide +kernel
theorem dX9_of_12 : decode cX9_of 12 = .ok (.iadd, 1) := by decide +kernel
theorem dX9_of_13 : decode cX9_of 13 = .ok (.iaload, 1) := by decide +kernel
theorem dX9_of_14 : decode cX9_of 14 = .ok (.ireturn, 1) := by decide +kernel
theorem dX9_put_0 : decode cX9_put 0 = .ok (.aload_n 0, 1) := by decide +kernel
theorem dX9_put_1 : decode cX9_put 1 = .ok (.getfield 9, 3) := by decide +kernel
theorem dX9_put_4 : decode cX9_put 4 = .ok (.bipush 7, 2) := by decide +kernel
theorem dX9_put_6 : decode cX9_put 6 = .ok (.bipush 6, 2) := by decide +kernel
theorem dX9_put_8 : decode cX9_put 8 = .ok (.iload_n 1, 1) := by decide +kernel
theorem dX9_put_9 : decode cX9_put 9 = .ok (.imul, 1) := by decide +kernel
theorem dX9_put_10 : decode cX9_put 10 = .ok (.iadd, 1) := by decide +kernel
theorem dX9_put_11 : decode cX9_put 11 = .ok (.iload_n 2, 1) := by decide +kernel
theorem dX9_put_12 : decode cX9_put 12 = .ok (.iadd, 1) := by decide +kernel
theorem dX9_put_13 : decode cX9_put 13 = .ok (.iload_n 3, 1) := by decide +kernel
theorem dX9_put_14 : decode cX9_put 14 = .ok (.iastore, 1) := by decide +kernel
theorem dX9_put_15 : decode cX9_put 15 = .ok (.return_, 1) := by decide +kernel
theorem dX9_swaps_0 : decode cX9_swaps 0 = .ok (.aload_n 0, 1) := by decide +kernel
theorem dX9_swaps_1 : decode cX9_swaps 1 = .ok (.getfield 9, 3) := by decide +kernel
theorem dX9_swaps_4 : decode cX9_swaps 4 = .ok (.iload_n 1, 1) := by decide +kernel
theorem dX9_swaps_5 : decode cX9_swaps 5 = .ok (.iaload, 1) := by decide +kernel
theorem dX9_swaps_6 : decode cX9_swaps 6 = .ok (.istore_n 3, 1) := by decide +kernel
theorem dX9_swaps_7 : decode cX9_swaps 7 = .ok (.aload_n 0, 1) := by decide +kernel
theorem dX9_swaps_8 : decode cX9_swaps 8 = .ok (.getfield 9, 3) := by decide +kernel
theorem dX9_swaps_11 : decode cX9_swaps 11 = .ok (.iload_n 1, 1) := by decide +kernel
theorem dX9_swaps_12 : decode cX9_swaps 12 = .ok (.iload_n 2, 1) := by decide +kernel
theorem dX9_swaps_13 : decode cX9_swaps 13 = .ok (.iastore, 1) := by decide +kernel
theorem dX9_swaps_14 : decode cX9_swaps 14 = .ok (.iload_n 3, 1) := by decide +kernel
theorem dX9_swaps_15 : decode cX9_swaps 15 = .ok (.ireturn, 1) := by decide +kernel
theorem dX9_off_0 : decode cX9_off 0 = .ok (.iload_n 0, 1) := by decide +kernel
theorem dX9_off_1 : decode cX9_off 1 = .ok (.ifCond .ge 8, 3) := by decide +kernel
theorem dX9_off_4 : decode cX9_off 4 = .ok (.iload_n 0, 1) := by decide +kernel
theorem dX9_off_5 : decode cX9_off 5 = .ok (.ineg, 1) := by decide +kernel
theorem dX9_off_6 : decode cX9_off 6 = .ok (.goto 4, 3) := by decide +kernel
theorem dX9_off_9 : decode cX9_off 9 = .ok (.iload_n 0, 1) := by decide +kernel
theorem dX9_off_10 : decode cX9_off 10 = .ok (.ireturn, 1) := by decide +kernel
theorem dX9_doesStand_0 : decode cX9_doesStand 0 = .ok (.aload_n 0, 1) := by decide +kernel
theorem dX9_doesStand_1 : decode cX9_doesStand 1 = .ok (.iload_n 1, 1) := by decide +kernel
theorem dX9_doesStand_2 : decode cX9_doesStand 2 = .ok (.invokevirtual 85, 3) := by decide +kernel
theorem dX9_doesStand_5 : decode cX9_doesStand 5 = .ok (.ifCond .eq 16, 3) := by decide +kernel
theorem dX9_doesStand_8 : decode cX9_doesStand 8 = .ok (.aload_n 0, 1) := by decide +kernel
theorem dX9_doesStand_9 : decode cX9_doesStand 9 = .ok (.iload_n 1, 1) := by decide +kernel
theorem dX9_doesStand_10 : decode cX9_doesStand 10 = .ok (.iconst 5, 1) := by decide +kernel
theorem dX9_doesStand_11 : decode cX9_doesStand 11 = .ok (.invokevirtual 89, 3) := by decide +kernel
theorem dX9_doesStand_14 : decode cX9_doesStand 14 = .ok (.ifCond .ne 7, 3) := by decide +kernel
theorem dX9_doesStand_17 : decode cX9_doesStand 17 = .ok (.iconst 1, 1) := by decide +kernel
theorem dX9_doesStand_18 : decode cX9_doesStand 18 = .ok (.goto 4, 3) := by decide +kernel
theorem dX9_doesStand_21 : decode cX9_doesStand 21 = .ok (.iconst 0, 1) := by decide +kernel
theorem dX9_doesStand_22 : decode cX9_doesStand 22 = .ok (.ireturn, 1) := by decide +kernel
theorem dX9_standing_0 : decode cX9_standing 0 = .ok (.iconst 0, 1) := by decide +kernel
theorem dX9_standing_1 : decode cX9_standing 1 = .ok (.istore_n 1, 1) := by decide +kernel
theorem dX9_standing_2 : decode cX9_standing 2 = .ok (.iconst 0, 1) := by decide +kernel
theorem dX9_standing_3 : decode cX9_standing 3 = .ok (.istore_n 2, 1) := by decide +kernel
theorem dX9_standing_4 : decode cX9_standing 4 = .ok (.iload_n 2, 1) := by decide +kernel
theorem dX9_standing_5 : decode cX9_standing 5 = .ok (.aload_n 0, 1) := by decide +kernel
theorem dX9_standing_6 : decode cX9_standing 6 = .ok (.getfield 9, 3) := by decide +kernel
theorem dX9_standing_9 : decode cX9_standing 9 = .ok (.iconst 1, 1) := by decide +kernel
theorem dX9_standing_10 : decode cX9_standing 10 = .ok (.iaload, 1) := by decide +kernel
theorem dX9_standing_11 : decode cX9_standing 11 = .ok (.if_icmp .ge 28, 3) := by decide +kernel
theorem dX9_standing_14 : decode cX9_standing 14 = .ok (.iload_n 1, 1) := by decide +kernel
theorem dX9_standing_15 : decode cX9_standing 15 = .ok (.aload_n 0, 1) := by decide +kernel
theorem dX9_standing_16 : decode cX9_standing 16 = .ok (.iload_n 2, 1) := by decide +kernel
theorem dX9_standing_17 : decode cX9_standing 17 = .ok (.iconst 5, 1) := by decide +kernel
theorem dX9_standing_18 : decode cX9_standing 18 = .ok (.invokevirtual 89, 3) := by decide +kernel
theorem dX9_standing_21 : decode cX9_standing 21 = .ok (.ifCond .ne 9, 3) := by decide +kernel
theorem dX9_standing_24 : decode cX9_standing 24 = .ok (.iconst 1, 1) := by decide +kernel
theorem dX9_standing_25 : decode cX9_standing 25 = .ok (.iload_n 2, 1) := by decide +kernel
theorem dX9_standing_26 : decode cX9_standing 26 = .ok (.ishl, 1) := by decide +kernel
theorem dX9_standing_27 : decode cX9_standing 27 = .ok (.goto 4, 3) := by decide +kernel
theorem dX9_standing_30 : decode cX9_standing 30 = .ok (.iconst 0, 1) := by decide +kernel
theorem dX9_standing_31 : decode cX9_standing 31 = .ok (.ior, 1) := by decide +kernel
theorem dX9_standing_32 : decode cX9_standing 32 = .ok (.istore_n 1, 1) := by decide +kernel
theorem dX9_standing_33 : decode cX9_standing 33 = .ok (.iinc 2 1, 3) := by decide +kernel
theorem dX9_standing_36 : decode cX9_standing 36 = .ok (.goto (-32), 3) := by decide +kernel
theorem dX9_standing_39 : decode cX9_standing 39 = .ok (.iload_n 1, 1) := by decide +kernel
theorem dX9_standing_40 : decode cX9_standing 40 = .ok (.ireturn, 1) := by decide +kernel
theorem dX9_plainBears_0 : decode cX9_plainBears 0 = .ok (.aload_n 0, 1) := by decide +kernel
theorem dX9_plainBears_1 : decode cX9_plainBears 1 = .ok (.iconst 0, 1) := by decide +kernel
theorem dX9_plainBears_2 : decode cX9_plainBears 2 = .ok (.invokevirtual 93, 3) := by decide +kernel
theorem dX9_plainBears_5 : decode cX9_plainBears 5 = .ok (.istore_n 2, 1) := by decide +kernel
theorem dX9_plainBears_6 : decode cX9_plainBears 6 = .ok (.aload_n 0, 1) := by decide +kernel
theorem dX9_plainBears_7 : decode cX9_plainBears 7 = .ok (.getfield 51, 3) := by decide +kernel
theorem dX9_plainBears_10 : decode cX9_plainBears 10 = .ok (.iconst 0, 1) := by decide +kernel
theorem dX9_plainBears_11 : decode cX9_plainBears 11 = .ok (.aload_n 0, 1) := by decide +kernel
theorem dX9_plainBears_12 : decode cX9_plainBears 12 = .ok (.iload_n 1, 1) := by decide +kernel
theorem dX9_plainBears_13 : decode cX9_plainBears 13 = .ok (.iconst 1, 1) := by decide +kernel
theorem dX9_plainBears_14 : decode cX9_plainBears 14 = .ok (.invokevirtual 89, 3) := by decide +kernel
theorem dX9_plainBears_17 : decode cX9_plainBears 17 = .ok (.iastore, 1) := by decide +kernel
theorem dX9_plainBears_18 : decode cX9_plainBears 18 = .ok (.aload_n 0, 1) := by decide +kernel
theorem dX9_plainBears_19 : decode cX9_plainBears 19 = .ok (.getfield 51, 3) := by decide +kernel
theorem dX9_plainBears_22 : decode cX9_plainBears 22 = .ok (.iconst 1, 1) := by decide +kernel
theorem dX9_plainBears_23 : decode cX9_plainBears 23 = .ok (.aload_n 0, 1) := by decide +kernel
theorem dX9_plainBears_24 : decode cX9_plainBears 24 = .ok (.iload_n 1, 1) := by decide +kernel
theorem dX9_plainBears_25 : decode cX9_plainBears 25 = .ok (.iconst 2, 1) := by decide +kernel
theorem dX9_plainBears_26 : decode cX9_plainBears 26 = .ok (.invokevirtual 89, 3) := by decide +kernel
theorem dX9_plainBears_29 : decode cX9_plainBears 29 = .ok (.iastore, 1) := by decide +kernel
theorem dX9_plainBears_30 : decode cX9_plainBears 30 = .ok (.aload_n 0, 1) := by decide +kernel
theorem dX9_plainBears_31 : decode cX9_plainBears 31 = .ok (.getfield 51, 3) := by decide +kernel
theorem dX9_plainBears_34 : decode cX9_plainBears 34 = .ok (.iconst 2, 1) := by decide +kernel
theorem dX9_plainBears_35 : decode cX9_plainBears 35 = .ok (.aload_n 0, 1) := by decide +kernel
theorem dX9_plainBears_36 : decode cX9_plainBears 36 = .ok (.iload_n 1, 1) := by decide +kernel
theorem dX9_plainBears_37 : decode cX9_plainBears 37 = .ok (.iconst 4, 1) := by decide +kernel
theorem dX9_plainBears_38 : decode cX9_plainBears 38 = .ok (.invokevirtual 89, 3) := by decide +kernel
theorem dX9_plainBears_41 : decode cX9_plainBears 41 = .ok (.iastore, 1) := by decide +kernel
theorem dX9_plainBears_42 : decode cX9_plainBears 42 = .ok (.aload_n 0, 1) := by decide +kernel
theorem dX9_plainBears_43 : decode cX9_plainBears 43 = .ok (.getfield 51, 3) := by decide +kernel
theorem dX9_plainBears_46 : decode cX9_plainBears 46 = .ok (.iconst 3, 1) := by decide +kernel
theorem dX9_plainBears_47 : decode cX9_plainBears 47 = .ok (.aload_n 0, 1) := by decide +kernel
theorem dX9_plainBears_48 : decode cX9_plainBears 48 = .ok (.invokevirtual 97, 3) := by decide +kernel
theorem dX9_plainBears_51 : decode cX9_plainBears 51 = .ok (.invokestatic 101, 3) := by decide +kernel
theorem dX9_plainBears_54 : decode cX9_plainBears 54 = .ok (.iastore, 1) := by decide +kernel
theorem dX9_plainBears_55 : decode cX9_plainBears 55 = .ok (.iload_n 2, 1) := by decide +kernel
theorem dX9_plainBears_56 : decode cX9_plainBears 56 = .ok (.ifCond .ge 12, 3) := by decide +kernel
theorem dX9_plainBears_59 : decode cX9_plainBears 59 = .ok (.aload_n 0, 1) := by decide +kernel
theorem dX9_plainBears_60 : decode cX9_plainBears 60 = .ok (.iload_n 1, 1) := by decide +kernel
theorem dX9_plainBears_61 : decode cX9_plainBears 61 = .ok (.iconst 1, 1) := by decide +kernel
theorem dX9_plainBears_62 : decode cX9_plainBears 62 = .ok (.invokevirtual 89, 3) := by decide +kernel
theorem dX9_plainBears_65 : decode cX9_plainBears 65 = .ok (.goto 8, 3) := by decide +kernel
theorem dX9_plainBears_68 : decode cX9_plainBears 68 = .ok (.aload_n 0, 1) := by decide +kernel
theorem dX9_plainBears_69 : decode cX9_plainBears 69 = .ok (.iload_n 2, 1) := by decide +kernel
theorem dX9_plainBears_70 : decode cX9_plainBears 70 = .ok (.invokevirtual 104, 3) := by decide +kernel
theorem dX9_plainBears_73 : decode cX9_plainBears 73 = .ok (.iconst 0, 1) := by decide +kernel
theorem dX9_plainBears_74 : decode cX9_plainBears 74 = .ok (.bipush 99, 2) := by decide +kernel
theorem dX9_plainBears_76 : decode cX9_plainBears 76 = .ok (.invokestatic 107, 3) := by decide +kernel
theorem dX9_plainBears_79 : decode cX9_plainBears 79 = .ok (.ireturn, 1) := by decide +kernel
theorem dX9_bearsOf_0 : decode cX9_bearsOf 0 = .ok (.aload_n 0, 1) := by decide +kernel
theorem dX9_bearsOf_1 : decode cX9_bearsOf 1 = .ok (.iload_n 1, 1) := by decide +kernel
theorem dX9_bearsOf_2 : decode cX9_bearsOf 2 = .ok (.invokevirtual 111, 3) := by decide +kernel
theorem dX9_bearsOf_5 : decode cX9_bearsOf 5 = .ok (.istore_n 3, 1) := by decide +kernel
theorem dX9_bearsOf_6 : decode cX9_bearsOf 6 = .ok (.iload_n 2, 1) := by decide +kernel
theorem dX9_bearsOf_7 : decode cX9_bearsOf 7 = .ok (.aload_n 0, 1) := by decide +kernel
theorem dX9_bearsOf_8 : decode cX9_bearsOf 8 = .ok (.iload_n 1, 1) := by decide +kernel
theorem dX9_bearsOf_9 : decode cX9_bearsOf 9 = .ok (.iconst 3, 1) := by decide +kernel
theorem dX9_bearsOf_10 : decode cX9_bearsOf 10 = .ok (.invokevirtual 89, 3) := by decide +kernel
theorem dX9_bearsOf_13 : decode cX9_bearsOf 13 = .ok (.if_icmp .ne 10, 3) := by decide +kernel
theorem dX9_bearsOf_16 : decode cX9_bearsOf 16 = .ok (.iload_n 3, 1) := by decide +kernel
theorem dX9_bearsOf_17 : decode cX9_bearsOf 17 = .ok (.bipush 20, 2) := by decide +kernel
theorem dX9_bearsOf_19 : decode cX9_bearsOf 19 = .ok (.isub, 1) := by decide +kernel
theorem dX9_bearsOf_20 : decode cX9_bearsOf 20 = .ok (.goto 4, 3) := by decide +kernel
theorem dX9_bearsOf_23 : decode cX9_bearsOf 23 = .ok (.iload_n 3, 1) := by decide +kernel
theorem dX9_bearsOf_24 : decode cX9_bearsOf 24 = .ok (.iconst 0, 1) := by decide +kernel
theorem dX9_bearsOf_25 : decode cX9_bearsOf 25 = .ok (.bipush 99, 2) := by decide +kernel
theorem dX9_bearsOf_27 : decode cX9_bearsOf 27 = .ok (.invokestatic 107, 3) := by decide +kernel
theorem dX9_bearsOf_30 : decode cX9_bearsOf 30 = .ok (.istore 4, 2) := by decide +kernel
theorem dX9_bearsOf_32 : decode cX9_bearsOf 32 = .ok (.iload 4, 2) := by decide +kernel
theorem dX9_bearsOf_34 : decode cX9_bearsOf 34 = .ok (.aload_n 0, 1) := by decide +kernel
theorem dX9_bearsOf_35 : decode cX9_bearsOf 35 = .ok (.iload_n 1, 1) := by decide +kernel
theorem dX9_bearsOf_36 : decode cX9_bearsOf 36 = .ok (.iconst 2, 1) := by decide +kernel
theorem dX9_bearsOf_37 : decode cX9_bearsOf 37 = .ok (.invokevirtual 89, 3) := by decide +kernel
theorem dX9_bearsOf_40 : decode cX9_bearsOf 40 = .ok (.bipush 10, 2) := by decide +kernel
theorem dX9_bearsOf_42 : decode cX9_bearsOf 42 = .ok (.idiv, 1) := by decide +kernel
theorem dX9_bearsOf_43 : decode cX9_bearsOf 43 = .ok (.iadd, 1) := by decide +kernel
theorem dX9_bearsOf_44 : decode cX9_bearsOf 44 = .ok (.istore 5, 2) := by decide +kernel
theorem dX9_bearsOf_46 : decode cX9_bearsOf 46 = .ok (.iload_n 2, 1) := by decide +kernel
theorem dX9_bearsOf_47 : decode cX9_bearsOf 47 = .ok (.ifCond .ne 8, 3) := by decide +kernel
theorem dX9_bearsOf_50 : decode cX9_bearsOf 50 = .ok (.bipush 99, 2) := by decide +kernel
theorem dX9_bearsOf_52 : decode cX9_bearsOf 52 = .ok (.goto 5, 3) := by decide +kernel
theorem dX9_bearsOf_55 : decode cX9_bearsOf 55 = .ok (.iload 4, 2) := by decide +kernel
theorem dX9_bearsOf_57 : decode cX9_bearsOf 57 = .ok (.istore 6, 2) := by decide +kernel
theorem dX9_bearsOf_59 : decode cX9_bearsOf 59 = .ok (.aload_n 0, 1) := by decide +kernel
theorem dX9_bearsOf_60 : decode cX9_bearsOf 60 = .ok (.iload_n 1, 1) := by decide +kernel
theorem dX9_bearsOf_61 : decode cX9_bearsOf 61 = .ok (.iconst 0, 1) := by decide +kernel
theorem dX9_bearsOf_62 : decode cX9_bearsOf 62 = .ok (.invokevirtual 89, 3) := by decide +kernel
theorem dX9_bearsOf_65 : decode cX9_bearsOf 65 = .ok (.tableswitch 75 1 5 #[35, 57, 38, 60, 72], 35) := by decide +kernel
theorem dX9_bearsOf_100 : decode cX9_bearsOf 100 = .ok (.iload 5, 2) := by decide +kernel
theorem dX9_bearsOf_102 : decode cX9_bearsOf 102 = .ok (.ireturn, 1) := by decide +kernel
theorem dX9_bearsOf_103 : decode cX9_bearsOf 103 = .ok (.iload 5, 2) := by decide +kernel
theorem dX9_bearsOf_105 : decode cX9_bearsOf 105 = .ok (.iconst 5, 1) := by decide +kernel
theorem dX9_bearsOf_106 : decode cX9_bearsOf 106 = .ok (.aload_n 0, 1) := by decide +kernel
theorem dX9_bearsOf_107 : decode cX9_bearsOf 107 = .ok (.invokevirtual 97, 3) := by decide +kernel
theorem dX9_bearsOf_110 : decode cX9_bearsOf 110 = .ok (.iconst 1, 1) := by decide +kernel
theorem dX9_bearsOf_111 : decode cX9_bearsOf 111 = .ok (.iload_n 1, 1) := by decide +kernel
theorem dX9_bearsOf_112 : decode cX9_bearsOf 112 = .ok (.ishl, 1) := by decide +kernel
theorem dX9_bearsOf_113 : decode cX9_bearsOf 113 = .ok (.iconst (-1), 1) := by decide +kernel
theorem dX9_bearsOf_114 : decode cX9_bearsOf 114 = .ok (.ixor, 1) := by decide +kernel
theorem dX9_bearsOf_115 : decode cX9_bearsOf 115 = .ok (.iand, 1) := by decide +kernel
theorem dX9_bearsOf_116 : decode cX9_bearsOf 116 = .ok (.invokestatic 101, 3) := by decide +kernel
theorem dX9_bearsOf_119 : decode cX9_bearsOf 119 = .ok (.imul, 1) := by decide +kernel
theorem dX9_bearsOf_120 : decode cX9_bearsOf 120 = .ok (.iadd, 1) := by decide +kernel
theorem dX9_bearsOf_121 : decode cX9_bearsOf 121 = .ok (.ireturn, 1) := by decide +kernel
theorem dX9_bearsOf_122 : decode cX9_bearsOf 122 = .ok (.iload 6, 2) := by decide +kernel
theorem dX9_bearsOf_124 : decode cX9_bearsOf 124 = .ok (.ireturn, 1) := by decide +kernel
theorem dX9_bearsOf_125 : decode cX9_bearsOf 125 = .ok (.iload 6, 2) := by decide +kernel
theorem dX9_bearsOf_127 : decode cX9_bearsOf 127 = .ok (.bipush 10, 2) := by decide +kernel
theorem dX9_bearsOf_129 : decode cX9_bearsOf 129 = .ok (.isub, 1) := by decide +kernel
theorem dX9_bearsOf_130 : decode cX9_bearsOf 130 = .ok (.iconst 0, 1) := by decide +kernel
theorem dX9_bearsOf_131 : decode cX9_bearsOf 131 = .ok (.bipush 99, 2) := by decide +kernel
theorem dX9_bearsOf_133 : decode cX9_bearsOf 133 = .ok (.invokestatic 107, 3) := by decide +kernel
theorem dX9_bearsOf_136 : decode cX9_bearsOf 136 = .ok (.ireturn, 1) := by decide +kernel
theorem dX9_bearsOf_137 : decode cX9_bearsOf 137 = .ok (.bipush 99, 2) := by decide +kernel
theorem dX9_bearsOf_139 : decode cX9_bearsOf 139 = .ok (.ireturn, 1) := by decide +kernel
theorem dX9_bearsOf_140 : decode cX9_bearsOf 140 = .ok (.iload 4, 2) := by decide +kernel
theorem dX9_bearsOf_142 : decode cX9_bearsOf 142 = .ok (.ireturn, 1) := by decide +kernel
theorem dX9_pushesOf_0 : decode cX9_pushesOf 0 = .ok (.aload_n 0, 1) := by decide +kernel
theorem dX9_pushesOf_1 : decode cX9_pushesOf 1 = .ok (.iload_n 1, 1) := by decide +kernel
theorem dX9_pushesOf_2 : decode cX9_pushesOf 2 = .ok (.iconst 2, 1) := by decide +kernel
theorem dX9_pushesOf_3 : decode cX9_pushesOf 3 = .ok (.invokevirtual 89, 3) := by decide +kernel
theorem dX9_pushesOf_6 : decode cX9_pushesOf 6 = .ok (.istore_n 2, 1) := by decide +kernel
theorem dX9_pushesOf_7 : decode cX9_pushesOf 7 = .ok (.aload_n 0, 1) := by decide +kernel
theorem dX9_pushesOf_8 : decode cX9_pushesOf 8 = .ok (.iload_n 1, 1) := by decide +kernel
theorem dX9_pushesOf_9 : decode cX9_pushesOf 9 = .ok (.iconst 0, 1) := by decide +kernel
theorem dX9_pushesOf_10 : decode cX9_pushesOf 10 = .ok (.invokevirtual 89, 3) := by decide +kernel
theorem dX9_pushesOf_13 : decode cX9_pushesOf 13 = .ok (.tableswitch 61 1 5 #[35, 47, 40, 52, 59], 35) := by decide +kernel
theorem dX9_pushesOf_48 : decode cX9_pushesOf 48 = .ok (.iload_n 2, 1) := by decide +kernel
theorem dX9_pushesOf_49 : decode cX9_pushesOf 49 = .ok (.bipush 15, 2) := by decide +kernel
theorem dX9_pushesOf_51 : decode cX9_pushesOf 51 = .ok (.iadd, 1) := by decide +kernel
theorem dX9_pushesOf_52 : decode cX9_pushesOf 52 = .ok (.ireturn, 1) := by decide +kernel
theorem dX9_pushesOf_53 : decode cX9_pushesOf 53 = .ok (.iload_n 2, 1) := by decide +kernel
theorem dX9_pushesOf_54 : decode cX9_pushesOf 54 = .ok (.bipush 15, 2) := by decide +kernel
theorem dX9_pushesOf_56 : decode cX9_pushesOf 56 = .ok (.iadd, 1) := by decide +kernel
theorem dX9_pushesOf_57 : decode cX9_pushesOf 57 = .ok (.iconst 2, 1) := by decide +kernel
theorem dX9_pushesOf_58 : decode cX9_pushesOf 58 = .ok (.idiv, 1) := by decide +kernel
theorem dX9_pushesOf_59 : decode cX9_pushesOf 59 = .ok (.ireturn, 1) := by decide +kernel
theorem dX9_pushesOf_60 : decode cX9_pushesOf 60 = .ok (.iload_n 2, 1) := by decide +kernel
theorem dX9_pushesOf_61 : decode cX9_pushesOf 61 = .ok (.bipush 10, 2) := by decide +kernel
theorem dX9_pushesOf_63 : decode cX9_pushesOf 63 = .ok (.isub, 1) := by decide +kernel
theorem dX9_pushesOf_64 : decode cX9_pushesOf 64 = .ok (.ireturn, 1) := by decide +kernel
theorem dX9_pushesOf_65 : decode cX9_pushesOf 65 = .ok (.iconst 2, 1) := by decide +kernel
theorem dX9_pushesOf_66 : decode cX9_pushesOf 66 = .ok (.iload_n 2, 1) := by decide +kernel
theorem dX9_pushesOf_67 : decode cX9_pushesOf 67 = .ok (.bipush 10, 2) := by decide +kernel
theorem dX9_pushesOf_69 : decode cX9_pushesOf 69 = .ok (.isub, 1) := by decide +kernel
theorem dX9_pushesOf_70 : decode cX9_pushesOf 70 = .ok (.imul, 1) := by decide +kernel
theorem dX9_pushesOf_71 : decode cX9_pushesOf 71 = .ok (.ireturn, 1) := by decide +kernel
theorem dX9_pushesOf_72 : decode cX9_pushesOf 72 = .ok (.iconst 0, 1) := by decide +kernel
theorem dX9_pushesOf_73 : decode cX9_pushesOf 73 = .ok (.ireturn, 1) := by decide +kernel
theorem dX9_pushesOf_74 : decode cX9_pushesOf 74 = .ok (.iload_n 2, 1) := by decide +kernel
theorem dX9_pushesOf_75 : decode cX9_pushesOf 75 = .ok (.ireturn, 1) := by decide +kernel
theorem dX9_worthOf_0 : decode cX9_worthOf 0 = .ok (.aload_n 0, 1) := by decide +kernel
theorem dX9_worthOf_1 : decode cX9_worthOf 1 = .ok (.iload_n 1, 1) := by decide +kernel
theorem dX9_worthOf_2 : decode cX9_worthOf 2 = .ok (.iconst 4, 1) := by decide +kernel
theorem dX9_worthOf_3 : decode cX9_worthOf 3 = .ok (.invokevirtual 89, 3) := by decide +kernel
theorem dX9_worthOf_6 : decode cX9_worthOf 6 = .ok (.aload_n 0, 1) := by decide +kernel
theorem dX9_worthOf_7 : decode cX9_worthOf 7 = .ok (.iload_n 1, 1) := by decide +kernel
theorem dX9_worthOf_8 : decode cX9_worthOf 8 = .ok (.iconst 2, 1) := by decide +kernel
theorem dX9_worthOf_9 : decode cX9_worthOf 9 = .ok (.invokevirtual 89, 3) := by decide +kernel
theorem dX9_worthOf_12 : decode cX9_worthOf 12 = .ok (.iadd, 1) := by decide +kernel
theorem dX9_worthOf_13 : decode cX9_worthOf 13 = .ok (.istore_n 2, 1) := by decide +kernel
theorem dX9_worthOf_14 : decode cX9_worthOf 14 = .ok (.bipush 99, 2) := by decide +kernel
theorem dX9_worthOf_16 : decode cX9_worthOf 16 = .ok (.aload_n 0, 1) := by decide +kernel
theorem dX9_worthOf_17 : decode cX9_worthOf 17 = .ok (.iload_n 1, 1) := by decide +kernel
theorem dX9_worthOf_18 : decode cX9_worthOf 18 = .ok (.iconst 1, 1) := by decide +kernel
theorem dX9_worthOf_19 : decode cX9_worthOf 19 = .ok (.invokevirtual 89, 3) := by decide +kernel
theorem dX9_worthOf_22 : decode cX9_worthOf 22 = .ok (.isub, 1) := by decide +kernel
theorem dX9_worthOf_23 : decode cX9_worthOf 23 = .ok (.istore_n 3, 1) := by decide +kernel
theorem dX9_worthOf_24 : decode cX9_worthOf 24 = .ok (.aload_n 0, 1) := by decide +kernel
theorem dX9_worthOf_25 : decode cX9_worthOf 25 = .ok (.iload_n 1, 1) := by decide +kernel
theorem dX9_worthOf_26 : decode cX9_worthOf 26 = .ok (.iconst 0, 1) := by decide +kernel
theorem dX9_worthOf_27 : decode cX9_worthOf 27 = .ok (.invokevirtual 89, 3) := by decide +kernel
theorem dX9_worthOf_30 : decode cX9_worthOf 30 = .ok (.tableswitch 50 1 5 #[34, 40, 36, 42, 46], 34) := by decide +kernel
theorem dX9_worthOf_64 : decode cX9_worthOf 64 = .ok (.iload_n 2, 1) := by decide +kernel
theorem dX9_worthOf_65 : decode cX9_worthOf 65 = .ok (.ireturn, 1) := by decide +kernel
theorem dX9_worthOf_66 : decode cX9_worthOf 66 = .ok (.iconst 5, 1) := by decide +kernel
theorem dX9_worthOf_67 : decode cX9_worthOf 67 = .ok (.iload_n 2, 1) := by decide +kernel
theorem dX9_worthOf_68 : decode cX9_worthOf 68 = .ok (.imul, 1) := by decide +kernel
theorem dX9_worthOf_69 : decode cX9_worthOf 69 = .ok (.ireturn, 1) := by decide +kernel
theorem dX9_worthOf_70 : decode cX9_worthOf 70 = .ok (.iload_n 3, 1) := by decide +kernel
theorem dX9_worthOf_71 : decode cX9_worthOf 71 = .ok (.ireturn, 1) := by decide +kernel
theorem dX9_worthOf_72 : decode cX9_worthOf 72 = .ok (.iload_n 3, 1) := by decide +kernel
theorem dX9_worthOf_73 : decode cX9_worthOf 73 = .ok (.iconst 2, 1) := by decide +kernel
theorem dX9_worthOf_74 : decode cX9_worthOf 74 = .ok (.idiv, 1) := by decide +kernel
theorem dX9_worthOf_75 : decode cX9_worthOf 75 = .ok (.ireturn, 1) := by decide +kernel
theorem dX9_worthOf_76 : decode cX9_worthOf 76 = .ok (.sipush 500, 3) := by decide +kernel
theorem dX9_worthOf_79 : decode cX9_worthOf 79 = .ok (.ireturn, 1) := by decide +kernel
theorem dX9_worthOf_80 : decode cX9_worthOf 80 = .ok (.aload_n 0, 1) := by decide +kernel
theorem dX9_worthOf_81 : decode cX9_worthOf 81 = .ok (.iload_n 1, 1) := by decide +kernel
theorem dX9_worthOf_82 : decode cX9_worthOf 82 = .ok (.iconst 4, 1) := by decide +kernel
theorem dX9_worthOf_83 : decode cX9_worthOf 83 = .ok (.invokevirtual 89, 3) := by decide +kernel
theorem dX9_worthOf_86 : decode cX9_worthOf 86 = .ok (.ireturn, 1) := by decide +kernel
theorem dX9_comes_0 : decode cX9_comes 0 = .ok (.aload_n 0, 1) := by decide +kernel
theorem dX9_comes_1 : decode cX9_comes 1 = .ok (.getfield 9, 3) := by decide +kernel
theorem dX9_comes_4 : decode cX9_comes 4 = .ok (.iconst 1, 1) := by decide +kernel
theorem dX9_comes_5 : decode cX9_comes 5 = .ok (.iaload, 1) := by decide +kernel
theorem dX9_comes_6 : decode cX9_comes 6 = .ok (.istore 5, 2) := by decide +kernel
theorem dX9_comes_8 : decode cX9_comes 8 = .ok (.aload_n 0, 1) := by decide +kernel
theorem dX9_comes_9 : decode cX9_comes 9 = .ok (.getfield 9, 3) := by decide +kernel
theorem dX9_comes_12 : decode cX9_comes 12 = .ok (.iconst 1, 1) := by decide +kernel
theorem dX9_comes_13 : decode cX9_comes 13 = .ok (.dup2, 1) := by decide +kernel
theorem dX9_comes_14 : decode cX9_comes 14 = .ok (.iaload, 1) := by decide +kernel
theorem dX9_comes_15 : decode cX9_comes 15 = .ok (.iconst 1, 1) := by decide +kernel
theorem dX9_comes_16 : decode cX9_comes 16 = .ok (.iadd, 1) := by decide +kernel
theorem dX9_comes_17 : decode cX9_comes 17 = .ok (.iastore, 1) := by decide +kernel
theorem dX9_comes_18 : decode cX9_comes 18 = .ok (.aload_n 0, 1) := by decide +kernel
theorem dX9_comes_19 : decode cX9_comes 19 = .ok (.iload 5, 2) := by decide +kernel
theorem dX9_comes_21 : decode cX9_comes 21 = .ok (.iconst 0, 1) := by decide +kernel
theorem dX9_comes_22 : decode cX9_comes 22 = .ok (.iload_n 1, 1) := by decide +kernel
theorem dX9_comes_23 : decode cX9_comes 23 = .ok (.invokevirtual 114, 3) := by decide +kernel
theorem dX9_comes_26 : decode cX9_comes 26 = .ok (.aload_n 0, 1) := by decide +kernel
theorem dX9_comes_27 : decode cX9_comes 27 = .ok (.iload 5, 2) := by decide +kernel
theorem dX9_comes_29 : decode cX9_comes 29 = .ok (.iconst 1, 1) := by decide +kernel
theorem dX9_comes_30 : decode cX9_comes 30 = .ok (.iload_n 2, 1) := by decide +kernel
theorem dX9_comes_31 : decode cX9_comes 31 = .ok (.invokevirtual 114, 3) := by decide +kernel
theorem dX9_comes_34 : decode cX9_comes 34 = .ok (.aload_n 0, 1) := by decide +kernel
theorem dX9_comes_35 : decode cX9_comes 35 = .ok (.iload 5, 2) := by decide +kernel
theorem dX9_comes_37 : decode cX9_comes 37 = .ok (.iconst 2, 1) := by decide +kernel
theorem dX9_comes_38 : decode cX9_comes 38 = .ok (.iload_n 3, 1) := by decide +kernel
theorem dX9_comes_39 : decode cX9_comes 39 = .ok (.invokevirtual 114, 3) := by decide +kernel
theorem dX9_comes_42 : decode cX9_comes 42 = .ok (.aload_n 0, 1) := by decide +kernel
theorem dX9_comes_43 : decode cX9_comes 43 = .ok (.iload 5, 2) := by decide +kernel
theorem dX9_comes_45 : decode cX9_comes 45 = .ok (.iconst 3, 1) := by decide +kernel
theorem dX9_comes_46 : decode cX9_comes 46 = .ok (.iload 4, 2) := by decide +kernel
theorem dX9_comes_48 : decode cX9_comes 48 = .ok (.invokevirtual 114, 3) := by decide +kernel
theorem dX9_comes_51 : decode cX9_comes 51 = .ok (.aload_n 0, 1) := by decide +kernel
theorem dX9_comes_52 : decode cX9_comes 52 = .ok (.iload 5, 2) := by decide +kernel
theorem dX9_comes_54 : decode cX9_comes 54 = .ok (.iconst 4, 1) := by decide +kernel
theorem dX9_comes_55 : decode cX9_comes 55 = .ok (.iconst 0, 1) := by decide +kernel
theorem dX9_comes_56 : decode cX9_comes 56 = .ok (.invokevirtual 114, 3) := by decide +kernel
theorem dX9_comes_59 : decode cX9_comes 59 = .ok (.aload_n 0, 1) := by decide +kernel
theorem dX9_comes_60 : decode cX9_comes 60 = .ok (.iload 5, 2) := by decide +kernel
theorem dX9_comes_62 : decode cX9_comes 62 = .ok (.iconst 5, 1) := by decide +kernel
theorem dX9_comes_63 : decode cX9_comes 63 = .ok (.iconst 0, 1) := by decide +kernel
theorem dX9_comes_64 : decode cX9_comes 64 = .ok (.invokevirtual 114, 3) := by decide +kernel
theorem dX9_comes_67 : decode cX9_comes 67 = .ok (.iload 5, 2) := by decide +kernel
theorem dX9_comes_69 : decode cX9_comes 69 = .ok (.ireturn, 1) := by decide +kernel
theorem dX9_man_0 : decode cX9_man 0 = .ok (.iload_n 1, 1) := by decide +kernel
theorem dX9_man_1 : decode cX9_man 1 = .ok (.iconst 0, 1) := by decide +kernel
theorem dX9_man_2 : decode cX9_man 2 = .ok (.iconst 5, 1) := by decide +kernel
theorem dX9_man_3 : decode cX9_man 3 = .ok (.invokestatic 81, 3) := by decide +kernel
theorem dX9_man_6 : decode cX9_man 6 = .ok (.ifCond .eq 31, 3) := by decide +kernel
theorem dX9_man_9 : decode cX9_man 9 = .ok (.iload_n 2, 1) := by decide +kernel
theorem dX9_man_10 : decode cX9_man 10 = .ok (.iconst 0, 1) := by decide +kernel
theorem dX9_man_11 : decode cX9_man 11 = .ok (.bipush 99, 2) := by decide +kernel
theorem dX9_man_13 : decode cX9_man 13 = .ok (.invokestatic 81, 3) := by decide +kernel
theorem dX9_man_16 : decode cX9_man 16 = .ok (.ifCond .eq 21, 3) := by decide +kernel
theorem dX9_man_19 : decode cX9_man 19 = .ok (.iload_n 3, 1) := by decide +kernel
theorem dX9_man_20 : decode cX9_man 20 = .ok (.iconst 0, 1) := by decide +kernel
theorem dX9_man_21 : decode cX9_man 21 = .ok (.bipush 99, 2) := by decide +kernel
theorem dX9_man_23 : decode cX9_man 23 = .ok (.invokestatic 81, 3) := by decide +kernel
theorem dX9_man_26 : decode cX9_man 26 = .ok (.ifCond .eq 11, 3) := by decide +kernel
theorem dX9_man_29 : decode cX9_man 29 = .ok (.iload 4, 2) := by decide +kernel
theorem dX9_man_31 : decode cX9_man 31 = .ok (.invokestatic 118, 3) := by decide +kernel
theorem dX9_man_34 : decode cX9_man 34 = .ok (.ifCond .ne 6, 3) := by decide +kernel
theorem dX9_man_37 : decode cX9_man 37 = .ok (.ldc 121, 2) := by decide +kernel
theorem dX9_man_39 : decode cX9_man 39 = .ok (.ireturn, 1) := by decide +kernel
theorem dX9_man_40 : decode cX9_man 40 = .ok (.aload_n 0, 1) := by decide +kernel
theorem dX9_man_41 : decode cX9_man 41 = .ok (.getfield 9, 3) := by decide +kernel
theorem dX9_man_44 : decode cX9_man 44 = .ok (.iconst 1, 1) := by decide +kernel
theorem dX9_man_45 : decode cX9_man 45 = .ok (.iaload, 1) := by decide +kernel
theorem dX9_man_46 : decode cX9_man 46 = .ok (.bipush 9, 2) := by decide +kernel
theorem dX9_man_48 : decode cX9_man 48 = .ok (.if_icmp .ne 8, 3) := by decide +kernel
theorem dX9_man_51 : decode cX9_man 51 = .ok (.ldc 122, 2) := by decide +kernel
theorem dX9_man_53 : decode cX9_man 53 = .ok (.goto 12, 3) := by decide +kernel
theorem dX9_man_56 : decode cX9_man 56 = .ok (.aload_n 0, 1) := by decide +kernel
theorem dX9_man_57 : decode cX9_man 57 = .ok (.iload_n 1, 1) := by decide +kernel
theorem dX9_man_58 : decode cX9_man 58 = .ok (.iload_n 2, 1) := by decide +kernel
theorem dX9_man_59 : decode cX9_man 59 = .ok (.iload_n 3, 1) := by decide +kernel
theorem dX9_man_60 : decode cX9_man 60 = .ok (.iload 4, 2) := by decide +kernel
theorem dX9_man_62 : decode cX9_man 62 = .ok (.invokevirtual 123, 3) := by decide +kernel
theorem dX9_man_65 : decode cX9_man 65 = .ok (.ireturn, 1) := by decide +kernel
theorem dX9_told_0 : decode cX9_told 0 = .ok (.aload_n 0, 1) := by decide +kernel
theorem dX9_told_1 : decode cX9_told 1 = .ok (.iload_n 1, 1) := by decide +kernel
theorem dX9_told_2 : decode cX9_told 2 = .ok (.invokevirtual 85, 3) := by decide +kernel
theorem dX9_told_5 : decode cX9_told 5 = .ok (.ifCond .eq 13, 3) := by decide +kernel
theorem dX9_told_8 : decode cX9_told 8 = .ok (.iload_n 2, 1) := by decide +kernel
theorem dX9_told_9 : decode cX9_told 9 = .ok (.iconst 0, 1) := by decide +kernel
theorem dX9_told_10 : decode cX9_told 10 = .ok (.bipush 7, 2) := by decide +kernel
theorem dX9_told_12 : decode cX9_told 12 = .ok (.invokestatic 81, 3) := by decide +kernel
theorem dX9_told_15 : decode cX9_told 15 = .ok (.ifCond .ne 6, 3) := by decide +kernel
theorem dX9_told_18 : decode cX9_told 18 = .ok (.ldc 121, 2) := by decide +kernel
theorem dX9_told_20 : decode cX9_told 20 = .ok (.ireturn, 1) := by decide +kernel
theorem dX9_told_21 : decode cX9_told 21 = .ok (.iload_n 2, 1) := by decide +kernel
theorem dX9_told_22 : decode cX9_told 22 = .ok (.bipush 6, 2) := by decide +kernel
theorem dX9_told_24 : decode cX9_told 24 = .ok (.if_icmp .ge 12, 3) := by decide +kernel
theorem dX9_told_27 : decode cX9_told 27 = .ok (.aload_n 0, 1) := by decide +kernel
theorem dX9_told_28 : decode cX9_told 28 = .ok (.iload_n 1, 1) := by decide +kernel
theorem dX9_told_29 : decode cX9_told 29 = .ok (.iload_n 2, 1) := by decide +kernel
theorem dX9_told_30 : decode cX9_told 30 = .ok (.invokevirtual 89, 3) := by decide +kernel
theorem dX9_told_33 : decode cX9_told 33 = .ok (.goto 22, 3) := by decide +kernel
theorem dX9_told_36 : decode cX9_told 36 = .ok (.iload_n 2, 1) := by decide +kernel
theorem dX9_told_37 : decode cX9_told 37 = .ok (.bipush 6, 2) := by decide +kernel
theorem dX9_told_39 : decode cX9_told 39 = .ok (.if_icmp .ne 11, 3) := by decide +kernel
theorem dX9_told_42 : decode cX9_told 42 = .ok (.aload_n 0, 1) := by decide +kernel
theorem dX9_told_43 : decode cX9_told 43 = .ok (.iload_n 1, 1) := by decide +kernel
theorem dX9_told_44 : decode cX9_told 44 = .ok (.invokevirtual 127, 3) := by decide +kernel
theorem dX9_told_47 : decode cX9_told 47 = .ok (.goto 8, 3) := by decide +kernel
theorem dX9_told_50 : decode cX9_told 50 = .ok (.aload_n 0, 1) := by decide +kernel
theorem dX9_told_51 : decode cX9_told 51 = .ok (.iload_n 1, 1) := by decide +kernel
theorem dX9_told_52 : decode cX9_told 52 = .ok (.invokevirtual 130, 3) := by decide +kernel
theorem dX9_told_55 : decode cX9_told 55 = .ok (.ireturn, 1) := by decide +kernel
theorem dX9_bears_0 : decode cX9_bears 0 = .ok (.aload_n 0, 1) := by decide +kernel
theorem dX9_bears_1 : decode cX9_bears 1 = .ok (.iload_n 1, 1) := by decide +kernel
theorem dX9_bears_2 : decode cX9_bears 2 = .ok (.invokevirtual 85, 3) := by decide +kernel
theorem dX9_bears_5 : decode cX9_bears 5 = .ok (.ifCond .eq 19, 3) := by decide +kernel
theorem dX9_bears_8 : decode cX9_bears 8 = .ok (.iload_n 2, 1) := by decide +kernel
theorem dX9_bears_9 : decode cX9_bears 9 = .ok (.invokestatic 118, 3) := by decide +kernel
theorem dX9_bears_12 : decode cX9_bears 12 = .ok (.ifCond .eq 12, 3) := by decide +kernel
theorem dX9_bears_15 : decode cX9_bears 15 = .ok (.aload_n 0, 1) := by decide +kernel
theorem dX9_bears_16 : decode cX9_bears 16 = .ok (.iload_n 1, 1) := by decide +kernel
theorem dX9_bears_17 : decode cX9_bears 17 = .ok (.iload_n 2, 1) := by decide +kernel
theorem dX9_bears_18 : decode cX9_bears 18 = .ok (.invokevirtual 133, 3) := by decide +kernel
theorem dX9_bears_21 : decode cX9_bears 21 = .ok (.goto 5, 3) := by decide +kernel
theorem dX9_bears_24 : decode cX9_bears 24 = .ok (.ldc 121, 2) := by decide +kernel
theorem dX9_bears_26 : decode cX9_bears 26 = .ok (.ireturn, 1) := by decide +kernel
theorem dX9_isUnder_0 : decode cX9_isUnder 0 = .ok (.iload_n 1, 1) := by decide +kernel
theorem dX9_isUnder_1 : decode cX9_isUnder 1 = .ok (.ifCond .eq 28, 3) := by decide +kernel
theorem dX9_isUnder_4 : decode cX9_isUnder 4 = .ok (.iload_n 0, 1) := by decide +kernel
theorem dX9_isUnder_5 : decode cX9_isUnder 5 = .ok (.iload_n 1, 1) := by decide +kernel
theorem dX9_isUnder_6 : decode cX9_isUnder 6 = .ok (.if_icmp .eq 23, 3) := by decide +kernel
theorem dX9_isUnder_9 : decode cX9_isUnder 9 = .ok (.iload_n 1, 1) := by decide +kernel
theorem dX9_isUnder_10 : decode cX9_isUnder 10 = .ok (.iconst 1, 1) := by decide +kernel
theorem dX9_isUnder_11 : decode cX9_isUnder 11 = .ok (.if_icmp .ne 8, 3) := by decide +kernel
theorem dX9_isUnder_14 : decode cX9_isUnder 14 = .ok (.iload_n 0, 1) := by decide +kernel
theorem dX9_isUnder_15 : decode cX9_isUnder 15 = .ok (.iconst 3, 1) := by decide +kernel
theorem dX9_isUnder_16 : decode cX9_isUnder 16 = .ok (.if_icmp .eq 13, 3) := by decide +kernel
theorem dX9_isUnder_19 : decode cX9_isUnder 19 = .ok (.iload_n 1, 1) := by decide +kernel
theorem dX9_isUnder_20 : decode cX9_isUnder 20 = .ok (.iconst 2, 1) := by decide +kernel
theorem dX9_isUnder_21 : decode cX9_isUnder 21 = .ok (.if_icmp .ne 12, 3) := by decide +kernel
theorem dX9_isUnder_24 : decode cX9_isUnder 24 = .ok (.iload_n 0, 1) := by decide +kernel
theorem dX9_isUnder_25 : decode cX9_isUnder 25 = .ok (.iconst 4, 1) := by decide +kernel
theorem dX9_isUnder_26 : decode cX9_isUnder 26 = .ok (.if_icmp .ne 7, 3) := by decide +kernel
theorem dX9_isUnder_29 : decode cX9_isUnder 29 = .ok (.iconst 1, 1) := by decide +kernel
theorem dX9_isUnder_30 : decode cX9_isUnder 30 = .ok (.goto 4, 3) := by decide +kernel
theorem dX9_isUnder_33 : decode cX9_isUnder 33 = .ok (.iconst 0, 1) := by decide +kernel
theorem dX9_isUnder_34 : decode cX9_isUnder 34 = .ok (.ireturn, 1) := by decide +kernel
