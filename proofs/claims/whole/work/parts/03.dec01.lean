theorem dX6_chosen_0 : decode cX6_chosen 0 = .ok (.iload_n 0, 1) := by decide +kernel
theorem dX6_chosen_1 : decode cX6_chosen 1 = .ok (.tableswitch 33 0 2 #[27, 29, 31], 27) := by decide +kernel
theorem dX6_chosen_28 : decode cX6_chosen 28 = .ok (.iload_n 1, 1) := by decide +kernel
theorem dX6_chosen_29 : decode cX6_chosen 29 = .ok (.ireturn, 1) := by decide +kernel
theorem dX6_chosen_30 : decode cX6_chosen 30 = .ok (.iload_n 2, 1) := by decide +kernel
theorem dX6_chosen_31 : decode cX6_chosen 31 = .ok (.ireturn, 1) := by decide +kernel
theorem dX6_chosen_32 : decode cX6_chosen 32 = .ok (.iload_n 3, 1) := by decide +kernel
theorem dX6_chosen_33 : decode cX6_chosen 33 = .ok (.ireturn, 1) := by decide +kernel
theorem dX6_chosen_34 : decode cX6_chosen 34 = .ok (.iload 4, 2) := by decide +kernel
theorem dX6_chosen_36 : decode cX6_chosen 36 = .ok (.ireturn, 1) := by decide +kernel
theorem dX6_joined_0 : decode cX6_joined 0 = .ok (.iload_n 0, 1) := by decide +kernel
theorem dX6_joined_1 : decode cX6_joined 1 = .ok (.tableswitch 186 38 62 #[172, 186, 186, 186, 123, 115, 186, 119, 186, 127, 186, 186, 186, 186, 186, 186, 186, 186, 186, 186, 186, 186, 139, 150, 161], 115) := by decide +kernel
theorem dX6_joined_116 : decode cX6_joined 116 = .ok (.iload_n 1, 1) := by decide +kernel
theorem dX6_joined_117 : decode cX6_joined 117 = .ok (.iload_n 2, 1) := by decide +kernel
theorem dX6_joined_118 : decode cX6_joined 118 = .ok (.iadd, 1) := by decide +kernel
theorem dX6_joined_119 : decode cX6_joined 119 = .ok (.ireturn, 1) := by decide +kernel
theorem dX6_joined_120 : decode cX6_joined 120 = .ok (.iload_n 1, 1) := by decide +kernel
theorem dX6_joined_121 : decode cX6_joined 121 = .ok (.iload_n 2, 1) := by decide +kernel
theorem dX6_joined_122 : decode cX6_joined 122 = .ok (.isub, 1) := by decide +kernel
theorem dX6_joined_123 : decode cX6_joined 123 = .ok (.ireturn, 1) := by decide +kernel
theorem dX6_joined_124 : decode cX6_joined 124 = .ok (.iload_n 1, 1) := by decide +kernel
theorem dX6_joined_125 : decode cX6_joined 125 = .ok (.iload_n 2, 1) := by decide +kernel
theorem dX6_joined_126 : decode cX6_joined 126 = .ok (.imul, 1) := by decide +kernel
theorem dX6_joined_127 : decode cX6_joined 127 = .ok (.ireturn, 1) := by decide +kernel
theorem dX6_joined_128 : decode cX6_joined 128 = .ok (.iload_n 2, 1) := by decide +kernel
theorem dX6_joined_129 : decode cX6_joined 129 = .ok (.ifCond .ne 7, 3) := by decide +kernel
theorem dX6_joined_132 : decode cX6_joined 132 = .ok (.iconst 0, 1) := by decide +kernel
theorem dX6_joined_133 : decode cX6_joined 133 = .ok (.goto 6, 3) := by decide +kernel
theorem dX6_joined_136 : decode cX6_joined 136 = .ok (.iload_n 1, 1) := by decide +kernel
theorem dX6_joined_137 : decode cX6_joined 137 = .ok (.iload_n 2, 1) := by decide +kernel
theorem dX6_joined_138 : decode cX6_joined 138 = .ok (.idiv, 1) := by decide +kernel
theorem dX6_joined_139 : decode cX6_joined 139 = .ok (.ireturn, 1) := by decide +kernel
theorem dX6_joined_140 : decode cX6_joined 140 = .ok (.iload_n 1, 1) := by decide +kernel
theorem dX6_joined_141 : decode cX6_joined 141 = .ok (.iload_n 2, 1) := by decide +kernel
theorem dX6_joined_142 : decode cX6_joined 142 = .ok (.if_icmp .ge 7, 3) := by decide +kernel
theorem dX6_joined_145 : decode cX6_joined 145 = .ok (.iconst 1, 1) := by decide +kernel
theorem dX6_joined_146 : decode cX6_joined 146 = .ok (.goto 4, 3) := by decide +kernel
theorem dX6_joined_149 : decode cX6_joined 149 = .ok (.iconst 0, 1) := by decide +kernel
theorem dX6_joined_150 : decode cX6_joined 150 = .ok (.ireturn, 1) := by decide +kernel
theorem dX6_joined_151 : decode cX6_joined 151 = .ok (.iload_n 1, 1) := by decide +kernel
theorem dX6_joined_152 : decode cX6_joined 152 = .ok (.iload_n 2, 1) := by decide +kernel
theorem dX6_joined_153 : decode cX6_joined 153 = .ok (.if_icmp .ne 7, 3) := by decide +kernel
theorem dX6_joined_156 : decode cX6_joined 156 = .ok (.iconst 1, 1) := by decide +kernel
theorem dX6_joined_157 : decode cX6_joined 157 = .ok (.goto 4, 3) := by decide +kernel
theorem dX6_joined_160 : decode cX6_joined 160 = .ok (.iconst 0, 1) := by decide +kernel
theorem dX6_joined_161 : decode cX6_joined 161 = .ok (.ireturn, 1) := by decide +kernel
theorem dX6_joined_162 : decode cX6_joined 162 = .ok (.iload_n 1, 1) := by decide +kernel
theorem dX6_joined_163 : decode cX6_joined 163 = .ok (.iload_n 2, 1) := by decide +kernel
theorem dX6_joined_164 : decode cX6_joined 164 = .ok (.if_icmp .le 7, 3) := by decide +kernel
theorem dX6_joined_167 : decode cX6_joined 167 = .ok (.iconst 1, 1) := by decide +kernel
theorem dX6_joined_168 : decode cX6_joined 168 = .ok (.goto 4, 3) := by decide +kernel
theorem dX6_joined_171 : decode cX6_joined 171 = .ok (.iconst 0, 1) := by decide +kernel
theorem dX6_joined_172 : decode cX6_joined 172 = .ok (.ireturn, 1) := by decide +kernel
theorem dX6_joined_173 : decode cX6_joined 173 = .ok (.iload_n 1, 1) := by decide +kernel
theorem dX6_joined_174 : decode cX6_joined 174 = .ok (.ifCond .eq 11, 3) := by decide +kernel
theorem dX6_joined_177 : decode cX6_joined 177 = .ok (.iload_n 2, 1) := by decide +kernel
theorem dX6_joined_178 : decode cX6_joined 178 = .ok (.ifCond .eq 7, 3) := by decide +kernel
theorem dX6_joined_181 : decode cX6_joined 181 = .ok (.iconst 1, 1) := by decide +kernel
theorem dX6_joined_182 : decode cX6_joined 182 = .ok (.goto 4, 3) := by decide +kernel
theorem dX6_joined_185 : decode cX6_joined 185 = .ok (.iconst 0, 1) := by decide +kernel
theorem dX6_joined_186 : decode cX6_joined 186 = .ok (.ireturn, 1) := by decide +kernel
theorem dX6_joined_187 : decode cX6_joined 187 = .ok (.iload_n 1, 1) := by decide +kernel
theorem dX6_joined_188 : decode cX6_joined 188 = .ok (.ifCond .ne 7, 3) := by decide +kernel
theorem dX6_joined_191 : decode cX6_joined 191 = .ok (.iload_n 2, 1) := by decide +kernel
theorem dX6_joined_192 : decode cX6_joined 192 = .ok (.ifCond .eq 7, 3) := by decide +kernel
theorem dX6_joined_195 : decode cX6_joined 195 = .ok (.iconst 1, 1) := by decide +kernel
theorem dX6_joined_196 : decode cX6_joined 196 = .ok (.goto 4, 3) := by decide +kernel
theorem dX6_joined_199 : decode cX6_joined 199 = .ok (.iconst 0, 1) := by decide +kernel
theorem dX6_joined_200 : decode cX6_joined 200 = .ok (.ireturn, 1) := by decide +kernel
theorem dX7_init_0 : decode cX7_init 0 = .ok (.aload_n 0, 1) := by decide +kernel
theorem dX7_init_1 : decode cX7_init 1 = .ok (.invokespecial 3, 3) := by decide +kernel
theorem dX7_init_4 : decode cX7_init 4 = .ok (.aload_n 0, 1) := by decide +kernel
theorem dX7_init_5 : decode cX7_init 5 = .ok (.new 9, 3) := by decide +kernel
theorem dX7_init_8 : decode cX7_init 8 = .ok (.dup, 1) := by decide +kernel
theorem dX7_init_9 : decode cX7_init 9 = .ok (.invokespecial 11, 3) := by decide +kernel
theorem dX7_init_12 : decode cX7_init 12 = .ok (.putfield 12, 3) := by decide +kernel
theorem dX7_init_15 : decode cX7_init 15 = .ok (.aload_n 0, 1) := by decide +kernel
theorem dX7_init_16 : decode cX7_init 16 = .ok (.iconst 0, 1) := by decide +kernel
theorem dX7_init_17 : decode cX7_init 17 = .ok (.putfield 18, 3) := by decide +kernel
theorem dX7_init_20 : decode cX7_init 20 = .ok (.aload_n 0, 1) := by decide +kernel
theorem dX7_init_21 : decode cX7_init 21 = .ok (.iconst 0, 1) := by decide +kernel
theorem dX7_init_22 : decode cX7_init 22 = .ok (.putfield 22, 3) := by decide +kernel
theorem dX7_init_25 : decode cX7_init 25 = .ok (.aload_n 0, 1) := by decide +kernel
theorem dX7_init_26 : decode cX7_init 26 = .ok (.iconst 0, 1) := by decide +kernel
theorem dX7_init_27 : decode cX7_init 27 = .ok (.putfield 25, 3) := by decide +kernel
theorem dX7_init_30 : decode cX7_init 30 = .ok (.aload_n 0, 1) := by decide +kernel
theorem dX7_init_31 : decode cX7_init 31 = .ok (.iconst 0, 1) := by decide +kernel
theorem dX7_init_32 : decode cX7_init 32 = .ok (.putfield 28, 3) := by decide +kernel
theorem dX7_init_35 : decode cX7_init 35 = .ok (.aload_n 0, 1) := by decide +kernel
theorem dX7_init_36 : decode cX7_init 36 = .ok (.iconst 1, 1) := by decide +kernel
theorem dX7_init_37 : decode cX7_init 37 = .ok (.putfield 32, 3) := by decide +kernel
theorem dX7_init_40 : decode cX7_init 40 = .ok (.aload_n 0, 1) := by decide +kernel
theorem dX7_init_41 : decode cX7_init 41 = .ok (.iconst 0, 1) := by decide +kernel
theorem dX7_init_42 : decode cX7_init 42 = .ok (.putfield 35, 3) := by decide +kernel
theorem dX7_init_45 : decode cX7_init 45 = .ok (.aload_n 0, 1) := by decide +kernel
theorem dX7_init_46 : decode cX7_init 46 = .ok (.iconst 0, 1) := by decide +kernel
theorem dX7_init_47 : decode cX7_init 47 = .ok (.putfield 38, 3) := by decide +kernel
theorem dX7_init_50 : decode cX7_init 50 = .ok (.aload_n 0, 1) := by decide +kernel
theorem dX7_init_51 : decode cX7_init 51 = .ok (.iconst 0, 1) := by decide +kernel
theorem dX7_init_52 : decode cX7_init 52 = .ok (.putfield 41, 3) := by decide +kernel
theorem dX7_init_55 : decode cX7_init 55 = .ok (.aload_n 0, 1) := by decide +kernel
theorem dX7_init_56 : decode cX7_init 56 = .ok (.iconst 0, 1) := by decide +kernel
theorem dX7_init_57 : decode cX7_init 57 = .ok (.putfield 44, 3) := by decide +kernel
theorem dX7_init_60 : decode cX7_init 60 = .ok (.aload_n 0, 1) := by decide +kernel
theorem dX7_init_61 : decode cX7_init 61 = .ok (.bipush 96, 2) := by decide +kernel
theorem dX7_init_63 : decode cX7_init 63 = .ok (.newarray .int, 2) := by decide +kernel
theorem dX7_init_65 : decode cX7_init 65 = .ok (.putfield 47, 3) := by decide +kernel
theorem dX7_init_68 : decode cX7_init 68 = .ok (.aload_n 0, 1) := by decide +kernel
theorem dX7_init_69 : decode cX7_init 69 = .ok (.iconst 0, 1) := by decide +kernel
theorem dX7_init_70 : decode cX7_init 70 = .ok (.putfield 51, 3) := by decide +kernel
theorem dX7_init_73 : decode cX7_init 73 = .ok (.aload_n 0, 1) := by decide +kernel
theorem dX7_init_74 : decode cX7_init 74 = .ok (.bipush 96, 2) := by decide +kernel
theorem dX7_init_76 : decode cX7_init 76 = .ok (.newarray .int, 2) := by decide +kernel
theorem dX7_init_78 : decode cX7_init 78 = .ok (.putfield 54, 3) := by decide +kernel
theorem dX7_init_81 : decode cX7_init 81 = .ok (.aload_n 0, 1) := by decide +kernel
theorem dX7_init_82 : decode cX7_init 82 = .ok (.iconst 0, 1) := by decide +kernel
theorem dX7_init_83 : decode cX7_init 83 = .ok (.putfield 57, 3) := by decide +kernel
theorem dX7_init_86 : decode cX7_init 86 = .ok (.return_, 1) := by decide +kernel
theorem dX7_faultFound_0 : decode cX7_faultFound 0 = .ok (.aload_n 0, 1) := by decide +kernel
theorem dX7_faultFound_1 : decode cX7_faultFound 1 = .ok (.invokevirtual 60, 3) := by decide +kernel
theorem dX7_faultFound_4 : decode cX7_faultFound 4 = .ok (.aload_n 0, 1) := by decide +kernel
theorem dX7_faultFound_5 : decode cX7_faultFound 5 = .ok (.invokevirtual 63, 3) := by decide +kernel
theorem dX7_faultFound_8 : decode cX7_faultFound 8 = .ok (.aload_n 0, 1) := by decide +kernel
theorem dX7_faultFound_9 : decode cX7_faultFound 9 = .ok (.aload_n 0, 1) := by decide +kernel
theorem dX7_faultFound_10 : decode cX7_faultFound 10 = .ok (.invokevirtual 66, 3) := by decide +kernel
theorem dX7_faultFound_13 : decode cX7_faultFound 13 = .ok (.putfield 35, 3) := by decide +kernel
theorem dX7_faultFound_16 : decode cX7_faultFound 16 = .ok (.aload_n 0, 1) := by decide +kernel
theorem dX7_faultFound_17 : decode cX7_faultFound 17 = .ok (.getfield 35, 3) := by decide +kernel
theorem dX7_faultFound_20 : decode cX7_faultFound 20 = .ok (.iconst 3, 1) := by decide +kernel
theorem dX7_faultFound_21 : decode cX7_faultFound 21 = .ok (.if_icmp .lt 8, 3) := by decide +kernel
theorem dX7_faultFound_24 : decode cX7_faultFound 24 = .ok (.aload_n 0, 1) := by decide +kernel
theorem dX7_faultFound_25 : decode cX7_faultFound 25 = .ok (.getfield 22, 3) := by decide +kernel
theorem dX7_faultFound_28 : decode cX7_faultFound 28 = .ok (.ireturn, 1) := by decide +kernel
theorem dX7_faultFound_29 : decode cX7_faultFound 29 = .ok (.iconst 0, 1) := by decide +kernel
theorem dX7_faultFound_30 : decode cX7_faultFound 30 = .ok (.istore_n 1, 1) := by decide +kernel
theorem dX7_faultFound_31 : decode cX7_faultFound 31 = .ok (.iload_n 1, 1) := by decide +kernel
theorem dX7_faultFound_32 : decode cX7_faultFound 32 = .ok (.bipush 96, 2) := by decide +kernel
theorem dX7_faultFound_34 : decode cX7_faultFound 34 = .ok (.if_icmp .gt 79, 3) := by decide +kernel
theorem dX7_faultFound_37 : decode cX7_faultFound 37 = .ok (.aload_n 0, 1) := by decide +kernel
theorem dX7_faultFound_38 : decode cX7_faultFound 38 = .ok (.invokevirtual 63, 3) := by decide +kernel
theorem dX7_faultFound_41 : decode cX7_faultFound 41 = .ok (.aload_n 0, 1) := by decide +kernel
theorem dX7_faultFound_42 : decode cX7_faultFound 42 = .ok (.getfield 18, 3) := by decide +kernel
theorem dX7_faultFound_45 : decode cX7_faultFound 45 = .ok (.ifCond .ne 26, 3) := by decide +kernel
theorem dX7_faultFound_48 : decode cX7_faultFound 48 = .ok (.aload_n 0, 1) := by decide +kernel
theorem dX7_faultFound_49 : decode cX7_faultFound 49 = .ok (.getfield 32, 3) := by decide +kernel
theorem dX7_faultFound_52 : decode cX7_faultFound 52 = .ok (.ifCond .ne 10, 3) := by decide +kernel
theorem dX7_faultFound_55 : decode cX7_faultFound 55 = .ok (.aload_n 0, 1) := by decide +kernel
theorem dX7_faultFound_56 : decode cX7_faultFound 56 = .ok (.getfield 41, 3) := by decide +kernel
theorem dX7_faultFound_59 : decode cX7_faultFound 59 = .ok (.ifCond .le 10, 3) := by decide +kernel
theorem dX7_faultFound_62 : decode cX7_faultFound 62 = .ok (.aload_n 0, 1) := by decide +kernel
theorem dX7_faultFound_63 : decode cX7_faultFound 63 = .ok (.getfield 22, 3) := by decide +kernel
theorem dX7_faultFound_66 : decode cX7_faultFound 66 = .ok (.goto 4, 3) := by decide +kernel
theorem dX7_faultFound_69 : decode cX7_faultFound 69 = .ok (.iconst (-1), 1) := by decide +kernel
theorem dX7_faultFound_70 : decode cX7_faultFound 70 = .ok (.ireturn, 1) := by decide +kernel
theorem dX7_faultFound_71 : decode cX7_faultFound 71 = .ok (.aload_n 0, 1) := by decide +kernel
theorem dX7_faultFound_72 : decode cX7_faultFound 72 = .ok (.getfield 28, 3) := by decide +kernel
theorem dX7_faultFound_75 : decode cX7_faultFound 75 = .ok (.ifCond .ne 27, 3) := by decide +kernel
theorem dX7_faultFound_78 : decode cX7_faultFound 78 = .ok (.aload_n 0, 1) := by decide +kernel
theorem dX7_faultFound_79 : decode cX7_faultFound 79 = .ok (.getfield 32, 3) := by decide +kernel
theorem dX7_faultFound_82 : decode cX7_faultFound 82 = .ok (.ifCond .eq 13, 3) := by decide +kernel
theorem dX7_faultFound_85 : decode cX7_faultFound 85 = .ok (.aload_n 0, 1) := by decide +kernel
theorem dX7_faultFound_86 : decode cX7_faultFound 86 = .ok (.invokevirtual 70, 3) := by decide +kernel
theorem dX7_faultFound_89 : decode cX7_faultFound 89 = .ok (.ifCond .eq 13, 3) := by decide +kernel
theorem dX7_faultFound_92 : decode cX7_faultFound 92 = .ok (.goto 15, 3) := by decide +kernel
theorem dX7_faultFound_95 : decode cX7_faultFound 95 = .ok (.aload_n 0, 1) := by decide +kernel
theorem dX7_faultFound_96 : decode cX7_faultFound 96 = .ok (.invokevirtual 74, 3) := by decide +kernel
theorem dX7_faultFound_99 : decode cX7_faultFound 99 = .ok (.ifCond .ne 8, 3) := by decide +kernel
theorem dX7_faultFound_102 : decode cX7_faultFound 102 = .ok (.aload_n 0, 1) := by decide +kernel
theorem dX7_faultFound_103 : decode cX7_faultFound 103 = .ok (.getfield 22, 3) := by decide +kernel
theorem dX7_faultFound_106 : decode cX7_faultFound 106 = .ok (.ireturn, 1) := by decide +kernel
theorem dX7_faultFound_107 : decode cX7_faultFound 107 = .ok (.iinc 1 1, 3) := by decide +kernel
theorem dX7_faultFound_110 : decode cX7_faultFound 110 = .ok (.goto (-79), 3) := by decide +kernel
theorem dX7_faultFound_113 : decode cX7_faultFound 113 = .ok (.aload_n 0, 1) := by decide +kernel
theorem dX7_faultFound_114 : decode cX7_faultFound 114 = .ok (.getfield 22, 3) := by decide +kernel
theorem dX7_faultFound_117 : decode cX7_faultFound 117 = .ok (.ireturn, 1) := by decide +kernel
theorem dX7_startAgain_0 : decode cX7_startAgain 0 = .ok (.aload_n 0, 1) := by decide +kernel
theorem dX7_startAgain_1 : decode cX7_startAgain 1 = .ok (.iconst 0, 1) := by decide +kernel
theorem dX7_startAgain_2 : decode cX7_startAgain 2 = .ok (.putfield 18, 3) := by decide +kernel
theorem dX7_startAgain_5 : decode cX7_startAgain 5 = .ok (.aload_n 0, 1) := by decide +kernel
theorem dX7_startAgain_6 : decode cX7_startAgain 6 = .ok (.iconst 0, 1) := by decide +kernel
theorem dX7_startAgain_7 : decode cX7_startAgain 7 = .ok (.putfield 22, 3) := by decide +kernel
theorem dX7_startAgain_10 : decode cX7_startAgain 10 = .ok (.aload_n 0, 1) := by decide +kernel
theorem dX7_startAgain_11 : decode cX7_startAgain 11 = .ok (.iconst 0, 1) := by decide +kernel
theorem dX7_startAgain_12 : decode cX7_startAgain 12 = .ok (.putfield 25, 3) := by decide +kernel
theorem dX7_startAgain_15 : decode cX7_startAgain 15 = .ok (.aload_n 0, 1) := by decide +kernel
theorem dX7_startAgain_16 : decode cX7_startAgain 16 = .ok (.iconst 1, 1) := by decide +kernel
theorem dX7_startAgain_17 : decode cX7_startAgain 17 = .ok (.putfield 32, 3) := by decide +kernel
theorem dX7_startAgain_20 : decode cX7_startAgain 20 = .ok (.aload_n 0, 1) := by decide +kernel
theorem dX7_startAgain_21 : decode cX7_startAgain 21 = .ok (.iconst 0, 1) := by decide +kernel
theorem dX7_startAgain_22 : decode cX7_startAgain 22 = .ok (.putfield 38, 3) := by decide +kernel
theorem dX7_startAgain_25 : decode cX7_startAgain 25 = .ok (.aload_n 0, 1) := by decide +kernel
theorem dX7_startAgain_26 : decode cX7_startAgain 26 = .ok (.iconst 0, 1) := by decide +kernel
theorem dX7_startAgain_27 : decode cX7_startAgain 27 = .ok (.putfield 41, 3) := by decide +kernel
theorem dX7_startAgain_30 : decode cX7_startAgain 30 = .ok (.aload_n 0, 1) := by decide +kernel
theorem dX7_startAgain_31 : decode cX7_startAgain 31 = .ok (.iconst 0, 1) := by decide +kernel
theorem dX7_startAgain_32 : decode cX7_startAgain 32 = .ok (.putfield 44, 3) := by decide +kernel
theorem dX7_startAgain_35 : decode cX7_startAgain 35 = .ok (.aload_n 0, 1) := by decide +kernel
theorem dX7_startAgain_36 : decode cX7_startAgain 36 = .ok (.iconst 0, 1) := by decide +kernel
theorem dX7_startAgain_37 : decode cX7_startAgain 37 = .ok (.putfield 51, 3) := by decide +kernel
theorem dX7_startAgain_40 : decode cX7_startAgain 40 = .ok (.aload_n 0, 1) := by decide +kernel
theorem dX7_startAgain_41 : decode cX7_startAgain 41 = .ok (.iconst 0, 1) := by decide +kernel
theorem dX7_startAgain_42 : decode cX7_startAgain 42 = .ok (.putfield 57, 3) := by decide +kernel
theorem dX7_startAgain_45 : decode cX7_startAgain 45 = .ok (.return_, 1) := by decide +kernel
theorem dX7_made_0 : decode cX7_made 0 = .ok (.aload_n 0, 1) := by decide +kernel
theorem dX7_made_1 : decode cX7_made 1 = .ok (.iconst 1, 1) := by decide +kernel
theorem dX7_made_2 : decode cX7_made 2 = .ok (.invokevirtual 77, 3) := by decide +kernel
theorem dX7_made_5 : decode cX7_made 5 = .ok (.new 81, 3) := by decide +kernel
theorem dX7_made_8 : decode cX7_made 8 = .ok (.dup, 1) := by decide +kernel
theorem dX7_made_9 : decode cX7_made 9 = .ok (.aload_n 0, 1) := by decide +kernel
theorem dX7_made_10 : decode cX7_made 10 = .ok (.getfield 35, 3) := by decide +kernel
theorem dX7_made_13 : decode cX7_made 13 = .ok (.aload_n 0, 1) := by decide +kernel
theorem dX7_made_14 : decode cX7_made 14 = .ok (.getfield 38, 3) := by decide +kernel
theorem dX7_made_17 : decode cX7_made 17 = .ok (.aload_n 0, 1) := by decide +kernel
theorem dX7_made_18 : decode cX7_made 18 = .ok (.getfield 54, 3) := by decide +kernel
theorem dX7_made_21 : decode cX7_made 21 = .ok (.aload_n 0, 1) := by decide +kernel
theorem dX7_made_22 : decode cX7_made 22 = .ok (.getfield 57, 3) := by decide +kernel
theorem dX7_made_25 : decode cX7_made 25 = .ok (.invokestatic 83, 3) := by decide +kernel
theorem dX7_made_28 : decode cX7_made 28 = .ok (.invokespecial 89, 3) := by decide +kernel
theorem dX7_made_31 : decode cX7_made 31 = .ok (.areturn, 1) := by decide +kernel
theorem dX7_nextWord_0 : decode cX7_nextWord 0 = .ok (.aload_n 0, 1) := by decide +kernel
theorem dX7_nextWord_1 : decode cX7_nextWord 1 = .ok (.invokevirtual 92, 3) := by decide +kernel
theorem dX7_nextWord_4 : decode cX7_nextWord 4 = .ok (.istore_n 1, 1) := by decide +kernel
theorem dX7_nextWord_5 : decode cX7_nextWord 5 = .ok (.aload_n 0, 1) := by decide +kernel
theorem dX7_nextWord_6 : decode cX7_nextWord 6 = .ok (.getfield 25, 3) := by decide +kernel
theorem dX7_nextWord_9 : decode cX7_nextWord 9 = .ok (.istore_n 2, 1) := by decide +kernel
theorem dX7_nextWord_10 : decode cX7_nextWord 10 = .ok (.aload_n 0, 1) := by decide +kernel
theorem dX7_nextWord_11 : decode cX7_nextWord 11 = .ok (.aload_n 0, 1) := by decide +kernel
theorem dX7_nextWord_12 : decode cX7_nextWord 12 = .ok (.getfield 25, 3) := by decide +kernel
theorem dX7_nextWord_15 : decode cX7_nextWord 15 = .ok (.putfield 22, 3) := by decide +kernel
theorem dX7_nextWord_18 : decode cX7_nextWord 18 = .ok (.aload_n 0, 1) := by decide +kernel
theorem dX7_nextWord_19 : decode cX7_nextWord 19 = .ok (.getfield 22, 3) := by decide +kernel
theorem dX7_nextWord_22 : decode cX7_nextWord 22 = .ok (.aload_n 0, 1) := by decide +kernel
theorem dX7_nextWord_23 : decode cX7_nextWord 23 = .ok (.getfield 12, 3) := by decide +kernel
theorem dX7_nextWord_26 : decode cX7_nextWord 26 = .ok (.getfield 95, 3) := by decide +kernel
theorem dX7_nextWord_29 : decode cX7_nextWord 29 = .ok (.if_icmp .ge 29, 3) := by decide +kernel
theorem dX7_nextWord_32 : decode cX7_nextWord 32 = .ok (.aload_n 0, 1) := by decide +kernel
theorem dX7_nextWord_33 : decode cX7_nextWord 33 = .ok (.aload_n 0, 1) := by decide +kernel
theorem dX7_nextWord_34 : decode cX7_nextWord 34 = .ok (.getfield 22, 3) := by decide +kernel
theorem dX7_nextWord_37 : decode cX7_nextWord 37 = .ok (.invokevirtual 98, 3) := by decide +kernel
theorem dX7_nextWord_40 : decode cX7_nextWord 40 = .ok (.bipush 32, 2) := by decide +kernel
theorem dX7_nextWord_42 : decode cX7_nextWord 42 = .ok (.if_icmp .ne 16, 3) := by decide +kernel
theorem dX7_nextWord_45 : decode cX7_nextWord 45 = .ok (.aload_n 0, 1) := by decide +kernel
theorem dX7_nextWord_46 : decode cX7_nextWord 46 = .ok (.dup, 1) := by decide +kernel
theorem dX7_nextWord_47 : decode cX7_nextWord 47 = .ok (.getfield 22, 3) := by decide +kernel
theorem dX7_nextWord_50 : decode cX7_nextWord 50 = .ok (.iconst 1, 1) := by decide +kernel
theorem dX7_nextWord_51 : decode cX7_nextWord 51 = .ok (.iadd, 1) := by decide +kernel
theorem dX7_nextWord_52 : decode cX7_nextWord 52 = .ok (.putfield 22, 3) := by decide +kernel
theorem dX7_nextWord_55 : decode cX7_nextWord 55 = .ok (.goto (-37), 3) := by decide +kernel
theorem dX7_nextWord_58 : decode cX7_nextWord 58 = .ok (.aload_n 0, 1) := by decide +kernel
theorem dX7_nextWord_59 : decode cX7_nextWord 59 = .ok (.aload_n 0, 1) := by decide +kernel
theorem dX7_nextWord_60 : decode cX7_nextWord 60 = .ok (.aload_n 0, 1) := by decide +kernel
theorem dX7_nextWord_61 : decode cX7_nextWord 61 = .ok (.getfield 22, 3) := by decide +kernel
theorem dX7_nextWord_64 : decode cX7_nextWord 64 = .ok (.invokevirtual 102, 3) := by decide +kernel
theorem dX7_nextWord_67 : decode cX7_nextWord 67 = .ok (.putfield 18, 3) := by decide +kernel
theorem dX7_nextWord_70 : decode cX7_nextWord 70 = .ok (.aload_n 0, 1) := by decide +kernel
theorem dX7_nextWord_71 : decode cX7_nextWord 71 = .ok (.aload_n 0, 1) := by decide +kernel
theorem dX7_nextWord_72 : decode cX7_nextWord 72 = .ok (.getfield 22, 3) := by decide +kernel
theorem dX7_nextWord_75 : decode cX7_nextWord 75 = .ok (.aload_n 0, 1) := by decide +kernel
theorem dX7_nextWord_76 : decode cX7_nextWord 76 = .ok (.getfield 12, 3) := by decide +kernel
theorem dX7_nextWord_79 : decode cX7_nextWord 79 = .ok (.getfield 95, 3) := by decide +kernel
theorem dX7_nextWord_82 : decode cX7_nextWord 82 = .ok (.if_icmp .ge 12, 3) := by decide +kernel
theorem dX7_nextWord_85 : decode cX7_nextWord 85 = .ok (.aload_n 0, 1) := by decide +kernel
theorem dX7_nextWord_86 : decode cX7_nextWord 86 = .ok (.getfield 22, 3) := by decide +kernel
theorem dX7_nextWord_89 : decode cX7_nextWord 89 = .ok (.iconst 1, 1) := by decide +kernel
theorem dX7_nextWord_90 : decode cX7_nextWord 90 = .ok (.iadd, 1) := by decide +kernel
theorem dX7_nextWord_91 : decode cX7_nextWord 91 = .ok (.goto 7, 3) := by decide +kernel
theorem dX7_nextWord_94 : decode cX7_nextWord 94 = .ok (.aload_n 0, 1) := by decide +kernel
theorem dX7_nextWord_95 : decode cX7_nextWord 95 = .ok (.getfield 22, 3) := by decide +kernel
theorem dX7_nextWord_98 : decode cX7_nextWord 98 = .ok (.putfield 25, 3) := by decide +kernel
theorem dX7_nextWord_101 : decode cX7_nextWord 101 = .ok (.aload_n 0, 1) := by decide +kernel
theorem dX7_nextWord_102 : decode cX7_nextWord 102 = .ok (.invokevirtual 92, 3) := by decide +kernel
theorem dX7_nextWord_105 : decode cX7_nextWord 105 = .ok (.ifCond .eq 45, 3) := by decide +kernel
theorem dX7_nextWord_108 : decode cX7_nextWord 108 = .ok (.aload_n 0, 1) := by decide +kernel
theorem dX7_nextWord_109 : decode cX7_nextWord 109 = .ok (.getfield 25, 3) := by decide +kernel
theorem dX7_nextWord_112 : decode cX7_nextWord 112 = .ok (.aload_n 0, 1) := by decide +kernel
theorem dX7_nextWord_113 : decode cX7_nextWord 113 = .ok (.getfield 12, 3) := by decide +kernel
theorem dX7_nextWord_116 : decode cX7_nextWord 116 = .ok (.getfield 95, 3) := by decide +kernel
theorem dX7_nextWord_119 : decode cX7_nextWord 119 = .ok (.if_icmp .ge 31, 3) := by decide +kernel
theorem dX7_nextWord_122 : decode cX7_nextWord 122 = .ok (.aload_n 0, 1) := by decide +kernel
theorem dX7_nextWord_123 : decode cX7_nextWord 123 = .ok (.aload_n 0, 1) := by decide +kernel
theorem dX7_nextWord_124 : decode cX7_nextWord 124 = .ok (.getfield 25, 3) := by decide +kernel
theorem dX7_nextWord_127 : decode cX7_nextWord 127 = .ok (.invokevirtual 102, 3) := by decide +kernel
theorem dX7_nextWord_130 : decode cX7_nextWord 130 = .ok (.aload_n 0, 1) := by decide +kernel
theorem dX7_nextWord_131 : decode cX7_nextWord 131 = .ok (.getfield 18, 3) := by decide +kernel
theorem dX7_nextWord_134 : decode cX7_nextWord 134 = .ok (.if_icmp .ne 16, 3) := by decide +kernel
theorem dX7_nextWord_137 : decode cX7_nextWord 137 = .ok (.aload_n 0, 1) := by decide +kernel
theorem dX7_nextWord_138 : decode cX7_nextWord 138 = .ok (.dup, 1) := by decide +kernel
theorem dX7_nextWord_139 : decode cX7_nextWord 139 = .ok (.getfield 25, 3) := by decide +kernel
theorem dX7_nextWord_142 : decode cX7_nextWord 142 = .ok (.iconst 1, 1) := by decide +kernel
theorem dX7_nextWord_143 : decode cX7_nextWord 143 = .ok (.iadd, 1) := by decide +kernel
theorem dX7_nextWord_144 : decode cX7_nextWord 144 = .ok (.putfield 25, 3) := by decide +kernel
theorem dX7_nextWord_147 : decode cX7_nextWord 147 = .ok (.goto (-46), 3) := by decide +kernel
theorem dX7_nextWord_150 : decode cX7_nextWord 150 = .ok (.aload_n 0, 1) := by decide +kernel
theorem dX7_nextWord_151 : decode cX7_nextWord 151 = .ok (.iload_n 1, 1) := by decide +kernel
theorem dX7_nextWord_152 : decode cX7_nextWord 152 = .ok (.ifCond .eq 22, 3) := by decide +kernel
theorem dX7_nextWord_155 : decode cX7_nextWord 155 = .ok (.aload_n 0, 1) := by decide +kernel
theorem dX7_nextWord_156 : decode cX7_nextWord 156 = .ok (.invokevirtual 92, 3) := by decide +kernel
theorem dX7_nextWord_159 : decode cX7_nextWord 159 = .ok (.ifCond .eq 15, 3) := by decide +kernel
theorem dX7_nextWord_162 : decode cX7_nextWord 162 = .ok (.aload_n 0, 1) := by decide +kernel
theorem dX7_nextWord_163 : decode cX7_nextWord 163 = .ok (.getfield 22, 3) := by decide +kernel
theorem dX7_nextWord_166 : decode cX7_nextWord 166 = .ok (.iload_n 2, 1) := by decide +kernel
theorem dX7_nextWord_167 : decode cX7_nextWord 167 = .ok (.if_icmp .ne 7, 3) := by decide +kernel
theorem dX7_nextWord_170 : decode cX7_nextWord 170 = .ok (.iconst 1, 1) := by decide +kernel
theorem dX7_nextWord_171 : decode cX7_nextWord 171 = .ok (.goto 4, 3) := by decide +kernel
theorem dX7_nextWord_174 : decode cX7_nextWord 174 = .ok (.iconst 0, 1) := by decide +kernel
theorem dX7_nextWord_175 : decode cX7_nextWord 175 = .ok (.putfield 28, 3) := by decide +kernel
theorem dX7_nextWord_178 : decode cX7_nextWord 178 = .ok (.return_, 1) := by decide +kernel
theorem dX7_isWord_0 : decode cX7_isWord 0 = .ok (.aload_n 0, 1) := by decide +kernel
theorem dX7_isWord_1 : decode cX7_isWord 1 = .ok (.getfield 18, 3) := by decide +kernel
theorem dX7_isWord_4 : decode cX7_isWord 4 = .ok (.iconst 1, 1) := by decide +kernel
theorem dX7_isWord_5 : decode cX7_isWord 5 = .ok (.if_icmp .eq 11, 3) := by decide +kernel
theorem dX7_isWord_8 : decode cX7_isWord 8 = .ok (.aload_n 0, 1) := by decide +kernel
theorem dX7_isWord_9 : decode cX7_isWord 9 = .ok (.getfield 18, 3) := by decide +kernel
theorem dX7_isWord_12 : decode cX7_isWord 12 = .ok (.iconst 2, 1) := by decide +kernel
theorem dX7_isWord_13 : decode cX7_isWord 13 = .ok (.if_icmp .ne 7, 3) := by decide +kernel
theorem dX7_isWord_16 : decode cX7_isWord 16 = .ok (.iconst 1, 1) := by decide +kernel
theorem dX7_isWord_17 : decode cX7_isWord 17 = .ok (.goto 4, 3) := by decide +kernel
theorem dX7_isWord_20 : decode cX7_isWord 20 = .ok (.iconst 0, 1) := by decide +kernel
theorem dX7_isWord_21 : decode cX7_isWord 21 = .ok (.ireturn, 1) := by decide +kernel
theorem dX7_byteAt_0 : decode cX7_byteAt 0 = .ok (.iload_n 1, 1) := by decide +kernel
theorem dX7_byteAt_1 : decode cX7_byteAt 1 = .ok (.iconst 0, 1) := by decide +kernel
theorem dX7_byteAt_2 : decode cX7_byteAt 2 = .ok (.bipush 95, 2) := by decide +kernel
theorem dX7_byteAt_4 : decode cX7_byteAt 4 = .ok (.invokestatic 105, 3) := by decide +kernel
theorem dX7_byteAt_7 : decode cX7_byteAt 7 = .ok (.ifCond .eq 15, 3) := by decide +kernel
theorem dX7_byteAt_10 : decode cX7_byteAt 10 = .ok (.aload_n 0, 1) := by decide +kernel
theorem dX7_byteAt_11 : decode cX7_byteAt 11 = .ok (.getfield 12, 3) := by decide +kernel
theorem dX7_byteAt_14 : decode cX7_byteAt 14 = .ok (.getfield 109, 3) := by decide +kernel
theorem dX7_byteAt_17 : decode cX7_byteAt 17 = .ok (.iload_n 1, 1) := by decide +kernel
theorem dX7_byteAt_18 : decode cX7_byteAt 18 = .ok (.baload, 1) := by decide +kernel
theorem dX7_byteAt_19 : decode cX7_byteAt 19 = .ok (.goto 4, 3) := by decide +kernel
theorem dX7_byteAt_22 : decode cX7_byteAt 22 = .ok (.iconst 0, 1) := by decide +kernel
theorem dX7_byteAt_23 : decode cX7_byteAt 23 = .ok (.ireturn, 1) := by decide +kernel
theorem dX7_sortAt_0 : decode cX7_sortAt 0 = .ok (.iload_n 1, 1) := by decide +kernel
theorem dX7_sortAt_1 : decode cX7_sortAt 1 = .ok (.aload_n 0, 1) := by decide +kernel
theorem dX7_sortAt_2 : decode cX7_sortAt 2 = .ok (.getfield 12, 3) := by decide +kernel
theorem dX7_sortAt_5 : decode cX7_sortAt 5 = .ok (.getfield 95, 3) := by decide +kernel
theorem dX7_sortAt_8 : decode cX7_sortAt 8 = .ok (.if_icmp .lt 5, 3) := by decide +kernel
theorem dX7_sortAt_11 : decode cX7_sortAt 11 = .ok (.iconst 0, 1) := by decide +kernel
theorem dX7_sortAt_12 : decode cX7_sortAt 12 = .ok (.ireturn, 1) := by decide +kernel
theorem dX7_sortAt_13 : decode cX7_sortAt 13 = .ok (.aload_n 0, 1) := by decide +kernel
theorem dX7_sortAt_14 : decode cX7_sortAt 14 = .ok (.iload_n 1, 1) := by decide +kernel
theorem dX7_sortAt_15 : decode cX7_sortAt 15 = .ok (.invokevirtual 98, 3) := by decide +kernel
theorem dX7_sortAt_18 : decode cX7_sortAt 18 = .ok (.istore_n 2, 1) := by decide +kernel
theorem dX7_sortAt_19 : decode cX7_sortAt 19 = .ok (.iload_n 2, 1) := by decide +kernel
theorem dX7_sortAt_20 : decode cX7_sortAt 20 = .ok (.bipush 97, 2) := by decide +kernel
theorem dX7_sortAt_22 : decode cX7_sortAt 22 = .ok (.bipush 122, 2) := by decide +kernel
theorem dX7_sortAt_24 : decode cX7_sortAt 24 = .ok (.invokestatic 105, 3) := by decide +kernel
theorem dX7_sortAt_27 : decode cX7_sortAt 27 = .ok (.ifCond .eq 5, 3) := by decide +kernel
theorem dX7_sortAt_30 : decode cX7_sortAt 30 = .ok (.iconst 1, 1) := by decide +kernel
theorem dX7_sortAt_31 : decode cX7_sortAt 31 = .ok (.ireturn, 1) := by decide +kernel
theorem dX7_sortAt_32 : decode cX7_sortAt 32 = .ok (.iload_n 2, 1) := by decide +kernel
theorem dX7_sortAt_33 : decode cX7_sortAt 33 = .ok (.bipush 48, 2) := by decide +kernel
theorem dX7_sortAt_35 : decode cX7_sortAt 35 = .ok (.bipush 57, 2) := by decide +kernel
theorem dX7_sortAt_37 : decode cX7_sortAt 37 = .ok (.invokestatic 105, 3) := by decide +kernel
theorem dX7_sortAt_40 : decode cX7_sortAt 40 = .ok (.ifCond .eq 7, 3) := by decide +kernel
theorem dX7_sortAt_43 : decode cX7_sortAt 43 = .ok (.iconst 2, 1) := by decide +kernel
theorem dX7_sortAt_44 : decode cX7_sortAt 44 = .ok (.goto 4, 3) := by decide +kernel
theorem dX7_sortAt_47 : decode cX7_sortAt 47 = .ok (.iconst 3, 1) := by decide +kernel
theorem dX7_sortAt_48 : decode cX7_sortAt 48 = .ok (.ireturn, 1) := by decide +kernel
theorem dX7_keyRead_0 : decode cX7_keyRead 0 = .ok (.iconst 0, 1) := by decide +kernel
theorem dX7_keyRead_1 : decode cX7_keyRead 1 = .ok (.istore_n 1, 1) := by decide +kernel
theorem dX7_keyRead_2 : decode cX7_keyRead 2 = .ok (.iload_n 1, 1) := by decide +kernel
theorem dX7_keyRead_3 : decode cX7_keyRead 3 = .ok (.iconst 3, 1) := by decide +kernel
theorem dX7_keyRead_4 : decode cX7_keyRead 4 = .ok (.if_icmp .ge 22, 3) := by decide +kernel
theorem dX7_keyRead_7 : decode cX7_keyRead 7 = .ok (.aload_n 0, 1) := by decide +kernel
theorem dX7_keyRead_8 : decode cX7_keyRead 8 = .ok (.iload_n 1, 1) := by decide +kernel
theorem dX7_keyRead_9 : decode cX7_keyRead 9 = .ok (.invokestatic 113, 3) := by decide +kernel
theorem dX7_keyRead_12 : decode cX7_keyRead 12 = .ok (.invokevirtual 117, 3) := by decide +kernel
theorem dX7_keyRead_15 : decode cX7_keyRead 15 = .ok (.ifCond .eq 5, 3) := by decide +kernel
theorem dX7_keyRead_18 : decode cX7_keyRead 18 = .ok (.iload_n 1, 1) := by decide +kernel
theorem dX7_keyRead_19 : decode cX7_keyRead 19 = .ok (.ireturn, 1) := by decide +kernel
theorem dX7_keyRead_20 : decode cX7_keyRead 20 = .ok (.iinc 1 1, 3) := by decide +kernel
theorem dX7_keyRead_23 : decode cX7_keyRead 23 = .ok (.goto (-21), 3) := by decide +kernel
theorem dX7_keyRead_26 : decode cX7_keyRead 26 = .ok (.iconst 3, 1) := by decide +kernel
theorem dX7_keyRead_27 : decode cX7_keyRead 27 = .ok (.ireturn, 1) := by decide +kernel
theorem dX7_wordOf_0 : decode cX7_wordOf 0 = .ok (.iload_n 0, 1) := by decide +kernel
theorem dX7_wordOf_1 : decode cX7_wordOf 1 = .ok (.lookupswitch 33 #[(0, 27), (1, 30)], 27) := by decide +kernel
theorem dX7_wordOf_28 : decode cX7_wordOf 28 = .ok (.ldc 121, 2) := by decide +kernel
theorem dX7_wordOf_30 : decode cX7_wordOf 30 = .ok (.areturn, 1) := by decide +kernel
theorem dX7_wordOf_31 : decode cX7_wordOf 31 = .ok (.ldc 123, 2) := by decide +kernel
theorem dX7_wordOf_33 : decode cX7_wordOf 33 = .ok (.areturn, 1) := by decide +kernel
theorem dX7_wordOf_34 : decode cX7_wordOf 34 = .ok (.ldc 125, 2) := by decide +kernel
theorem dX7_wordOf_36 : decode cX7_wordOf 36 = .ok (.areturn, 1) := by decide +kernel
theorem dX7_namesOf_0 : decode cX7_namesOf 0 = .ok (.iload_n 0, 1) := by decide +kernel
theorem dX7_namesOf_1 : decode cX7_namesOf 1 = .ok (.lookupswitch 33 #[(0, 27), (1, 30)], 27) := by decide +kernel
theorem dX7_namesOf_28 : decode cX7_namesOf 28 = .ok (.ldc 127, 2) := by decide +kernel
theorem dX7_namesOf_30 : decode cX7_namesOf 30 = .ok (.areturn, 1) := by decide +kernel
theorem dX7_namesOf_31 : decode cX7_namesOf 31 = .ok (.ldc 129, 2) := by decide +kernel
theorem dX7_namesOf_33 : decode cX7_namesOf 33 = .ok (.areturn, 1) := by decide +kernel
theorem dX7_namesOf_34 : decode cX7_namesOf 34 = .ok (.ldc 131, 2) := by decide +kernel
theorem dX7_namesOf_36 : decode cX7_namesOf 36 = .ok (.areturn, 1) := by decide +kernel
theorem dX7_isRead_0 : decode cX7_isRead 0 = .ok (.aload_n 0, 1) := by decide +kernel
theorem dX7_isRead_1 : decode cX7_isRead 1 = .ok (.getfield 18, 3) := by decide +kernel
theorem dX7_isRead_4 : decode cX7_isRead 4 = .ok (.iconst 1, 1) := by decide +kernel
theorem dX7_isRead_5 : decode cX7_isRead 5 = .ok (.if_icmp .ne 19, 3) := by decide +kernel
theorem dX7_isRead_8 : decode cX7_isRead 8 = .ok (.aload_n 0, 1) := by decide +kernel
theorem dX7_isRead_9 : decode cX7_isRead 9 = .ok (.getfield 25, 3) := by decide +kernel
theorem dX7_isRead_12 : decode cX7_isRead 12 = .ok (.aload_n 0, 1) := by decide +kernel
theorem dX7_isRead_13 : decode cX7_isRead 13 = .ok (.getfield 22, 3) := by decide +kernel
theorem dX7_isRead_16 : decode cX7_isRead 16 = .ok (.isub, 1) := by decide +kernel
theorem dX7_isRead_17 : decode cX7_isRead 17 = .ok (.aload_n 1, 1) := by decide +kernel
theorem dX7_isRead_18 : decode cX7_isRead 18 = .ok (.invokevirtual 133, 3) := by decide +kernel
theorem dX7_isRead_21 : decode cX7_isRead 21 = .ok (.if_icmp .eq 5, 3) := by decide +kernel
theorem dX7_isRead_24 : decode cX7_isRead 24 = .ok (.iconst 0, 1) := by decide +kernel
theorem dX7_isRead_25 : decode cX7_isRead 25 = .ok (.ireturn, 1) := by decide +kernel
theorem dX7_isRead_26 : decode cX7_isRead 26 = .ok (.iconst 0, 1) := by decide +kernel
theorem dX7_isRead_27 : decode cX7_isRead 27 = .ok (.istore_n 2, 1) := by decide +kernel
theorem dX7_isRead_28 : decode cX7_isRead 28 = .ok (.iload_n 2, 1) := by decide +kernel
theorem dX7_isRead_29 : decode cX7_isRead 29 = .ok (.aload_n 1, 1) := by decide +kernel
theorem dX7_isRead_30 : decode cX7_isRead 30 = .ok (.invokevirtual 133, 3) := by decide +kernel
theorem dX7_isRead_33 : decode cX7_isRead 33 = .ok (.if_icmp .ge 29, 3) := by decide +kernel
theorem dX7_isRead_36 : decode cX7_isRead 36 = .ok (.aload_n 0, 1) := by decide +kernel
theorem dX7_isRead_37 : decode cX7_isRead 37 = .ok (.aload_n 0, 1) := by decide +kernel
theorem dX7_isRead_38 : decode cX7_isRead 38 = .ok (.getfield 22, 3) := by decide +kernel
theorem dX7_isRead_41 : decode cX7_isRead 41 = .ok (.iload_n 2, 1) := by decide +kernel
theorem dX7_isRead_42 : decode cX7_isRead 42 = .ok (.iadd, 1) := by decide +kernel
theorem dX7_isRead_43 : decode cX7_isRead 43 = .ok (.invokevirtual 98, 3) := by decide +kernel
theorem dX7_isRead_46 : decode cX7_isRead 46 = .ok (.aload_n 1, 1) := by decide +kernel
theorem dX7_isRead_47 : decode cX7_isRead 47 = .ok (.iload_n 2, 1) := by decide +kernel
theorem dX7_isRead_48 : decode cX7_isRead 48 = .ok (.invokevirtual 138, 3) := by decide +kernel
theorem dX7_isRead_51 : decode cX7_isRead 51 = .ok (.if_icmp .eq 5, 3) := by decide +kernel
theorem dX7_isRead_54 : decode cX7_isRead 54 = .ok (.iconst 0, 1) := by decide +kernel
theorem dX7_isRead_55 : decode cX7_isRead 55 = .ok (.ireturn, 1) := by decide +kernel
theorem dX7_isRead_56 : decode cX7_isRead 56 = .ok (.iinc 2 1, 3) := by decide +kernel
theorem dX7_isRead_59 : decode cX7_isRead 59 = .ok (.goto (-31), 3) := by decide +kernel
theorem dX7_isRead_62 : decode cX7_isRead 62 = .ok (.iconst 1, 1) := by decide +kernel
theorem dX7_isRead_63 : decode cX7_isRead 63 = .ok (.ireturn, 1) := by decide +kernel
theorem dX7_takesPiece_0 : decode cX7_takesPiece 0 = .ok (.aload_n 0, 1) := by decide +kernel
theorem dX7_takesPiece_1 : decode cX7_takesPiece 1 = .ok (.getfield 18, 3) := by decide +kernel
theorem dX7_takesPiece_4 : decode cX7_takesPiece 4 = .ok (.iconst 2, 1) := by decide +kernel
theorem dX7_takesPiece_5 : decode cX7_takesPiece 5 = .ok (.if_icmp .ne 33, 3) := by decide +kernel
theorem dX7_takesPiece_8 : decode cX7_takesPiece 8 = .ok (.aload_n 0, 1) := by decide +kernel
theorem dX7_takesPiece_9 : decode cX7_takesPiece 9 = .ok (.getfield 25, 3) := by decide +kernel
theorem dX7_takesPiece_12 : decode cX7_takesPiece 12 = .ok (.aload_n 0, 1) := by decide +kernel
theorem dX7_takesPiece_13 : decode cX7_takesPiece 13 = .ok (.getfield 22, 3) := by decide +kernel
theorem dX7_takesPiece_16 : decode cX7_takesPiece 16 = .ok (.isub, 1) := by decide +kernel
theorem dX7_takesPiece_17 : decode cX7_takesPiece 17 = .ok (.iconst 4, 1) := by decide +kernel
theorem dX7_takesPiece_18 : decode cX7_takesPiece 18 = .ok (.if_icmp .gt 18, 3) := by decide +kernel
theorem dX7_takesPiece_21 : decode cX7_takesPiece 21 = .ok (.aload_n 0, 1) := by decide +kernel
theorem dX7_takesPiece_22 : decode cX7_takesPiece 22 = .ok (.aload_n 0, 1) := by decide +kernel
theorem dX7_takesPiece_23 : decode cX7_takesPiece 23 = .ok (.invokevirtual 142, 3) := by decide +kernel
theorem dX7_takesPiece_26 : decode cX7_takesPiece 26 = .ok (.invokevirtual 145, 3) := by decide +kernel
theorem dX7_takesPiece_29 : decode cX7_takesPiece 29 = .ok (.ifCond .eq 7, 3) := by decide +kernel
theorem dX7_takesPiece_32 : decode cX7_takesPiece 32 = .ok (.iconst 1, 1) := by decide +kernel
theorem dX7_takesPiece_33 : decode cX7_takesPiece 33 = .ok (.goto 4, 3) := by decide +kernel
theorem dX7_takesPiece_36 : decode cX7_takesPiece 36 = .ok (.iconst 0, 1) := by decide +kernel
theorem dX7_takesPiece_37 : decode cX7_takesPiece 37 = .ok (.ireturn, 1) := by decide +kernel
theorem dX7_takesPiece_38 : decode cX7_takesPiece 38 = .ok (.aload_n 0, 1) := by decide +kernel
theorem dX7_takesPiece_39 : decode cX7_takesPiece 39 = .ok (.getfield 18, 3) := by decide +kernel
theorem dX7_takesPiece_42 : decode cX7_takesPiece 42 = .ok (.iconst 1, 1) := by decide +kernel
theorem dX7_takesPiece_43 : decode cX7_takesPiece 43 = .ok (.if_icmp .ne 62, 3) := by decide +kernel
theorem dX7_takesPiece_46 : decode cX7_takesPiece 46 = .ok (.aload_n 0, 1) := by decide +kernel
theorem dX7_takesPiece_47 : decode cX7_takesPiece 47 = .ok (.getfield 25, 3) := by decide +kernel
theorem dX7_takesPiece_50 : decode cX7_takesPiece 50 = .ok (.aload_n 0, 1) := by decide +kernel
theorem dX7_takesPiece_51 : decode cX7_takesPiece 51 = .ok (.getfield 22, 3) := by decide +kernel
theorem dX7_takesPiece_54 : decode cX7_takesPiece 54 = .ok (.isub, 1) := by decide +kernel
theorem dX7_takesPiece_55 : decode cX7_takesPiece 55 = .ok (.iconst 1, 1) := by decide +kernel
theorem dX7_takesPiece_56 : decode cX7_takesPiece 56 = .ok (.if_icmp .ne 25, 3) := by decide +kernel
theorem dX7_takesPiece_59 : decode cX7_takesPiece 59 = .ok (.aload_n 0, 1) := by decide +kernel
theorem dX7_takesPiece_60 : decode cX7_takesPiece 60 = .ok (.getfield 35, 3) := by decide +kernel
theorem dX7_takesPiece_63 : decode cX7_takesPiece 63 = .ok (.invokestatic 149, 3) := by decide +kernel
theorem dX7_takesPiece_66 : decode cX7_takesPiece 66 = .ok (.aload_n 0, 1) := by decide +kernel
theorem dX7_takesPiece_67 : decode cX7_takesPiece 67 = .ok (.aload_n 0, 1) := by decide +kernel
theorem dX7_takesPiece_68 : decode cX7_takesPiece 68 = .ok (.getfield 22, 3) := by decide +kernel
theorem dX7_takesPiece_71 : decode cX7_takesPiece 71 = .ok (.invokevirtual 98, 3) := by decide +kernel
theorem dX7_takesPiece_74 : decode cX7_takesPiece 74 = .ok (.i2c, 1) := by decide +kernel
theorem dX7_takesPiece_75 : decode cX7_takesPiece 75 = .ok (.invokevirtual 152, 3) := by decide +kernel
theorem dX7_takesPiece_78 : decode cX7_takesPiece 78 = .ok (.goto 4, 3) := by decide +kernel
theorem dX7_takesPiece_81 : decode cX7_takesPiece 81 = .ok (.iconst (-1), 1) := by decide +kernel
theorem dX7_takesPiece_82 : decode cX7_takesPiece 82 = .ok (.istore_n 1, 1) := by decide +kernel
theorem dX7_takesPiece_83 : decode cX7_takesPiece 83 = .ok (.iload_n 1, 1) := by decide +kernel
theorem dX7_takesPiece_84 : decode cX7_takesPiece 84 = .ok (.ifCond .lt 19, 3) := by decide +kernel
theorem dX7_takesPiece_87 : decode cX7_takesPiece 87 = .ok (.aload_n 0, 1) := by decide +kernel
theorem dX7_takesPiece_88 : decode cX7_takesPiece 88 = .ok (.sipush 10000, 3) := by decide +kernel
theorem dX7_takesPiece_91 : decode cX7_takesPiece 91 = .ok (.iload_n 1, 1) := by decide +kernel
theorem dX7_takesPiece_92 : decode cX7_takesPiece 92 = .ok (.iadd, 1) := by decide +kernel
theorem dX7_takesPiece_93 : decode cX7_takesPiece 93 = .ok (.invokevirtual 145, 3) := by decide +kernel
theorem dX7_takesPiece_96 : decode cX7_takesPiece 96 = .ok (.ifCond .eq 7, 3) := by decide +kernel
theorem dX7_takesPiece_99 : decode cX7_takesPiece 99 = .ok (.iconst 1, 1) := by decide +kernel
theorem dX7_takesPiece_100 : decode cX7_takesPiece 100 = .ok (.goto 4, 3) := by decide +kernel
theorem dX7_takesPiece_103 : decode cX7_takesPiece 103 = .ok (.iconst 0, 1) := by decide +kernel
theorem dX7_takesPiece_104 : decode cX7_takesPiece 104 = .ok (.ireturn, 1) := by decide +kernel
theorem dX7_takesPiece_105 : decode cX7_takesPiece 105 = .ok (.aload_n 0, 1) := by decide +kernel
theorem dX7_takesPiece_106 : decode cX7_takesPiece 106 = .ok (.aload_n 0, 1) := by decide +kernel
theorem dX7_takesPiece_107 : decode cX7_takesPiece 107 = .ok (.getfield 22, 3) := by decide +kernel
theorem dX7_takesPiece_110 : decode cX7_takesPiece 110 = .ok (.invokevirtual 98, 3) := by decide +kernel
theorem dX7_takesPiece_113 : decode cX7_takesPiece 113 = .ok (.bipush 40, 2) := by decide +kernel
theorem dX7_takesPiece_115 : decode cX7_takesPiece 115 = .ok (.if_icmp .ne 29, 3) := by decide +kernel
theorem dX7_takesPiece_118 : decode cX7_takesPiece 118 = .ok (.aload_n 0, 1) := by decide +kernel
theorem dX7_takesPiece_119 : decode cX7_takesPiece 119 = .ok (.getfield 41, 3) := by decide +kernel
theorem dX7_takesPiece_122 : decode cX7_takesPiece 122 = .ok (.bipush 8, 2) := by decide +kernel
theorem dX7_takesPiece_124 : decode cX7_takesPiece 124 = .ok (.if_icmp .ge 20, 3) := by decide +kernel
theorem dX7_takesPiece_127 : decode cX7_takesPiece 127 = .ok (.aload_n 0, 1) := by decide +kernel
theorem dX7_takesPiece_128 : decode cX7_takesPiece 128 = .ok (.dup, 1) := by decide +kernel
theorem dX7_takesPiece_129 : decode cX7_takesPiece 129 = .ok (.getfield 41, 3) := by decide +kernel
theorem dX7_takesPiece_132 : decode cX7_takesPiece 132 = .ok (.iconst 1, 1) := by decide +kernel
theorem dX7_takesPiece_133 : decode cX7_takesPiece 133 = .ok (.iadd, 1) := by decide +kernel
theorem dX7_takesPiece_134 : decode cX7_takesPiece 134 = .ok (.putfield 41, 3) := by decide +kernel
theorem dX7_takesPiece_137 : decode cX7_takesPiece 137 = .ok (.aload_n 0, 1) := by decide +kernel
theorem dX7_takesPiece_138 : decode cX7_takesPiece 138 = .ok (.bipush 40, 2) := by decide +kernel
theorem dX7_takesPiece_140 : decode cX7_takesPiece 140 = .ok (.invokevirtual 155, 3) := by decide +kernel
theorem dX7_takesPiece_143 : decode cX7_takesPiece 143 = .ok (.ireturn, 1) := by decide +kernel
theorem dX7_takesPiece_144 : decode cX7_takesPiece 144 = .ok (.aload_n 0, 1) := by decide +kernel
theorem dX7_takesPiece_145 : decode cX7_takesPiece 145 = .ok (.aload_n 0, 1) := by decide +kernel
theorem dX7_takesPiece_146 : decode cX7_takesPiece 146 = .ok (.getfield 22, 3) := by decide +kernel
theorem dX7_takesPiece_149 : decode cX7_takesPiece 149 = .ok (.invokevirtual 98, 3) := by decide +kernel
theorem dX7_takesPiece_152 : decode cX7_takesPiece 152 = .ok (.bipush 33, 2) := by decide +kernel
theorem dX7_takesPiece_154 : decode cX7_takesPiece 154 = .ok (.if_icmp .ne 29, 3) := by decide +kernel
theorem dX7_takesPiece_157 : decode cX7_takesPiece 157 = .ok (.aload_n 0, 1) := by decide +kernel
theorem dX7_takesPiece_158 : decode cX7_takesPiece 158 = .ok (.getfield 44, 3) := by decide +kernel
theorem dX7_takesPiece_161 : decode cX7_takesPiece 161 = .ok (.bipush 8, 2) := by decide +kernel
theorem dX7_takesPiece_163 : decode cX7_takesPiece 163 = .ok (.if_icmp .ge 20, 3) := by decide +kernel
theorem dX7_takesPiece_166 : decode cX7_takesPiece 166 = .ok (.aload_n 0, 1) := by decide +kernel
theorem dX7_takesPiece_167 : decode cX7_takesPiece 167 = .ok (.dup, 1) := by decide +kernel
theorem dX7_takesPiece_168 : decode cX7_takesPiece 168 = .ok (.getfield 44, 3) := by decide +kernel
theorem dX7_takesPiece_171 : decode cX7_takesPiece 171 = .ok (.iconst 1, 1) := by decide +kernel
theorem dX7_takesPiece_172 : decode cX7_takesPiece 172 = .ok (.iadd, 1) := by decide +kernel
theorem dX7_takesPiece_173 : decode cX7_takesPiece 173 = .ok (.putfield 44, 3) := by decide +kernel
theorem dX7_takesPiece_176 : decode cX7_takesPiece 176 = .ok (.aload_n 0, 1) := by decide +kernel
theorem dX7_takesPiece_177 : decode cX7_takesPiece 177 = .ok (.bipush 33, 2) := by decide +kernel
theorem dX7_takesPiece_179 : decode cX7_takesPiece 179 = .ok (.invokevirtual 155, 3) := by decide +kernel
theorem dX7_takesPiece_182 : decode cX7_takesPiece 182 = .ok (.ireturn, 1) := by decide +kernel
theorem dX7_takesPiece_183 : decode cX7_takesPiece 183 = .ok (.iconst 0, 1) := by decide +kernel
theorem dX7_takesPiece_184 : decode cX7_takesPiece 184 = .ok (.ireturn, 1) := by decide +kernel
theorem dX7_numberRead_0 : decode cX7_numberRead 0 = .ok (.iconst 0, 1) := by decide +kernel
theorem dX7_numberRead_1 : decode cX7_numberRead 1 = .ok (.istore_n 1, 1) := by decide +kernel
theorem dX7_numberRead_2 : decode cX7_numberRead 2 = .ok (.aload_n 0, 1) := by decide +kernel
theorem dX7_numberRead_3 : decode cX7_numberRead 3 = .ok (.getfield 22, 3) := by decide +kernel
theorem dX7_numberRead_6 : decode cX7_numberRead 6 = .ok (.istore_n 2, 1) := by decide +kernel
theorem dX7_numberRead_7 : decode cX7_numberRead 7 = .ok (.iload_n 2, 1) := by decide +kernel
theorem dX7_numberRead_8 : decode cX7_numberRead 8 = .ok (.aload_n 0, 1) := by decide +kernel
theorem dX7_numberRead_9 : decode cX7_numberRead 9 = .ok (.getfield 25, 3) := by decide +kernel
theorem dX7_numberRead_12 : decode cX7_numberRead 12 = .ok (.if_icmp .ge 23, 3) := by decide +kernel
theorem dX7_numberRead_15 : decode cX7_numberRead 15 = .ok (.iload_n 1, 1) := by decide +kernel
theorem dX7_numberRead_16 : decode cX7_numberRead 16 = .ok (.bipush 10, 2) := by decide +kernel
theorem dX7_numberRead_18 : decode cX7_numberRead 18 = .ok (.imul, 1) := by decide +kernel
theorem dX7_numberRead_19 : decode cX7_numberRead 19 = .ok (.aload_n 0, 1) := by decide +kernel
theorem dX7_numberRead_20 : decode cX7_numberRead 20 = .ok (.iload_n 2, 1) := by decide +kernel
theorem dX7_numberRead_21 : decode cX7_numberRead 21 = .ok (.invokevirtual 98, 3) := by decide +kernel
theorem dX7_numberRead_24 : decode cX7_numberRead 24 = .ok (.iadd, 1) := by decide +kernel
theorem dX7_numberRead_25 : decode cX7_numberRead 25 = .ok (.bipush 48, 2) := by decide +kernel
theorem dX7_numberRead_27 : decode cX7_numberRead 27 = .ok (.isub, 1) := by decide +kernel
theorem dX7_numberRead_28 : decode cX7_numberRead 28 = .ok (.istore_n 1, 1) := by decide +kernel
theorem dX7_numberRead_29 : decode cX7_numberRead 29 = .ok (.iinc 2 1, 3) := by decide +kernel
theorem dX7_numberRead_32 : decode cX7_numberRead 32 = .ok (.goto (-25), 3) := by decide +kernel
theorem dX7_numberRead_35 : decode cX7_numberRead 35 = .ok (.iload_n 1, 1) := by decide +kernel
theorem dX7_numberRead_36 : decode cX7_numberRead 36 = .ok (.ireturn, 1) := by decide +kernel
theorem dX7_takesValue_0 : decode cX7_takesValue 0 = .ok (.aload_n 0, 1) := by decide +kernel
theorem dX7_takesValue_1 : decode cX7_takesValue 1 = .ok (.dup, 1) := by decide +kernel
theorem dX7_takesValue_2 : decode cX7_takesValue 2 = .ok (.getfield 38, 3) := by decide +kernel
theorem dX7_takesValue_5 : decode cX7_takesValue 5 = .ok (.iconst 1, 1) := by decide +kernel
theorem dX7_takesValue_6 : decode cX7_takesValue 6 = .ok (.iadd, 1) := by decide +kernel
theorem dX7_takesValue_7 : decode cX7_takesValue 7 = .ok (.putfield 38, 3) := by decide +kernel
theorem dX7_takesValue_10 : decode cX7_takesValue 10 = .ok (.aload_n 0, 1) := by decide +kernel
theorem dX7_takesValue_11 : decode cX7_takesValue 11 = .ok (.iload_n 1, 1) := by decide +kernel
theorem dX7_takesValue_12 : decode cX7_takesValue 12 = .ok (.invokevirtual 158, 3) := by decide +kernel
theorem dX7_takesValue_15 : decode cX7_takesValue 15 = .ok (.aload_n 0, 1) := by decide +kernel
theorem dX7_takesValue_16 : decode cX7_takesValue 16 = .ok (.invokevirtual 161, 3) := by decide +kernel
theorem dX7_takesValue_19 : decode cX7_takesValue 19 = .ok (.iconst 1, 1) := by decide +kernel
theorem dX7_takesValue_20 : decode cX7_takesValue 20 = .ok (.ireturn, 1) := by decide +kernel
theorem dX7_endPiece_0 : decode cX7_endPiece 0 = .ok (.aload_n 0, 1) := by decide +kernel
theorem dX7_endPiece_1 : decode cX7_endPiece 1 = .ok (.iconst 0, 1) := by decide +kernel
theorem dX7_endPiece_2 : decode cX7_endPiece 2 = .ok (.putfield 32, 3) := by decide +kernel
theorem dX7_endPiece_5 : decode cX7_endPiece 5 = .ok (.aload_n 0, 1) := by decide +kernel
theorem dX7_endPiece_6 : decode cX7_endPiece 6 = .ok (.getfield 51, 3) := by decide +kernel
theorem dX7_endPiece_9 : decode cX7_endPiece 9 = .ok (.istore_n 1, 1) := by decide +kernel
theorem dX7_endPiece_10 : decode cX7_endPiece 10 = .ok (.iload_n 1, 1) := by decide +kernel
theorem dX7_endPiece_11 : decode cX7_endPiece 11 = .ok (.ifCond .le 36, 3) := by decide +kernel
theorem dX7_endPiece_14 : decode cX7_endPiece 14 = .ok (.aload_n 0, 1) := by decide +kernel
theorem dX7_endPiece_15 : decode cX7_endPiece 15 = .ok (.getfield 47, 3) := by decide +kernel
theorem dX7_endPiece_18 : decode cX7_endPiece 18 = .ok (.iload_n 1, 1) := by decide +kernel
theorem dX7_endPiece_19 : decode cX7_endPiece 19 = .ok (.iconst 1, 1) := by decide +kernel
theorem dX7_endPiece_20 : decode cX7_endPiece 20 = .ok (.isub, 1) := by decide +kernel
theorem dX7_endPiece_21 : decode cX7_endPiece 21 = .ok (.iaload, 1) := by decide +kernel
theorem dX7_endPiece_22 : decode cX7_endPiece 22 = .ok (.bipush 33, 2) := by decide +kernel
theorem dX7_endPiece_24 : decode cX7_endPiece 24 = .ok (.if_icmp .ne 23, 3) := by decide +kernel
theorem dX7_endPiece_27 : decode cX7_endPiece 27 = .ok (.aload_n 0, 1) := by decide +kernel
theorem dX7_endPiece_28 : decode cX7_endPiece 28 = .ok (.invokevirtual 164, 3) := by decide +kernel
theorem dX7_endPiece_31 : decode cX7_endPiece 31 = .ok (.aload_n 0, 1) := by decide +kernel
theorem dX7_endPiece_32 : decode cX7_endPiece 32 = .ok (.dup, 1) := by decide +kernel
theorem dX7_endPiece_33 : decode cX7_endPiece 33 = .ok (.getfield 44, 3) := by decide +kernel
theorem dX7_endPiece_36 : decode cX7_endPiece 36 = .ok (.iconst 1, 1) := by decide +kernel
theorem dX7_endPiece_37 : decode cX7_endPiece 37 = .ok (.isub, 1) := by decide +kernel
theorem dX7_endPiece_38 : decode cX7_endPiece 38 = .ok (.putfield 44, 3) := by decide +kernel
theorem dX7_endPiece_41 : decode cX7_endPiece 41 = .ok (.iinc 1 (-1), 3) := by decide +kernel
theorem dX7_endPiece_44 : decode cX7_endPiece 44 = .ok (.goto (-34), 3) := by decide +kernel
theorem dX7_endPiece_47 : decode cX7_endPiece 47 = .ok (.return_, 1) := by decide +kernel
theorem dX7_takesJoining_0 : decode cX7_takesJoining 0 = .ok (.aload_n 0, 1) := by decide +kernel
theorem dX7_takesJoining_1 : decode cX7_takesJoining 1 = .ok (.aload_n 0, 1) := by decide +kernel
theorem dX7_takesJoining_2 : decode cX7_takesJoining 2 = .ok (.getfield 22, 3) := by decide +kernel
theorem dX7_takesJoining_5 : decode cX7_takesJoining 5 = .ok (.invokevirtual 98, 3) := by decide +kernel
theorem dX7_takesJoining_8 : decode cX7_takesJoining 8 = .ok (.istore_n 1, 1) := by decide +kernel
theorem dX7_takesJoining_9 : decode cX7_takesJoining 9 = .ok (.iload_n 1, 1) := by decide +kernel
theorem dX7_takesJoining_10 : decode cX7_takesJoining 10 = .ok (.bipush 41, 2) := by decide +kernel
theorem dX7_takesJoining_12 : decode cX7_takesJoining 12 = .ok (.if_icmp .ne 16, 3) := by decide +kernel
theorem dX7_takesJoining_15 : decode cX7_takesJoining 15 = .ok (.aload_n 0, 1) := by decide +kernel
theorem dX7_takesJoining_16 : decode cX7_takesJoining 16 = .ok (.getfield 41, 3) := by decide +kernel
theorem dX7_takesJoining_19 : decode cX7_takesJoining 19 = .ok (.ifCond .le 9, 3) := by decide +kernel
theorem dX7_takesJoining_22 : decode cX7_takesJoining 22 = .ok (.aload_n 0, 1) := by decide +kernel
theorem dX7_takesJoining_23 : decode cX7_takesJoining 23 = .ok (.invokevirtual 167, 3) := by decide +kernel
theorem dX7_takesJoining_26 : decode cX7_takesJoining 26 = .ok (.iconst 1, 1) := by decide +kernel
theorem dX7_takesJoining_27 : decode cX7_takesJoining 27 = .ok (.ireturn, 1) := by decide +kernel
theorem dX7_takesJoining_28 : decode cX7_takesJoining 28 = .ok (.aload_n 0, 1) := by decide +kernel
theorem dX7_takesJoining_29 : decode cX7_takesJoining 29 = .ok (.getfield 18, 3) := by decide +kernel
theorem dX7_takesJoining_32 : decode cX7_takesJoining 32 = .ok (.iconst 3, 1) := by decide +kernel
theorem dX7_takesJoining_33 : decode cX7_takesJoining 33 = .ok (.if_icmp .ne 10, 3) := by decide +kernel
theorem dX7_takesJoining_36 : decode cX7_takesJoining 36 = .ok (.iload_n 1, 1) := by decide +kernel
theorem dX7_takesJoining_37 : decode cX7_takesJoining 37 = .ok (.invokestatic 170, 3) := by decide +kernel
theorem dX7_takesJoining_40 : decode cX7_takesJoining 40 = .ok (.goto 4, 3) := by decide +kernel
theorem dX7_takesJoining_43 : decode cX7_takesJoining 43 = .ok (.iconst 0, 1) := by decide +kernel
theorem dX7_takesJoining_44 : decode cX7_takesJoining 44 = .ok (.istore_n 2, 1) := by decide +kernel
theorem dX7_takesJoining_45 : decode cX7_takesJoining 45 = .ok (.iload_n 2, 1) := by decide +kernel
theorem dX7_takesJoining_46 : decode cX7_takesJoining 46 = .ok (.ifCond .ne 5, 3) := by decide +kernel
theorem dX7_takesJoining_49 : decode cX7_takesJoining 49 = .ok (.iconst 0, 1) := by decide +kernel
theorem dX7_takesJoining_50 : decode cX7_takesJoining 50 = .ok (.ireturn, 1) := by decide +kernel
theorem dX7_takesJoining_51 : decode cX7_takesJoining 51 = .ok (.aload_n 0, 1) := by decide +kernel
theorem dX7_takesJoining_52 : decode cX7_takesJoining 52 = .ok (.iload_n 2, 1) := by decide +kernel
theorem dX7_takesJoining_53 : decode cX7_takesJoining 53 = .ok (.iconst 3, 1) := by decide +kernel
theorem dX7_takesJoining_54 : decode cX7_takesJoining 54 = .ok (.if_icmp .ne 7, 3) := by decide +kernel
theorem dX7_takesJoining_57 : decode cX7_takesJoining 57 = .ok (.iconst 4, 1) := by decide +kernel
theorem dX7_takesJoining_58 : decode cX7_takesJoining 58 = .ok (.goto 4, 3) := by decide +kernel
theorem dX7_takesJoining_61 : decode cX7_takesJoining 61 = .ok (.iload_n 2, 1) := by decide +kernel
theorem dX7_takesJoining_62 : decode cX7_takesJoining 62 = .ok (.invokevirtual 77, 3) := by decide +kernel
theorem dX7_takesJoining_65 : decode cX7_takesJoining 65 = .ok (.iload_n 2, 1) := by decide +kernel
theorem dX7_takesJoining_66 : decode cX7_takesJoining 66 = .ok (.iconst 3, 1) := by decide +kernel
theorem dX7_takesJoining_67 : decode cX7_takesJoining 67 = .ok (.if_icmp .ne 30, 3) := by decide +kernel
theorem dX7_takesJoining_70 : decode cX7_takesJoining 70 = .ok (.aload_n 0, 1) := by decide +kernel
theorem dX7_takesJoining_71 : decode cX7_takesJoining 71 = .ok (.getfield 51, 3) := by decide +kernel
theorem dX7_takesJoining_74 : decode cX7_takesJoining 74 = .ok (.ifCond .le 23, 3) := by decide +kernel
theorem dX7_takesJoining_77 : decode cX7_takesJoining 77 = .ok (.aload_n 0, 1) := by decide +kernel
theorem dX7_takesJoining_78 : decode cX7_takesJoining 78 = .ok (.getfield 47, 3) := by decide +kernel
theorem dX7_takesJoining_81 : decode cX7_takesJoining 81 = .ok (.aload_n 0, 1) := by decide +kernel
theorem dX7_takesJoining_82 : decode cX7_takesJoining 82 = .ok (.getfield 51, 3) := by decide +kernel
theorem dX7_takesJoining_85 : decode cX7_takesJoining 85 = .ok (.iconst 1, 1) := by decide +kernel
theorem dX7_takesJoining_86 : decode cX7_takesJoining 86 = .ok (.isub, 1) := by decide +kernel
theorem dX7_takesJoining_87 : decode cX7_takesJoining 87 = .ok (.iaload, 1) := by decide +kernel
theorem dX7_takesJoining_88 : decode cX7_takesJoining 88 = .ok (.invokestatic 170, 3) := by decide +kernel
theorem dX7_takesJoining_91 : decode cX7_takesJoining 91 = .ok (.iconst 3, 1) := by decide +kernel
theorem dX7_takesJoining_92 : decode cX7_takesJoining 92 = .ok (.if_icmp .ne 5, 3) := by decide +kernel
theorem dX7_takesJoining_95 : decode cX7_takesJoining 95 = .ok (.iconst 0, 1) := by decide +kernel
theorem dX7_takesJoining_96 : decode cX7_takesJoining 96 = .ok (.ireturn, 1) := by decide +kernel
theorem dX7_takesJoining_97 : decode cX7_takesJoining 97 = .ok (.aload_n 0, 1) := by decide +kernel
theorem dX7_takesJoining_98 : decode cX7_takesJoining 98 = .ok (.iconst 1, 1) := by decide +kernel
theorem dX7_takesJoining_99 : decode cX7_takesJoining 99 = .ok (.putfield 32, 3) := by decide +kernel
theorem dX7_takesJoining_102 : decode cX7_takesJoining 102 = .ok (.aload_n 0, 1) := by decide +kernel
theorem dX7_takesJoining_103 : decode cX7_takesJoining 103 = .ok (.iload_n 1, 1) := by decide +kernel
theorem dX7_takesJoining_104 : decode cX7_takesJoining 104 = .ok (.invokevirtual 155, 3) := by decide +kernel
theorem dX7_takesJoining_107 : decode cX7_takesJoining 107 = .ok (.ireturn, 1) := by decide +kernel
theorem dX7_closeParen_0 : decode cX7_closeParen 0 = .ok (.aload_n 0, 1) := by decide +kernel
theorem dX7_closeParen_1 : decode cX7_closeParen 1 = .ok (.iconst 1, 1) := by decide +kernel
theorem dX7_closeParen_2 : decode cX7_closeParen 2 = .ok (.invokevirtual 77, 3) := by decide +kernel
theorem dX7_closeParen_5 : decode cX7_closeParen 5 = .ok (.aload_n 0, 1) := by decide +kernel
theorem dX7_closeParen_6 : decode cX7_closeParen 6 = .ok (.getfield 51, 3) := by decide +kernel
theorem dX7_closeParen_9 : decode cX7_closeParen 9 = .ok (.ifCond .le 13, 3) := by decide +kernel
theorem dX7_closeParen_12 : decode cX7_closeParen 12 = .ok (.aload_n 0, 1) := by decide +kernel
theorem dX7_closeParen_13 : decode cX7_closeParen 13 = .ok (.dup, 1) := by decide +kernel
theorem dX7_closeParen_14 : decode cX7_closeParen 14 = .ok (.getfield 51, 3) := by decide +kernel
theorem dX7_closeParen_17 : decode cX7_closeParen 17 = .ok (.iconst 1, 1) := by decide +kernel
theorem dX7_closeParen_18 : decode cX7_closeParen 18 = .ok (.isub, 1) := by decide +kernel
theorem dX7_closeParen_19 : decode cX7_closeParen 19 = .ok (.putfield 51, 3) := by decide +kernel
theorem dX7_closeParen_22 : decode cX7_closeParen 22 = .ok (.aload_n 0, 1) := by decide +kernel
theorem dX7_closeParen_23 : decode cX7_closeParen 23 = .ok (.dup, 1) := by decide +kernel
theorem dX7_closeParen_24 : decode cX7_closeParen 24 = .ok (.getfield 41, 3) := by decide +kernel
theorem dX7_closeParen_27 : decode cX7_closeParen 27 = .ok (.iconst 1, 1) := by decide +kernel
theorem dX7_closeParen_28 : decode cX7_closeParen 28 = .ok (.isub, 1) := by decide +kernel
theorem dX7_closeParen_29 : decode cX7_closeParen 29 = .ok (.putfield 41, 3) := by decide +kernel
theorem dX7_closeParen_32 : decode cX7_closeParen 32 = .ok (.aload_n 0, 1) := by decide +kernel
theorem dX7_closeParen_33 : decode cX7_closeParen 33 = .ok (.invokevirtual 161, 3) := by decide +kernel
theorem dX7_closeParen_36 : decode cX7_closeParen 36 = .ok (.return_, 1) := by decide +kernel
theorem dX7_tightnessOf_0 : decode cX7_tightnessOf 0 = .ok (.iload_n 0, 1) := by decide +kernel
theorem dX7_tightnessOf_1 : decode cX7_tightnessOf 1 = .ok (.lookupswitch 93 #[(38, 85), (42, 91), (43, 89), (45, 89), (47, 91), (60, 87), (61, 87), (62, 87), (124, 83)], 83) := by decide +kernel
theorem dX7_tightnessOf_84 : decode cX7_tightnessOf 84 = .ok (.iconst 1, 1) := by decide +kernel
theorem dX7_tightnessOf_85 : decode cX7_tightnessOf 85 = .ok (.ireturn, 1) := by decide +kernel
theorem dX7_tightnessOf_86 : decode cX7_tightnessOf 86 = .ok (.iconst 2, 1) := by decide +kernel
theorem dX7_tightnessOf_87 : decode cX7_tightnessOf 87 = .ok (.ireturn, 1) := by decide +kernel
theorem dX7_tightnessOf_88 : decode cX7_tightnessOf 88 = .ok (.iconst 3, 1) := by decide +kernel
theorem dX7_tightnessOf_89 : decode cX7_tightnessOf 89 = .ok (.ireturn, 1) := by decide +kernel
theorem dX7_tightnessOf_90 : decode cX7_tightnessOf 90 = .ok (.iconst 4, 1) := by decide +kernel
theorem dX7_tightnessOf_91 : decode cX7_tightnessOf 91 = .ok (.ireturn, 1) := by decide +kernel
theorem dX7_tightnessOf_92 : decode cX7_tightnessOf 92 = .ok (.iconst 5, 1) := by decide +kernel
theorem dX7_tightnessOf_93 : decode cX7_tightnessOf 93 = .ok (.ireturn, 1) := by decide +kernel
theorem dX7_tightnessOf_94 : decode cX7_tightnessOf 94 = .ok (.iconst 0, 1) := by decide +kernel
theorem dX7_tightnessOf_95 : decode cX7_tightnessOf 95 = .ok (.ireturn, 1) := by decide +kernel
theorem dX7_pushes_0 : decode cX7_pushes 0 = .ok (.aload_n 0, 1) := by decide +kernel
theorem dX7_pushes_1 : decode cX7_pushes 1 = .ok (.getfield 51, 3) := by decide +kernel
theorem dX7_pushes_4 : decode cX7_pushes 4 = .ok (.bipush 96, 2) := by decide +kernel
theorem dX7_pushes_6 : decode cX7_pushes 6 = .ok (.if_icmp .lt 5, 3) := by decide +kernel
theorem dX7_pushes_9 : decode cX7_pushes 9 = .ok (.iconst 0, 1) := by decide +kernel
theorem dX7_pushes_10 : decode cX7_pushes 10 = .ok (.ireturn, 1) := by decide +kernel
theorem dX7_pushes_11 : decode cX7_pushes 11 = .ok (.aload_n 0, 1) := by decide +kernel
theorem dX7_pushes_12 : decode cX7_pushes 12 = .ok (.getfield 47, 3) := by decide +kernel
theorem dX7_pushes_15 : decode cX7_pushes 15 = .ok (.aload_n 0, 1) := by decide +kernel
theorem dX7_pushes_16 : decode cX7_pushes 16 = .ok (.getfield 51, 3) := by decide +kernel
theorem dX7_pushes_19 : decode cX7_pushes 19 = .ok (.iload_n 1, 1) := by decide +kernel
theorem dX7_pushes_20 : decode cX7_pushes 20 = .ok (.iastore, 1) := by decide +kernel
theorem dX7_pushes_21 : decode cX7_pushes 21 = .ok (.aload_n 0, 1) := by decide +kernel
theorem dX7_pushes_22 : decode cX7_pushes 22 = .ok (.dup, 1) := by decide +kernel
theorem dX7_pushes_23 : decode cX7_pushes 23 = .ok (.getfield 51, 3) := by decide +kernel
theorem dX7_pushes_26 : decode cX7_pushes 26 = .ok (.iconst 1, 1) := by decide +kernel
theorem dX7_pushes_27 : decode cX7_pushes 27 = .ok (.iadd, 1) := by decide +kernel
theorem dX7_pushes_28 : decode cX7_pushes 28 = .ok (.putfield 51, 3) := by decide +kernel
theorem dX7_pushes_31 : decode cX7_pushes 31 = .ok (.iconst 1, 1) := by decide +kernel
theorem dX7_pushes_32 : decode cX7_pushes 32 = .ok (.ireturn, 1) := by decide +kernel
theorem dX7_popSignsFrom_0 : decode cX7_popSignsFrom 0 = .ok (.aload_n 0, 1) := by decide +kernel
theorem dX7_popSignsFrom_1 : decode cX7_popSignsFrom 1 = .ok (.getfield 51, 3) := by decide +kernel
theorem dX7_popSignsFrom_4 : decode cX7_popSignsFrom 4 = .ok (.istore_n 2, 1) := by decide +kernel
theorem dX7_popSignsFrom_5 : decode cX7_popSignsFrom 5 = .ok (.iload_n 2, 1) := by decide +kernel
theorem dX7_popSignsFrom_6 : decode cX7_popSignsFrom 6 = .ok (.ifCond .le 28, 3) := by decide +kernel
theorem dX7_popSignsFrom_9 : decode cX7_popSignsFrom 9 = .ok (.aload_n 0, 1) := by decide +kernel
theorem dX7_popSignsFrom_10 : decode cX7_popSignsFrom 10 = .ok (.getfield 47, 3) := by decide +kernel
theorem dX7_popSignsFrom_13 : decode cX7_popSignsFrom 13 = .ok (.iload_n 2, 1) := by decide +kernel
theorem dX7_popSignsFrom_14 : decode cX7_popSignsFrom 14 = .ok (.iconst 1, 1) := by decide +kernel
theorem dX7_popSignsFrom_15 : decode cX7_popSignsFrom 15 = .ok (.isub, 1) := by decide +kernel
theorem dX7_popSignsFrom_16 : decode cX7_popSignsFrom 16 = .ok (.iaload, 1) := by decide +kernel
theorem dX7_popSignsFrom_17 : decode cX7_popSignsFrom 17 = .ok (.invokestatic 170, 3) := by decide +kernel
theorem dX7_popSignsFrom_20 : decode cX7_popSignsFrom 20 = .ok (.iload_n 1, 1) := by decide +kernel
theorem dX7_popSignsFrom_21 : decode cX7_popSignsFrom 21 = .ok (.if_icmp .lt 13, 3) := by decide +kernel
theorem dX7_popSignsFrom_24 : decode cX7_popSignsFrom 24 = .ok (.aload_n 0, 1) := by decide +kernel
theorem dX7_popSignsFrom_25 : decode cX7_popSignsFrom 25 = .ok (.invokevirtual 164, 3) := by decide +kernel
theorem dX7_popSignsFrom_28 : decode cX7_popSignsFrom 28 = .ok (.iinc 2 (-1), 3) := by decide +kernel
theorem dX7_popSignsFrom_31 : decode cX7_popSignsFrom 31 = .ok (.goto (-26), 3) := by decide +kernel
theorem dX7_popSignsFrom_34 : decode cX7_popSignsFrom 34 = .ok (.return_, 1) := by decide +kernel
theorem dX7_popSign_0 : decode cX7_popSign 0 = .ok (.aload_n 0, 1) := by decide +kernel
theorem dX7_popSign_1 : decode cX7_popSign 1 = .ok (.getfield 51, 3) := by decide +kernel
theorem dX7_popSign_4 : decode cX7_popSign 4 = .ok (.ifCond .le 27, 3) := by decide +kernel
theorem dX7_popSign_7 : decode cX7_popSign 7 = .ok (.aload_n 0, 1) := by decide +kernel
theorem dX7_popSign_8 : decode cX7_popSign 8 = .ok (.dup, 1) := by decide +kernel
theorem dX7_popSign_9 : decode cX7_popSign 9 = .ok (.getfield 51, 3) := by decide +kernel
theorem dX7_popSign_12 : decode cX7_popSign 12 = .ok (.iconst 1, 1) := by decide +kernel
theorem dX7_popSign_13 : decode cX7_popSign 13 = .ok (.isub, 1) := by decide +kernel
theorem dX7_popSign_14 : decode cX7_popSign 14 = .ok (.putfield 51, 3) := by decide +kernel
theorem dX7_popSign_17 : decode cX7_popSign 17 = .ok (.aload_n 0, 1) := by decide +kernel
theorem dX7_popSign_18 : decode cX7_popSign 18 = .ok (.aload_n 0, 1) := by decide +kernel
theorem dX7_popSign_19 : decode cX7_popSign 19 = .ok (.getfield 47, 3) := by decide +kernel
theorem dX7_popSign_22 : decode cX7_popSign 22 = .ok (.aload_n 0, 1) := by decide +kernel
theorem dX7_popSign_23 : decode cX7_popSign 23 = .ok (.getfield 51, 3) := by decide +kernel
theorem dX7_popSign_26 : decode cX7_popSign 26 = .ok (.iaload, 1) := by decide +kernel
theorem dX7_popSign_27 : decode cX7_popSign 27 = .ok (.ineg, 1) := by decide +kernel
theorem dX7_popSign_28 : decode cX7_popSign 28 = .ok (.invokevirtual 158, 3) := by decide +kernel
theorem dX7_popSign_31 : decode cX7_popSign 31 = .ok (.return_, 1) := by decide +kernel
theorem dX7_emit_0 : decode cX7_emit 0 = .ok (.aload_n 0, 1) := by decide +kernel
theorem dX7_emit_1 : decode cX7_emit 1 = .ok (.getfield 57, 3) := by decide +kernel
theorem dX7_emit_4 : decode cX7_emit 4 = .ok (.bipush 96, 2) := by decide +kernel
theorem dX7_emit_6 : decode cX7_emit 6 = .ok (.if_icmp .ge 23, 3) := by decide +kernel
theorem dX7_emit_9 : decode cX7_emit 9 = .ok (.aload_n 0, 1) := by decide +kernel
theorem dX7_emit_10 : decode cX7_emit 10 = .ok (.getfield 54, 3) := by decide +kernel
theorem dX7_emit_13 : decode cX7_emit 13 = .ok (.aload_n 0, 1) := by decide +kernel
theorem dX7_emit_14 : decode cX7_emit 14 = .ok (.getfield 57, 3) := by decide +kernel
theorem dX7_emit_17 : decode cX7_emit 17 = .ok (.iload_n 1, 1) := by decide +kernel
theorem dX7_emit_18 : decode cX7_emit 18 = .ok (.iastore, 1) := by decide +kernel
theorem dX7_emit_19 : decode cX7_emit 19 = .ok (.aload_n 0, 1) := by decide +kernel
theorem dX7_emit_20 : decode cX7_emit 20 = .ok (.dup, 1) := by decide +kernel
theorem dX7_emit_21 : decode cX7_emit 21 = .ok (.getfield 57, 3) := by decide +kernel
theorem dX7_emit_24 : decode cX7_emit 24 = .ok (.iconst 1, 1) := by decide +kernel
theorem dX7_emit_25 : decode cX7_emit 25 = .ok (.iadd, 1) := by decide +kernel
theorem dX7_emit_26 : decode cX7_emit 26 = .ok (.putfield 57, 3) := by decide +kernel
theorem dX7_emit_29 : decode cX7_emit 29 = .ok (.return_, 1) := by decide +kernel
theorem dX8_init_0 : decode cX8_init 0 = .ok (.aload_n 0, 1) := by decide +kernel
theorem dX8_init_1 : decode cX8_init 1 = .ok (.invokespecial 1, 3) := by decide +kernel
theorem dX8_init_4 : decode cX8_init 4 = .ok (.aload_n 0, 1) := by decide +kernel
theorem dX8_init_5 : decode cX8_init 5 = .ok (.new 7, 3) := by decide +kernel
theorem dX8_init_8 : decode cX8_init 8 = .ok (.dup, 1) := by decide +kernel
theorem dX8_init_9 : decode cX8_init 9 = .ok (.invokespecial 9, 3) := by decide +kernel
theorem dX8_init_12 : decode cX8_init 12 = .ok (.putfield 10, 3) := by decide +kernel
theorem dX8_init_15 : decode cX8_init 15 = .ok (.aload_n 0, 1) := by decide +kernel
theorem dX8_init_16 : decode cX8_init 16 = .ok (.new 7, 3) := by decide +kernel
theorem dX8_init_19 : decode cX8_init 19 = .ok (.dup, 1) := by decide +kernel
theorem dX8_init_20 : decode cX8_init 20 = .ok (.invokespecial 9, 3) := by decide +kernel
theorem dX8_init_23 : decode cX8_init 23 = .ok (.putfield 16, 3) := by decide +kernel
theorem dX8_init_26 : decode cX8_init 26 = .ok (.aload_n 0, 1) := by decide +kernel
theorem dX8_init_27 : decode cX8_init 27 = .ok (.new 7, 3) := by decide +kernel
theorem dX8_init_30 : decode cX8_init 30 = .ok (.dup, 1) := by decide +kernel
theorem dX8_init_31 : decode cX8_init 31 = .ok (.invokespecial 9, 3) := by decide +kernel
theorem dX8_init_34 : decode cX8_init 34 = .ok (.putfield 19, 3) := by decide +kernel
theorem dX8_init_37 : decode cX8_init 37 = .ok (.aload_n 0, 1) := by decide +kernel
theorem dX8_init_38 : decode cX8_init 38 = .ok (.iconst 0, 1) := by decide +kernel
theorem dX8_init_39 : decode cX8_init 39 = .ok (.putfield 22, 3) := by decide +kernel
theorem dX8_init_42 : decode cX8_init 42 = .ok (.aload_n 0, 1) := by decide +kernel
theorem dX8_init_43 : decode cX8_init 43 = .ok (.new 26, 3) := by decide +kernel
theorem dX8_init_46 : decode cX8_init 46 = .ok (.dup, 1) := by decide +kernel
theorem dX8_init_47 : decode cX8_init 47 = .ok (.invokespecial 28, 3) := by decide +kernel
theorem dX8_init_50 : decode cX8_init 50 = .ok (.putfield 29, 3) := by decide +kernel
theorem dX8_init_53 : decode cX8_init 53 = .ok (.aload_n 0, 1) := by decide +kernel
theorem dX8_init_54 : decode cX8_init 54 = .ok (.new 33, 3) := by decide +kernel
theorem dX8_init_57 : decode cX8_init 57 = .ok (.dup, 1) := by decide +kernel
theorem dX8_init_58 : decode cX8_init 58 = .ok (.invokespecial 35, 3) := by decide +kernel
theorem dX8_init_61 : decode cX8_init 61 = .ok (.putfield 36, 3) := by decide +kernel
theorem dX8_init_64 : decode cX8_init 64 = .ok (.aload_n 0, 1) := by decide +kernel
theorem dX8_init_65 : decode cX8_init 65 = .ok (.aload_n 0, 1) := by decide +kernel
theorem dX8_init_66 : decode cX8_init 66 = .ok (.getfield 36, 3) := by decide +kernel
theorem dX8_init_69 : decode cX8_init 69 = .ok (.getfield 40, 3) := by decide +kernel
theorem dX8_init_72 : decode cX8_init 72 = .ok (.putfield 44, 3) := by decide +kernel
theorem dX8_init_75 : decode cX8_init 75 = .ok (.aload_n 0, 1) := by decide +kernel
theorem dX8_init_76 : decode cX8_init 76 = .ok (.iconst 4, 1) := by decide +kernel
theorem dX8_init_77 : decode cX8_init 77 = .ok (.anewarray 45, 3) := by decide +kernel
theorem dX8_init_80 : decode cX8_init 80 = .ok (.putfield 47, 3) := by decide +kernel
theorem dX8_init_83 : decode cX8_init 83 = .ok (.aload_n 0, 1) := by decide +kernel
theorem dX8_init_84 : decode cX8_init 84 = .ok (.iconst 5, 1) := by decide +kernel
theorem dX8_init_85 : decode cX8_init 85 = .ok (.anewarray 51, 3) := by decide +kernel
theorem dX8_init_88 : decode cX8_init 88 = .ok (.putfield 53, 3) := by decide +kernel
theorem dX8_init_91 : decode cX8_init 91 = .ok (.aload_n 0, 1) := by decide +kernel
theorem dX8_init_92 : decode cX8_init 92 = .ok (.bipush 60, 2) := by decide +kernel
theorem dX8_init_94 : decode cX8_init 94 = .ok (.newarray .int, 2) := by decide +kernel
theorem dX8_init_96 : decode cX8_init 96 = .ok (.putfield 57, 3) := by decide +kernel
theorem dX8_init_99 : decode cX8_init 99 = .ok (.aload_n 0, 1) := by decide +kernel
theorem dX8_init_100 : decode cX8_init 100 = .ok (.iconst 0, 1) := by decide +kernel
theorem dX8_init_101 : decode cX8_init 101 = .ok (.putfield 61, 3) := by decide +kernel
theorem dX8_init_104 : decode cX8_init 104 = .ok (.aload_n 0, 1) := by decide +kernel
theorem dX8_init_105 : decode cX8_init 105 = .ok (.bipush 9, 2) := by decide +kernel
theorem dX8_init_107 : decode cX8_init 107 = .ok (.newarray .int, 2) := by decide +kernel
theorem dX8_init_109 : decode cX8_init 109 = .ok (.putfield 65, 3) := by decide +kernel
theorem dX8_init_112 : decode cX8_init 112 = .ok (.iconst 0, 1) := by decide +kernel
theorem dX8_init_113 : decode cX8_init 113 = .ok (.istore_n 1, 1) := by decide +kernel
theorem dX8_init_114 : decode cX8_init 114 = .ok (.iload_n 1, 1) := by decide +kernel
theorem dX8_init_115 : decode cX8_init 115 = .ok (.iconst 4, 1) := by decide +kernel
theorem dX8_init_116 : decode cX8_init 116 = .ok (.if_icmp .ge 22, 3) := by decide +kernel
theorem dX8_init_119 : decode cX8_init 119 = .ok (.aload_n 0, 1) := by decide +kernel
theorem dX8_init_120 : decode cX8_init 120 = .ok (.getfield 47, 3) := by decide +kernel
theorem dX8_init_123 : decode cX8_init 123 = .ok (.iload_n 1, 1) := by decide +kernel
theorem dX8_init_124 : decode cX8_init 124 = .ok (.new 45, 3) := by decide +kernel
theorem dX8_init_127 : decode cX8_init 127 = .ok (.dup, 1) := by decide +kernel
theorem dX8_init_128 : decode cX8_init 128 = .ok (.invokespecial 68, 3) := by decide +kernel
theorem dX8_init_131 : decode cX8_init 131 = .ok (.aastore, 1) := by decide +kernel
theorem dX8_init_132 : decode cX8_init 132 = .ok (.iinc 1 1, 3) := by decide +kernel
theorem dX8_init_135 : decode cX8_init 135 = .ok (.goto (-21), 3) := by decide +kernel
theorem dX8_init_138 : decode cX8_init 138 = .ok (.iconst 0, 1) := by decide +kernel
theorem dX8_init_139 : decode cX8_init 139 = .ok (.istore_n 1, 1) := by decide +kernel
theorem dX8_init_140 : decode cX8_init 140 = .ok (.iload_n 1, 1) := by decide +kernel
theorem dX8_init_141 : decode cX8_init 141 = .ok (.iconst 5, 1) := by decide +kernel
theorem dX8_init_142 : decode cX8_init 142 = .ok (.if_icmp .ge 22, 3) := by decide +kernel
theorem dX8_init_145 : decode cX8_init 145 = .ok (.aload_n 0, 1) := by decide +kernel
theorem dX8_init_146 : decode cX8_init 146 = .ok (.getfield 53, 3) := by decide +kernel
theorem dX8_init_149 : decode cX8_init 149 = .ok (.iload_n 1, 1) := by decide +kernel
theorem dX8_init_150 : decode cX8_init 150 = .ok (.new 51, 3) := by decide +kernel
theorem dX8_init_153 : decode cX8_init 153 = .ok (.dup, 1) := by decide +kernel
theorem dX8_init_154 : decode cX8_init 154 = .ok (.invokespecial 69, 3) := by decide +kernel
theorem dX8_init_157 : decode cX8_init 157 = .ok (.aastore, 1) := by decide +kernel
theorem dX8_init_158 : decode cX8_init 158 = .ok (.iinc 1 1, 3) := by decide +kernel
theorem dX8_init_161 : decode cX8_init 161 = .ok (.goto (-21), 3) := by decide +kernel
theorem dX8_init_164 : decode cX8_init 164 = .ok (.return_, 1) := by decide +kernel
theorem dX8_man_0 : decode cX8_man 0 = .ok (.iload_n 1, 1) := by decide +kernel
theorem dX8_man_1 : decode cX8_man 1 = .ok (.iconst 0, 1) := by decide +kernel
theorem dX8_man_2 : decode cX8_man 2 = .ok (.iconst 5, 1) := by decide +kernel
theorem dX8_man_3 : decode cX8_man 3 = .ok (.invokestatic 70, 3) := by decide +kernel
theorem dX8_man_6 : decode cX8_man 6 = .ok (.ifCond .eq 34, 3) := by decide +kernel
theorem dX8_man_9 : decode cX8_man 9 = .ok (.iload_n 2, 1) := by decide +kernel
theorem dX8_man_10 : decode cX8_man 10 = .ok (.iconst 0, 1) := by decide +kernel
theorem dX8_man_11 : decode cX8_man 11 = .ok (.bipush 99, 2) := by decide +kernel
theorem dX8_man_13 : decode cX8_man 13 = .ok (.invokestatic 70, 3) := by decide +kernel
theorem dX8_man_16 : decode cX8_man 16 = .ok (.ifCond .eq 24, 3) := by decide +kernel
theorem dX8_man_19 : decode cX8_man 19 = .ok (.iload_n 3, 1) := by decide +kernel
theorem dX8_man_20 : decode cX8_man 20 = .ok (.iconst 0, 1) := by decide +kernel
theorem dX8_man_21 : decode cX8_man 21 = .ok (.bipush 99, 2) := by decide +kernel
theorem dX8_man_23 : decode cX8_man 23 = .ok (.invokestatic 70, 3) := by decide +kernel
theorem dX8_man_26 : decode cX8_man 26 = .ok (.ifCond .eq 14, 3) := by decide +kernel
theorem dX8_man_29 : decode cX8_man 29 = .ok (.iload 4, 2) := by decide +kernel
theorem dX8_man_31 : decode cX8_man 31 = .ok (.iconst 0, 1) := by decide +kernel
theorem dX8_man_32 : decode cX8_man 32 = .ok (.bipush 7, 2) := by decide +kernel
theorem dX8_man_34 : decode cX8_man 34 = .ok (.invokestatic 70, 3) := by decide +kernel
theorem dX8_man_37 : decode cX8_man 37 = .ok (.ifCond .ne 6, 3) := by decide +kernel
theorem dX8_man_40 : decode cX8_man 40 = .ok (.ldc 74, 2) := by decide +kernel
theorem dX8_man_42 : decode cX8_man 42 = .ok (.ireturn, 1) := by decide +kernel
theorem dX8_man_43 : decode cX8_man 43 = .ok (.aload_n 0, 1) := by decide +kernel
theorem dX8_man_44 : decode cX8_man 44 = .ok (.getfield 10, 3) := by decide +kernel
theorem dX8_man_47 : decode cX8_man 47 = .ok (.getfield 75, 3) := by decide +kernel
theorem dX8_man_50 : decode cX8_man 50 = .ok (.bipush 9, 2) := by decide +kernel
theorem dX8_man_52 : decode cX8_man 52 = .ok (.if_icmp .lt 6, 3) := by decide +kernel
theorem dX8_man_55 : decode cX8_man 55 = .ok (.ldc 78, 2) := by decide +kernel
theorem dX8_man_57 : decode cX8_man 57 = .ok (.ireturn, 1) := by decide +kernel
theorem dX8_man_58 : decode cX8_man 58 = .ok (.aload_n 0, 1) := by decide +kernel
theorem dX8_man_59 : decode cX8_man 59 = .ok (.getfield 10, 3) := by decide +kernel
theorem dX8_man_62 : decode cX8_man 62 = .ok (.iload_n 1, 1) := by decide +kernel
theorem dX8_man_63 : decode cX8_man 63 = .ok (.iload_n 2, 1) := by decide +kernel
theorem dX8_man_64 : decode cX8_man 64 = .ok (.iload_n 3, 1) := by decide +kernel
theorem dX8_man_65 : decode cX8_man 65 = .ok (.iload 4, 2) := by decide +kernel
theorem dX8_man_67 : decode cX8_man 67 = .ok (.invokevirtual 79, 3) := by decide +kernel
theorem dX8_man_70 : decode cX8_man 70 = .ok (.ireturn, 1) := by decide +kernel
theorem dX8_told_0 : decode cX8_told 0 = .ok (.aload_n 0, 1) := by decide +kernel
theorem dX8_told_1 : decode cX8_told 1 = .ok (.getfield 10, 3) := by decide +kernel
theorem dX8_told_4 : decode cX8_told 4 = .ok (.iload_n 1, 1) := by decide +kernel
theorem dX8_told_5 : decode cX8_told 5 = .ok (.invokevirtual 83, 3) := by decide +kernel
theorem dX8_told_8 : decode cX8_told 8 = .ok (.ifCond .ne 6, 3) := by decide +kernel
theorem dX8_told_11 : decode cX8_told 11 = .ok (.ldc 74, 2) := by decide +kernel
theorem dX8_told_13 : decode cX8_told 13 = .ok (.ireturn, 1) := by decide +kernel
theorem dX8_told_14 : decode cX8_told 14 = .ok (.aload_n 0, 1) := by decide +kernel
theorem dX8_told_15 : decode cX8_told 15 = .ok (.getfield 10, 3) := by decide +kernel
theorem dX8_told_18 : decode cX8_told 18 = .ok (.getfield 87, 3) := by decide +kernel
theorem dX8_told_21 : decode cX8_told 21 = .ok (.iload_n 1, 1) := by decide +kernel
theorem dX8_told_22 : decode cX8_told 22 = .ok (.aaload, 1) := by decide +kernel
theorem dX8_told_23 : decode cX8_told 23 = .ok (.astore_n 3, 1) := by decide +kernel
theorem dX8_told_24 : decode cX8_told 24 = .ok (.iload_n 2, 1) := by decide +kernel
theorem dX8_told_25 : decode cX8_told 25 = .ok (.tableswitch 95 0 7 #[47, 52, 57, 62, 67, 72, 85, 90], 47) := by decide +kernel
theorem dX8_told_72 : decode cX8_told 72 = .ok (.aload_n 3, 1) := by decide +kernel
theorem dX8_told_73 : decode cX8_told 73 = .ok (.getfield 91, 3) := by decide +kernel
theorem dX8_told_76 : decode cX8_told 76 = .ok (.ireturn, 1) := by decide +kernel
theorem dX8_told_77 : decode cX8_told 77 = .ok (.aload_n 3, 1) := by decide +kernel
theorem dX8_told_78 : decode cX8_told 78 = .ok (.getfield 96, 3) := by decide +kernel
theorem dX8_told_81 : decode cX8_told 81 = .ok (.ireturn, 1) := by decide +kernel
theorem dX8_told_82 : decode cX8_told 82 = .ok (.aload_n 3, 1) := by decide +kernel
theorem dX8_told_83 : decode cX8_told 83 = .ok (.getfield 99, 3) := by decide +kernel
theorem dX8_told_86 : decode cX8_told 86 = .ok (.ireturn, 1) := by decide +kernel
theorem dX8_told_87 : decode cX8_told 87 = .ok (.aload_n 3, 1) := by decide +kernel
theorem dX8_told_88 : decode cX8_told 88 = .ok (.getfield 102, 3) := by decide +kernel
theorem dX8_told_91 : decode cX8_told 91 = .ok (.ireturn, 1) := by decide +kernel
theorem dX8_told_92 : decode cX8_told 92 = .ok (.aload_n 3, 1) := by decide +kernel
theorem dX8_told_93 : decode cX8_told 93 = .ok (.getfield 105, 3) := by decide +kernel
theorem dX8_told_96 : decode cX8_told 96 = .ok (.ireturn, 1) := by decide +kernel
theorem dX8_told_97 : decode cX8_told 97 = .ok (.aload_n 3, 1) := by decide +kernel
theorem dX8_told_98 : decode cX8_told 98 = .ok (.getfield 108, 3) := by decide +kernel
theorem dX8_told_101 : decode cX8_told 101 = .ok (.ifCond .eq 7, 3) := by decide +kernel
theorem dX8_told_104 : decode cX8_told 104 = .ok (.iconst 1, 1) := by decide +kernel
theorem dX8_told_105 : decode cX8_told 105 = .ok (.goto 4, 3) := by decide +kernel
theorem dX8_told_108 : decode cX8_told 108 = .ok (.iconst 0, 1) := by decide +kernel
theorem dX8_told_109 : decode cX8_told 109 = .ok (.ireturn, 1) := by decide +kernel
theorem dX8_told_110 : decode cX8_told 110 = .ok (.aload_n 3, 1) := by decide +kernel
theorem dX8_told_111 : decode cX8_told 111 = .ok (.invokevirtual 111, 3) := by decide +kernel
theorem dX8_told_114 : decode cX8_told 114 = .ok (.ireturn, 1) := by decide +kernel
theorem dX8_told_115 : decode cX8_told 115 = .ok (.aload_n 3, 1) := by decide +kernel
theorem dX8_told_116 : decode cX8_told 116 = .ok (.invokevirtual 115, 3) := by decide +kernel
theorem dX8_told_119 : decode cX8_told 119 = .ok (.ireturn, 1) := by decide +kernel
theorem dX8_told_120 : decode cX8_told 120 = .ok (.ldc 74, 2) := by decide +kernel
theorem dX8_told_122 : decode cX8_told 122 = .ok (.ireturn, 1) := by decide +kernel
theorem dX8_bears_0 : decode cX8_bears 0 = .ok (.aload_n 0, 1) := by decide +kernel
theorem dX8_bears_1 : decode cX8_bears 1 = .ok (.getfield 10, 3) := by decide +kernel
theorem dX8_bears_4 : decode cX8_bears 4 = .ok (.iload_n 1, 1) := by decide +kernel
theorem dX8_bears_5 : decode cX8_bears 5 = .ok (.invokevirtual 83, 3) := by decide +kernel
theorem dX8_bears_8 : decode cX8_bears 8 = .ok (.ifCond .eq 13, 3) := by decide +kernel
theorem dX8_bears_11 : decode cX8_bears 11 = .ok (.iload_n 2, 1) := by decide +kernel
theorem dX8_bears_12 : decode cX8_bears 12 = .ok (.iconst 0, 1) := by decide +kernel
theorem dX8_bears_13 : decode cX8_bears 13 = .ok (.bipush 7, 2) := by decide +kernel
theorem dX8_bears_15 : decode cX8_bears 15 = .ok (.invokestatic 70, 3) := by decide +kernel
theorem dX8_bears_18 : decode cX8_bears 18 = .ok (.ifCond .ne 6, 3) := by decide +kernel
theorem dX8_bears_21 : decode cX8_bears 21 = .ok (.ldc 74, 2) := by decide +kernel
theorem dX8_bears_23 : decode cX8_bears 23 = .ok (.ireturn, 1) := by decide +kernel
theorem dX8_bears_24 : decode cX8_bears 24 = .ok (.aload_n 0, 1) := by decide +kernel
theorem dX8_bears_25 : decode cX8_bears 25 = .ok (.getfield 10, 3) := by decide +kernel
theorem dX8_bears_28 : decode cX8_bears 28 = .ok (.iload_n 1, 1) := by decide +kernel
theorem dX8_bears_29 : decode cX8_bears 29 = .ok (.iload_n 2, 1) := by decide +kernel
theorem dX8_bears_30 : decode cX8_bears 30 = .ok (.invokevirtual 118, 3) := by decide +kernel
theorem dX8_bears_33 : decode cX8_bears 33 = .ok (.ireturn, 1) := by decide +kernel
theorem dX8_as_0 : decode cX8_as 0 = .ok (.aload_n 0, 1) := by decide +kernel
theorem dX8_as_1 : decode cX8_as 1 = .ok (.getfield 10, 3) := by decide +kernel
theorem dX8_as_4 : decode cX8_as 4 = .ok (.iload_n 1, 1) := by decide +kernel
theorem dX8_as_5 : decode cX8_as 5 = .ok (.invokevirtual 83, 3) := by decide +kernel
theorem dX8_as_8 : decode cX8_as 8 = .ok (.ifCond .eq 12, 3) := by decide +kernel
theorem dX8_as_11 : decode cX8_as 11 = .ok (.iload_n 2, 1) := by decide +kernel
theorem dX8_as_12 : decode cX8_as 12 = .ok (.iconst 0, 1) := by decide +kernel
theorem dX8_as_13 : decode cX8_as 13 = .ok (.iconst 5, 1) := by decide +kernel
theorem dX8_as_14 : decode cX8_as 14 = .ok (.invokestatic 70, 3) := by decide +kernel
theorem dX8_as_17 : decode cX8_as 17 = .ok (.ifCond .ne 6, 3) := by decide +kernel
theorem dX8_as_20 : decode cX8_as 20 = .ok (.ldc 74, 2) := by decide +kernel
theorem dX8_as_22 : decode cX8_as 22 = .ok (.ireturn, 1) := by decide +kernel
theorem dX8_as_23 : decode cX8_as 23 = .ok (.aload_n 0, 1) := by decide +kernel
theorem dX8_as_24 : decode cX8_as 24 = .ok (.getfield 10, 3) := by decide +kernel
theorem dX8_as_27 : decode cX8_as 27 = .ok (.getfield 87, 3) := by decide +kernel
theorem dX8_as_30 : decode cX8_as 30 = .ok (.iload_n 1, 1) := by decide +kernel
theorem dX8_as_31 : decode cX8_as 31 = .ok (.aaload, 1) := by decide +kernel
theorem dX8_as_32 : decode cX8_as 32 = .ok (.iload_n 2, 1) := by decide +kernel
theorem dX8_as_33 : decode cX8_as 33 = .ok (.invokevirtual 122, 3) := by decide +kernel
theorem dX8_as_36 : decode cX8_as 36 = .ok (.ifCond .eq 18, 3) := by decide +kernel
theorem dX8_as_39 : decode cX8_as 39 = .ok (.aload_n 0, 1) := by decide +kernel
theorem dX8_as_40 : decode cX8_as 40 = .ok (.getfield 10, 3) := by decide +kernel
theorem dX8_as_43 : decode cX8_as 43 = .ok (.getfield 87, 3) := by decide +kernel
theorem dX8_as_46 : decode cX8_as 46 = .ok (.iload_n 1, 1) := by decide +kernel
theorem dX8_as_47 : decode cX8_as 47 = .ok (.aaload, 1) := by decide +kernel
theorem dX8_as_48 : decode cX8_as 48 = .ok (.getfield 96, 3) := by decide +kernel
theorem dX8_as_51 : decode cX8_as 51 = .ok (.goto 5, 3) := by decide +kernel
theorem dX8_as_54 : decode cX8_as 54 = .ok (.ldc 125, 2) := by decide +kernel
theorem dX8_as_56 : decode cX8_as 56 = .ok (.ireturn, 1) := by decide +kernel
theorem dX8_turns_0 : decode cX8_turns 0 = .ok (.aload_n 0, 1) := by decide +kernel
theorem dX8_turns_1 : decode cX8_turns 1 = .ok (.getfield 10, 3) := by decide +kernel
theorem dX8_turns_4 : decode cX8_turns 4 = .ok (.iload_n 1, 1) := by decide +kernel
theorem dX8_turns_5 : decode cX8_turns 5 = .ok (.invokevirtual 83, 3) := by decide +kernel
theorem dX8_turns_8 : decode cX8_turns 8 = .ok (.ifCond .eq 12, 3) := by decide +kernel
theorem dX8_turns_11 : decode cX8_turns 11 = .ok (.iload_n 2, 1) := by decide +kernel
theorem dX8_turns_12 : decode cX8_turns 12 = .ok (.iconst 0, 1) := by decide +kernel
theorem dX8_turns_13 : decode cX8_turns 13 = .ok (.iconst 5, 1) := by decide +kernel
theorem dX8_turns_14 : decode cX8_turns 14 = .ok (.invokestatic 70, 3) := by decide +kernel
theorem dX8_turns_17 : decode cX8_turns 17 = .ok (.ifCond .ne 6, 3) := by decide +kernel
theorem dX8_turns_20 : decode cX8_turns 20 = .ok (.ldc 74, 2) := by decide +kernel
theorem dX8_turns_22 : decode cX8_turns 22 = .ok (.ireturn, 1) := by decide +kernel
theorem dX8_turns_23 : decode cX8_turns 23 = .ok (.aload_n 0, 1) := by decide +kernel
theorem dX8_turns_24 : decode cX8_turns 24 = .ok (.getfield 10, 3) := by decide +kernel
theorem dX8_turns_27 : decode cX8_turns 27 = .ok (.getfield 87, 3) := by decide +kernel
theorem dX8_turns_30 : decode cX8_turns 30 = .ok (.iload_n 1, 1) := by decide +kernel
theorem dX8_turns_31 : decode cX8_turns 31 = .ok (.aaload, 1) := by decide +kernel
theorem dX8_turns_32 : decode cX8_turns 32 = .ok (.getfield 91, 3) := by decide +kernel
theorem dX8_turns_35 : decode cX8_turns 35 = .ok (.istore_n 3, 1) := by decide +kernel
theorem dX8_turns_36 : decode cX8_turns 36 = .ok (.aload_n 0, 1) := by decide +kernel
theorem dX8_turns_37 : decode cX8_turns 37 = .ok (.getfield 10, 3) := by decide +kernel
theorem dX8_turns_40 : decode cX8_turns 40 = .ok (.getfield 87, 3) := by decide +kernel
theorem dX8_turns_43 : decode cX8_turns 43 = .ok (.iload_n 1, 1) := by decide +kernel
theorem dX8_turns_44 : decode cX8_turns 44 = .ok (.aaload, 1) := by decide +kernel
theorem dX8_turns_45 : decode cX8_turns 45 = .ok (.iload_n 2, 1) := by decide +kernel
theorem dX8_turns_46 : decode cX8_turns 46 = .ok (.putfield 91, 3) := by decide +kernel
theorem dX8_turns_49 : decode cX8_turns 49 = .ok (.iload_n 3, 1) := by decide +kernel
theorem dX8_turns_50 : decode cX8_turns 50 = .ok (.ireturn, 1) := by decide +kernel
theorem dX8_set_0 : decode cX8_set 0 = .ok (.aload_n 0, 1) := by decide +kernel
theorem dX8_set_1 : decode cX8_set 1 = .ok (.getfield 10, 3) := by decide +kernel
theorem dX8_set_4 : decode cX8_set 4 = .ok (.iload_n 1, 1) := by decide +kernel
theorem dX8_set_5 : decode cX8_set 5 = .ok (.invokevirtual 83, 3) := by decide +kernel
theorem dX8_set_8 : decode cX8_set 8 = .ok (.ifCond .eq 24, 3) := by decide +kernel
theorem dX8_set_11 : decode cX8_set 11 = .ok (.iload_n 2, 1) := by decide +kernel
theorem dX8_set_12 : decode cX8_set 12 = .ok (.iconst 1, 1) := by decide +kernel
theorem dX8_set_13 : decode cX8_set 13 = .ok (.iconst 5, 1) := by decide +kernel
theorem dX8_set_14 : decode cX8_set 14 = .ok (.invokestatic 70, 3) := by decide +kernel
theorem dX8_set_17 : decode cX8_set 17 = .ok (.ifCond .eq 15, 3) := by decide +kernel
theorem dX8_set_20 : decode cX8_set 20 = .ok (.iload_n 3, 1) := by decide +kernel
theorem dX8_set_21 : decode cX8_set 21 = .ok (.iconst 0, 1) := by decide +kernel
theorem dX8_set_22 : decode cX8_set 22 = .ok (.iload_n 2, 1) := by decide +kernel
theorem dX8_set_23 : decode cX8_set 23 = .ok (.invokestatic 126, 3) := by decide +kernel
theorem dX8_set_26 : decode cX8_set 26 = .ok (.invokestatic 70, 3) := by decide +kernel
theorem dX8_set_29 : decode cX8_set 29 = .ok (.ifCond .ne 6, 3) := by decide +kernel
theorem dX8_set_32 : decode cX8_set 32 = .ok (.ldc 74, 2) := by decide +kernel
theorem dX8_set_34 : decode cX8_set 34 = .ok (.ireturn, 1) := by decide +kernel
theorem dX8_set_35 : decode cX8_set 35 = .ok (.aload_n 0, 1) := by decide +kernel
theorem dX8_set_36 : decode cX8_set 36 = .ok (.iload_n 1, 1) := by decide +kernel
theorem dX8_set_37 : decode cX8_set 37 = .ok (.iload_n 2, 1) := by decide +kernel
theorem dX8_set_38 : decode cX8_set 38 = .ok (.invokevirtual 130, 3) := by decide +kernel
theorem dX8_set_41 : decode cX8_set 41 = .ok (.istore 4, 2) := by decide +kernel
theorem dX8_set_43 : decode cX8_set 43 = .ok (.aload_n 0, 1) := by decide +kernel
theorem dX8_set_44 : decode cX8_set 44 = .ok (.getfield 10, 3) := by decide +kernel
theorem dX8_set_47 : decode cX8_set 47 = .ok (.getfield 87, 3) := by decide +kernel
theorem dX8_set_50 : decode cX8_set 50 = .ok (.iload_n 1, 1) := by decide +kernel
theorem dX8_set_51 : decode cX8_set 51 = .ok (.aaload, 1) := by decide +kernel
theorem dX8_set_52 : decode cX8_set 52 = .ok (.astore 5, 2) := by decide +kernel
theorem dX8_set_54 : decode cX8_set 54 = .ok (.iload_n 2, 1) := by decide +kernel
theorem dX8_set_55 : decode cX8_set 55 = .ok (.tableswitch 65 1 4 #[29, 38, 47, 56], 29) := by decide +kernel
theorem dX8_set_84 : decode cX8_set 84 = .ok (.aload 5, 2) := by decide +kernel
theorem dX8_set_86 : decode cX8_set 86 = .ok (.iload_n 3, 1) := by decide +kernel
theorem dX8_set_87 : decode cX8_set 87 = .ok (.putfield 96, 3) := by decide +kernel
theorem dX8_set_90 : decode cX8_set 90 = .ok (.goto 45, 3) := by decide +kernel
theorem dX8_set_93 : decode cX8_set 93 = .ok (.aload 5, 2) := by decide +kernel
theorem dX8_set_95 : decode cX8_set 95 = .ok (.iload_n 3, 1) := by decide +kernel
theorem dX8_set_96 : decode cX8_set 96 = .ok (.putfield 99, 3) := by decide +kernel
theorem dX8_set_99 : decode cX8_set 99 = .ok (.goto 36, 3) := by decide +kernel
theorem dX8_set_102 : decode cX8_set 102 = .ok (.aload 5, 2) := by decide +kernel
theorem dX8_set_104 : decode cX8_set 104 = .ok (.iload_n 3, 1) := by decide +kernel
theorem dX8_set_105 : decode cX8_set 105 = .ok (.putfield 102, 3) := by decide +kernel
theorem dX8_set_108 : decode cX8_set 108 = .ok (.goto 27, 3) := by decide +kernel
theorem dX8_set_111 : decode cX8_set 111 = .ok (.aload 5, 2) := by decide +kernel
theorem dX8_set_113 : decode cX8_set 113 = .ok (.iload_n 3, 1) := by decide +kernel
theorem dX8_set_114 : decode cX8_set 114 = .ok (.putfield 105, 3) := by decide +kernel
theorem dX8_set_117 : decode cX8_set 117 = .ok (.goto 18, 3) := by decide +kernel
theorem dX8_set_120 : decode cX8_set 120 = .ok (.aload 5, 2) := by decide +kernel
theorem dX8_set_122 : decode cX8_set 122 = .ok (.iload_n 3, 1) := by decide +kernel
theorem dX8_set_123 : decode cX8_set 123 = .ok (.iconst 1, 1) := by decide +kernel
theorem dX8_set_124 : decode cX8_set 124 = .ok (.if_icmp .ne 7, 3) := by decide +kernel
theorem dX8_set_127 : decode cX8_set 127 = .ok (.iconst 1, 1) := by decide +kernel
theorem dX8_set_128 : decode cX8_set 128 = .ok (.goto 4, 3) := by decide +kernel
theorem dX8_set_131 : decode cX8_set 131 = .ok (.iconst 0, 1) := by decide +kernel
theorem dX8_set_132 : decode cX8_set 132 = .ok (.putfield 108, 3) := by decide +kernel
theorem dX8_set_135 : decode cX8_set 135 = .ok (.iload 4, 2) := by decide +kernel
theorem dX8_set_137 : decode cX8_set 137 = .ok (.ireturn, 1) := by decide +kernel
theorem dX8_mostOf_0 : decode cX8_mostOf 0 = .ok (.iload_n 0, 1) := by decide +kernel
theorem dX8_mostOf_1 : decode cX8_mostOf 1 = .ok (.tableswitch 44 1 4 #[31, 34, 37, 40], 31) := by decide +kernel
theorem dX8_mostOf_32 : decode cX8_mostOf 32 = .ok (.bipush 99, 2) := by decide +kernel
theorem dX8_mostOf_34 : decode cX8_mostOf 34 = .ok (.ireturn, 1) := by decide +kernel
theorem dX8_mostOf_35 : decode cX8_mostOf 35 = .ok (.bipush 99, 2) := by decide +kernel
theorem dX8_mostOf_37 : decode cX8_mostOf 37 = .ok (.ireturn, 1) := by decide +kernel
theorem dX8_mostOf_38 : decode cX8_mostOf 38 = .ok (.bipush 7, 2) := by decide +kernel
theorem dX8_mostOf_40 : decode cX8_mostOf 40 = .ok (.ireturn, 1) := by decide +kernel
theorem dX8_mostOf_41 : decode cX8_mostOf 41 = .ok (.sipush 9999, 3) := by decide +kernel
theorem dX8_mostOf_44 : decode cX8_mostOf 44 = .ok (.ireturn, 1) := by decide +kernel
theorem dX8_mostOf_45 : decode cX8_mostOf 45 = .ok (.iconst 1, 1) := by decide +kernel
theorem dX8_mostOf_46 : decode cX8_mostOf 46 = .ok (.ireturn, 1) := by decide +kernel
theorem dX8_says_0 : decode cX8_says 0 = .ok (.aload_n 0, 1) := by decide +kernel
theorem dX8_says_1 : decode cX8_says 1 = .ok (.getfield 10, 3) := by decide +kernel
theorem dX8_says_4 : decode cX8_says 4 = .ok (.iload_n 1, 1) := by decide +kernel
theorem dX8_says_5 : decode cX8_says 5 = .ok (.invokevirtual 83, 3) := by decide +kernel
theorem dX8_says_8 : decode cX8_says 8 = .ok (.ifCond .eq 33, 3) := by decide +kernel
theorem dX8_says_11 : decode cX8_says 11 = .ok (.iload_n 2, 1) := by decide +kernel
theorem dX8_says_12 : decode cX8_says 12 = .ok (.iconst 0, 1) := by decide +kernel
theorem dX8_says_13 : decode cX8_says 13 = .ok (.bipush 7, 2) := by decide +kernel
theorem dX8_says_15 : decode cX8_says 15 = .ok (.invokestatic 70, 3) := by decide +kernel
theorem dX8_says_18 : decode cX8_says 18 = .ok (.ifCond .eq 23, 3) := by decide +kernel
theorem dX8_says_21 : decode cX8_says 21 = .ok (.iload_n 3, 1) := by decide +kernel
theorem dX8_says_22 : decode cX8_says 22 = .ok (.iconst 0, 1) := by decide +kernel
theorem dX8_says_23 : decode cX8_says 23 = .ok (.bipush 99, 2) := by decide +kernel
theorem dX8_says_25 : decode cX8_says 25 = .ok (.invokestatic 70, 3) := by decide +kernel
theorem dX8_says_28 : decode cX8_says 28 = .ok (.ifCond .eq 13, 3) := by decide +kernel
theorem dX8_says_31 : decode cX8_says 31 = .ok (.iload 4, 2) := by decide +kernel
theorem dX8_says_33 : decode cX8_says 33 = .ok (.iconst (-1), 1) := by decide +kernel
theorem dX8_says_34 : decode cX8_says 34 = .ok (.iconst 1, 1) := by decide +kernel
theorem dX8_says_35 : decode cX8_says 35 = .ok (.invokestatic 70, 3) := by decide +kernel
theorem dX8_says_38 : decode cX8_says 38 = .ok (.ifCond .ne 6, 3) := by decide +kernel
theorem dX8_says_41 : decode cX8_says 41 = .ok (.ldc 74, 2) := by decide +kernel
theorem dX8_says_43 : decode cX8_says 43 = .ok (.ireturn, 1) := by decide +kernel
theorem dX8_says_44 : decode cX8_says 44 = .ok (.aload_n 0, 1) := by decide +kernel
theorem dX8_says_45 : decode cX8_says 45 = .ok (.getfield 10, 3) := by decide +kernel
theorem dX8_says_48 : decode cX8_says 48 = .ok (.iload_n 1, 1) := by decide +kernel
theorem dX8_says_49 : decode cX8_says 49 = .ok (.invokevirtual 133, 3) := by decide +kernel
theorem dX8_says_52 : decode cX8_says 52 = .ok (.ifCond .ne 6, 3) := by decide +kernel
theorem dX8_says_55 : decode cX8_says 55 = .ok (.ldc 136, 2) := by decide +kernel
theorem dX8_says_57 : decode cX8_says 57 = .ok (.ireturn, 1) := by decide +kernel
theorem dX8_says_58 : decode cX8_says 58 = .ok (.aload_n 0, 1) := by decide +kernel
theorem dX8_says_59 : decode cX8_says 59 = .ok (.getfield 10, 3) := by decide +kernel
theorem dX8_says_62 : decode cX8_says 62 = .ok (.getfield 137, 3) := by decide +kernel
theorem dX8_says_65 : decode cX8_says 65 = .ok (.istore 5, 2) := by decide +kernel
theorem dX8_says_67 : decode cX8_says 67 = .ok (.aload_n 0, 1) := by decide +kernel
theorem dX8_says_68 : decode cX8_says 68 = .ok (.getfield 10, 3) := by decide +kernel
theorem dX8_says_71 : decode cX8_says 71 = .ok (.iload_n 1, 1) := by decide +kernel
theorem dX8_says_72 : decode cX8_says 72 = .ok (.iload_n 2, 1) := by decide +kernel
theorem dX8_says_73 : decode cX8_says 73 = .ok (.iload_n 3, 1) := by decide +kernel
theorem dX8_says_74 : decode cX8_says 74 = .ok (.iload 4, 2) := by decide +kernel
theorem dX8_says_76 : decode cX8_says 76 = .ok (.iconst 0, 1) := by decide +kernel
theorem dX8_says_77 : decode cX8_says 77 = .ok (.invokevirtual 140, 3) := by decide +kernel
theorem dX8_says_80 : decode cX8_says 80 = .ok (.aload_n 0, 1) := by decide +kernel
theorem dX8_says_81 : decode cX8_says 81 = .ok (.getfield 10, 3) := by decide +kernel
theorem dX8_says_84 : decode cX8_says 84 = .ok (.getfield 137, 3) := by decide +kernel
theorem dX8_says_87 : decode cX8_says 87 = .ok (.iload 5, 2) := by decide +kernel
theorem dX8_says_89 : decode cX8_says 89 = .ok (.isub, 1) := by decide +kernel
theorem dX8_says_90 : decode cX8_says 90 = .ok (.ireturn, 1) := by decide +kernel
theorem dX8_sets_0 : decode cX8_sets 0 = .ok (.aload_n 0, 1) := by decide +kernel
theorem dX8_sets_1 : decode cX8_sets 1 = .ok (.getfield 10, 3) := by decide +kernel
theorem dX8_sets_4 : decode cX8_sets 4 = .ok (.getfield 75, 3) := by decide +kernel
theorem dX8_sets_7 : decode cX8_sets 7 = .ok (.aload_n 0, 1) := by decide +kernel
theorem dX8_sets_8 : decode cX8_sets 8 = .ok (.getfield 10, 3) := by decide +kernel
theorem dX8_sets_11 : decode cX8_sets 11 = .ok (.invokevirtual 144, 3) := by decide +kernel
theorem dX8_sets_14 : decode cX8_sets 14 = .ok (.isub, 1) := by decide +kernel
theorem dX8_sets_15 : decode cX8_sets 15 = .ok (.istore_n 1, 1) := by decide +kernel
theorem dX8_sets_16 : decode cX8_sets 16 = .ok (.aload_n 0, 1) := by decide +kernel
theorem dX8_sets_17 : decode cX8_sets 17 = .ok (.getfield 10, 3) := by decide +kernel
theorem dX8_sets_20 : decode cX8_sets 20 = .ok (.invokevirtual 147, 3) := by decide +kernel
theorem dX8_sets_23 : decode cX8_sets 23 = .ok (.iload_n 1, 1) := by decide +kernel
theorem dX8_sets_24 : decode cX8_sets 24 = .ok (.ireturn, 1) := by decide +kernel
theorem dX8_deal_0 : decode cX8_deal 0 = .ok (.iload_n 1, 1) := by decide +kernel
theorem dX8_deal_1 : decode cX8_deal 1 = .ok (.iconst 1, 1) := by decide +kernel
theorem dX8_deal_2 : decode cX8_deal 2 = .ok (.bipush 9, 2) := by decide +kernel
theorem dX8_deal_4 : decode cX8_deal 4 = .ok (.invokestatic 70, 3) := by decide +kernel
theorem dX8_deal_7 : decode cX8_deal 7 = .ok (.ifCond .ne 6, 3) := by decide +kernel
theorem dX8_deal_10 : decode cX8_deal 10 = .ok (.ldc 74, 2) := by decide +kernel
theorem dX8_deal_12 : decode cX8_deal 12 = .ok (.ireturn, 1) := by decide +kernel
theorem dX8_deal_13 : decode cX8_deal 13 = .ok (.iload_n 1, 1) := by decide +kernel
theorem dX8_deal_14 : decode cX8_deal 14 = .ok (.bipush 9, 2) := by decide +kernel
theorem dX8_deal_16 : decode cX8_deal 16 = .ok (.aload_n 0, 1) := by decide +kernel
theorem dX8_deal_17 : decode cX8_deal 17 = .ok (.getfield 10, 3) := by decide +kernel
theorem dX8_deal_20 : decode cX8_deal 20 = .ok (.getfield 75, 3) := by decide +kernel
theorem dX8_deal_23 : decode cX8_deal 23 = .ok (.isub, 1) := by decide +kernel
theorem dX8_deal_24 : decode cX8_deal 24 = .ok (.invokestatic 150, 3) := by decide +kernel
theorem dX8_deal_27 : decode cX8_deal 27 = .ok (.istore_n 2, 1) := by decide +kernel
theorem dX8_deal_28 : decode cX8_deal 28 = .ok (.iconst 0, 1) := by decide +kernel
theorem dX8_deal_29 : decode cX8_deal 29 = .ok (.istore_n 3, 1) := by decide +kernel
theorem dX8_deal_30 : decode cX8_deal 30 = .ok (.iload_n 3, 1) := by decide +kernel
theorem dX8_deal_31 : decode cX8_deal 31 = .ok (.iload_n 2, 1) := by decide +kernel
theorem dX8_deal_32 : decode cX8_deal 32 = .ok (.if_icmp .ge 16, 3) := by decide +kernel
theorem dX8_deal_35 : decode cX8_deal 35 = .ok (.aload_n 0, 1) := by decide +kernel
theorem dX8_deal_36 : decode cX8_deal 36 = .ok (.getfield 10, 3) := by decide +kernel
theorem dX8_deal_39 : decode cX8_deal 39 = .ok (.invokevirtual 155, 3) := by decide +kernel
theorem dX8_deal_42 : decode cX8_deal 42 = .ok (.iinc 3 1, 3) := by decide +kernel
theorem dX8_deal_45 : decode cX8_deal 45 = .ok (.goto (-15), 3) := by decide +kernel
theorem dX8_deal_48 : decode cX8_deal 48 = .ok (.iload_n 2, 1) := by decide +kernel
theorem dX8_deal_49 : decode cX8_deal 49 = .ok (.ireturn, 1) := by decide +kernel
theorem dX8_seed_0 : decode cX8_seed 0 = .ok (.aload_n 0, 1) := by decide +kernel
theorem dX8_seed_1 : decode cX8_seed 1 = .ok (.getfield 10, 3) := by decide +kernel
theorem dX8_seed_4 : decode cX8_seed 4 = .ok (.getfield 158, 3) := by decide +kernel
theorem dX8_seed_7 : decode cX8_seed 7 = .ok (.istore_n 2, 1) := by decide +kernel
theorem dX8_seed_8 : decode cX8_seed 8 = .ok (.aload_n 0, 1) := by decide +kernel
theorem dX8_seed_9 : decode cX8_seed 9 = .ok (.getfield 10, 3) := by decide +kernel
theorem dX8_seed_12 : decode cX8_seed 12 = .ok (.iload_n 1, 1) := by decide +kernel
theorem dX8_seed_13 : decode cX8_seed 13 = .ok (.putfield 158, 3) := by decide +kernel
theorem dX8_seed_16 : decode cX8_seed 16 = .ok (.iload_n 2, 1) := by decide +kernel
theorem dX8_seed_17 : decode cX8_seed 17 = .ok (.ireturn, 1) := by decide +kernel
theorem dX8_goes_0 : decode cX8_goes 0 = .ok (.iload_n 1, 1) := by decide +kernel
theorem dX8_goes_1 : decode cX8_goes 1 = .ok (.iconst 1, 1) := by decide +kernel
theorem dX8_goes_2 : decode cX8_goes 2 = .ok (.bipush 100, 2) := by decide +kernel
theorem dX8_goes_4 : decode cX8_goes 4 = .ok (.invokestatic 70, 3) := by decide +kernel
theorem dX8_goes_7 : decode cX8_goes 7 = .ok (.ifCond .ne 6, 3) := by decide +kernel
theorem dX8_goes_10 : decode cX8_goes 10 = .ok (.ldc 74, 2) := by decide +kernel
theorem dX8_goes_12 : decode cX8_goes 12 = .ok (.ireturn, 1) := by decide +kernel
theorem dX8_goes_13 : decode cX8_goes 13 = .ok (.aload_n 0, 1) := by decide +kernel
theorem dX8_goes_14 : decode cX8_goes 14 = .ok (.getfield 10, 3) := by decide +kernel
theorem dX8_goes_17 : decode cX8_goes 17 = .ok (.getfield 137, 3) := by decide +kernel
theorem dX8_goes_20 : decode cX8_goes 20 = .ok (.istore_n 2, 1) := by decide +kernel
theorem dX8_goes_21 : decode cX8_goes 21 = .ok (.aload_n 0, 1) := by decide +kernel
theorem dX8_goes_22 : decode cX8_goes 22 = .ok (.getfield 10, 3) := by decide +kernel
theorem dX8_goes_25 : decode cX8_goes 25 = .ok (.iload_n 1, 1) := by decide +kernel
theorem dX8_goes_26 : decode cX8_goes 26 = .ok (.sipush 9999, 3) := by decide +kernel
theorem dX8_goes_29 : decode cX8_goes 29 = .ok (.aload_n 0, 1) := by decide +kernel
theorem dX8_goes_30 : decode cX8_goes 30 = .ok (.getfield 10, 3) := by decide +kernel
theorem dX8_goes_33 : decode cX8_goes 33 = .ok (.getfield 161, 3) := by decide +kernel
theorem dX8_goes_36 : decode cX8_goes 36 = .ok (.isub, 1) := by decide +kernel
theorem dX8_goes_37 : decode cX8_goes 37 = .ok (.invokestatic 150, 3) := by decide +kernel
theorem dX8_goes_40 : decode cX8_goes 40 = .ok (.invokevirtual 164, 3) := by decide +kernel
theorem dX8_goes_43 : decode cX8_goes 43 = .ok (.aload_n 0, 1) := by decide +kernel
theorem dX8_goes_44 : decode cX8_goes 44 = .ok (.getfield 10, 3) := by decide +kernel
theorem dX8_goes_47 : decode cX8_goes 47 = .ok (.getfield 137, 3) := by decide +kernel
theorem dX8_goes_50 : decode cX8_goes 50 = .ok (.iload_n 2, 1) := by decide +kernel
theorem dX8_goes_51 : decode cX8_goes 51 = .ok (.isub, 1) := by decide +kernel
theorem dX8_goes_52 : decode cX8_goes 52 = .ok (.ireturn, 1) := by decide +kernel
theorem dX8_alley_0 : decode cX8_alley 0 = .ok (.iload_n 1, 1) := by decide +kernel
theorem dX8_alley_1 : decode cX8_alley 1 = .ok (.tableswitch 87 0 5 #[39, 47, 55, 63, 71, 79], 39) := by decide +kernel
theorem dX8_alley_40 : decode cX8_alley 40 = .ok (.aload_n 0, 1) := by decide +kernel
theorem dX8_alley_41 : decode cX8_alley 41 = .ok (.getfield 10, 3) := by decide +kernel
theorem dX8_alley_44 : decode cX8_alley 44 = .ok (.getfield 137, 3) := by decide +kernel
theorem dX8_alley_47 : decode cX8_alley 47 = .ok (.ireturn, 1) := by decide +kernel
theorem dX8_alley_48 : decode cX8_alley 48 = .ok (.aload_n 0, 1) := by decide +kernel
theorem dX8_alley_49 : decode cX8_alley 49 = .ok (.getfield 10, 3) := by decide +kernel
theorem dX8_alley_52 : decode cX8_alley 52 = .ok (.getfield 168, 3) := by decide +kernel
theorem dX8_alley_55 : decode cX8_alley 55 = .ok (.ireturn, 1) := by decide +kernel
theorem dX8_alley_56 : decode cX8_alley 56 = .ok (.aload_n 0, 1) := by decide +kernel
theorem dX8_alley_57 : decode cX8_alley 57 = .ok (.getfield 10, 3) := by decide +kernel
theorem dX8_alley_60 : decode cX8_alley 60 = .ok (.getfield 171, 3) := by decide +kernel
theorem dX8_alley_63 : decode cX8_alley 63 = .ok (.ireturn, 1) := by decide +kernel
theorem dX8_alley_64 : decode cX8_alley 64 = .ok (.aload_n 0, 1) := by decide +kernel
theorem dX8_alley_65 : decode cX8_alley 65 = .ok (.getfield 10, 3) := by decide +kernel
theorem dX8_alley_68 : decode cX8_alley 68 = .ok (.invokevirtual 174, 3) := by decide +kernel
theorem dX8_alley_71 : decode cX8_alley 71 = .ok (.ireturn, 1) := by decide +kernel
theorem dX8_alley_72 : decode cX8_alley 72 = .ok (.aload_n 0, 1) := by decide +kernel
theorem dX8_alley_73 : decode cX8_alley 73 = .ok (.getfield 10, 3) := by decide +kernel
theorem dX8_alley_76 : decode cX8_alley 76 = .ok (.invokevirtual 177, 3) := by decide +kernel
theorem dX8_alley_79 : decode cX8_alley 79 = .ok (.ireturn, 1) := by decide +kernel
theorem dX8_alley_80 : decode cX8_alley 80 = .ok (.aload_n 0, 1) := by decide +kernel
theorem dX8_alley_81 : decode cX8_alley 81 = .ok (.getfield 10, 3) := by decide +kernel
theorem dX8_alley_84 : decode cX8_alley 84 = .ok (.invokevirtual 180, 3) := by decide +kernel
theorem dX8_alley_87 : decode cX8_alley 87 = .ok (.ireturn, 1) := by decide +kernel
theorem dX8_alley_88 : decode cX8_alley 88 = .ok (.ldc 74, 2) := by decide +kernel
theorem dX8_alley_90 : decode cX8_alley 90 = .ok (.ireturn, 1) := by decide +kernel
theorem dX8_best_0 : decode cX8_best 0 = .ok (.iload_n 1, 1) := by decide +kernel
theorem dX8_best_1 : decode cX8_best 1 = .ok (.iconst 0, 1) := by decide +kernel
theorem dX8_best_2 : decode cX8_best 2 = .ok (.bipush 99, 2) := by decide +kernel
theorem dX8_best_4 : decode cX8_best 4 = .ok (.invokestatic 70, 3) := by decide +kernel
theorem dX8_best_7 : decode cX8_best 7 = .ok (.ifCond .eq 12, 3) := by decide +kernel
theorem dX8_best_10 : decode cX8_best 10 = .ok (.iload_n 2, 1) := by decide +kernel
theorem dX8_best_11 : decode cX8_best 11 = .ok (.iconst 0, 1) := by decide +kernel
theorem dX8_best_12 : decode cX8_best 12 = .ok (.iconst 3, 1) := by decide +kernel
theorem dX8_best_13 : decode cX8_best 13 = .ok (.invokestatic 70, 3) := by decide +kernel
theorem dX8_best_16 : decode cX8_best 16 = .ok (.ifCond .ne 6, 3) := by decide +kernel
theorem dX8_best_19 : decode cX8_best 19 = .ok (.ldc 74, 2) := by decide +kernel
theorem dX8_best_21 : decode cX8_best 21 = .ok (.ireturn, 1) := by decide +kernel
theorem dX8_best_22 : decode cX8_best 22 = .ok (.aload_n 0, 1) := by decide +kernel
theorem dX8_best_23 : decode cX8_best 23 = .ok (.getfield 10, 3) := by decide +kernel
theorem dX8_best_26 : decode cX8_best 26 = .ok (.invokevirtual 144, 3) := by decide +kernel
theorem dX8_best_29 : decode cX8_best 29 = .ok (.ifCond .ne 6, 3) := by decide +kernel
theorem dX8_best_32 : decode cX8_best 32 = .ok (.ldc 183, 2) := by decide +kernel
theorem dX8_best_34 : decode cX8_best 34 = .ok (.ireturn, 1) := by decide +kernel
theorem dX8_best_35 : decode cX8_best 35 = .ok (.aload_n 0, 1) := by decide +kernel
theorem dX8_best_36 : decode cX8_best 36 = .ok (.getfield 29, 3) := by decide +kernel
theorem dX8_best_39 : decode cX8_best 39 = .ok (.aload_n 0, 1) := by decide +kernel
theorem dX8_best_40 : decode cX8_best 40 = .ok (.getfield 10, 3) := by decide +kernel
theorem dX8_best_43 : decode cX8_best 43 = .ok (.iload_n 1, 1) := by decide +kernel
theorem dX8_best_44 : decode cX8_best 44 = .ok (.invokevirtual 184, 3) := by decide +kernel
theorem dX8_best_47 : decode cX8_best 47 = .ok (.aload_n 0, 1) := by decide +kernel
theorem dX8_best_48 : decode cX8_best 48 = .ok (.getfield 29, 3) := by decide +kernel
theorem dX8_best_51 : decode cX8_best 51 = .ok (.invokevirtual 188, 3) := by decide +kernel
theorem dX8_best_54 : decode cX8_best 54 = .ok (.iload_n 2, 1) := by decide +kernel
theorem dX8_best_55 : decode cX8_best 55 = .ok (.tableswitch 49 0 2 #[25, 33, 41], 25) := by decide +kernel
theorem dX8_best_80 : decode cX8_best 80 = .ok (.aload_n 0, 1) := by decide +kernel
theorem dX8_best_81 : decode cX8_best 81 = .ok (.getfield 29, 3) := by decide +kernel
theorem dX8_best_84 : decode cX8_best 84 = .ok (.getfield 191, 3) := by decide +kernel
theorem dX8_best_87 : decode cX8_best 87 = .ok (.ireturn, 1) := by decide +kernel
theorem dX8_best_88 : decode cX8_best 88 = .ok (.aload_n 0, 1) := by decide +kernel
theorem dX8_best_89 : decode cX8_best 89 = .ok (.getfield 29, 3) := by decide +kernel
theorem dX8_best_92 : decode cX8_best 92 = .ok (.getfield 194, 3) := by decide +kernel
theorem dX8_best_95 : decode cX8_best 95 = .ok (.ireturn, 1) := by decide +kernel
theorem dX8_best_96 : decode cX8_best 96 = .ok (.aload_n 0, 1) := by decide +kernel
theorem dX8_best_97 : decode cX8_best 97 = .ok (.getfield 29, 3) := by decide +kernel
theorem dX8_best_100 : decode cX8_best 100 = .ok (.getfield 197, 3) := by decide +kernel
theorem dX8_best_103 : decode cX8_best 103 = .ok (.ireturn, 1) := by decide +kernel
theorem dX8_best_104 : decode cX8_best 104 = .ok (.aload_n 0, 1) := by decide +kernel
theorem dX8_best_105 : decode cX8_best 105 = .ok (.getfield 29, 3) := by decide +kernel
theorem dX8_best_108 : decode cX8_best 108 = .ok (.getfield 200, 3) := by decide +kernel
theorem dX8_best_111 : decode cX8_best 111 = .ok (.iconst 1, 1) := by decide +kernel
theorem dX8_best_112 : decode cX8_best 112 = .ok (.iadd, 1) := by decide +kernel
theorem dX8_best_113 : decode cX8_best 113 = .ok (.ireturn, 1) := by decide +kernel
theorem dX8_pair_0 : decode cX8_pair 0 = .ok (.iload_n 1, 1) := by decide +kernel
theorem dX8_pair_1 : decode cX8_pair 1 = .ok (.iconst 0, 1) := by decide +kernel
theorem dX8_pair_2 : decode cX8_pair 2 = .ok (.bipush 99, 2) := by decide +kernel
theorem dX8_pair_4 : decode cX8_pair 4 = .ok (.invokestatic 70, 3) := by decide +kernel
theorem dX8_pair_7 : decode cX8_pair 7 = .ok (.ifCond .ne 6, 3) := by decide +kernel
theorem dX8_pair_10 : decode cX8_pair 10 = .ok (.ldc 74, 2) := by decide +kernel
theorem dX8_pair_12 : decode cX8_pair 12 = .ok (.ireturn, 1) := by decide +kernel
theorem dX8_pair_13 : decode cX8_pair 13 = .ok (.aload_n 0, 1) := by decide +kernel
theorem dX8_pair_14 : decode cX8_pair 14 = .ok (.getfield 29, 3) := by decide +kernel
theorem dX8_pair_17 : decode cX8_pair 17 = .ok (.aload_n 0, 1) := by decide +kernel
theorem dX8_pair_18 : decode cX8_pair 18 = .ok (.getfield 10, 3) := by decide +kernel
theorem dX8_pair_21 : decode cX8_pair 21 = .ok (.iload_n 1, 1) := by decide +kernel
theorem dX8_pair_22 : decode cX8_pair 22 = .ok (.invokevirtual 184, 3) := by decide +kernel
theorem dX8_pair_25 : decode cX8_pair 25 = .ok (.aload_n 0, 1) := by decide +kernel
theorem dX8_pair_26 : decode cX8_pair 26 = .ok (.getfield 29, 3) := by decide +kernel
theorem dX8_pair_29 : decode cX8_pair 29 = .ok (.invokevirtual 203, 3) := by decide +kernel
theorem dX8_pair_32 : decode cX8_pair 32 = .ok (.ireturn, 1) := by decide +kernel
theorem dX8_clear_0 : decode cX8_clear 0 = .ok (.iload_n 1, 1) := by decide +kernel
theorem dX8_clear_1 : decode cX8_clear 1 = .ok (.iconst 0, 1) := by decide +kernel
theorem dX8_clear_2 : decode cX8_clear 2 = .ok (.bipush 99, 2) := by decide +kernel
theorem dX8_clear_4 : decode cX8_clear 4 = .ok (.invokestatic 70, 3) := by decide +kernel
theorem dX8_clear_7 : decode cX8_clear 7 = .ok (.ifCond .ne 6, 3) := by decide +kernel
theorem dX8_clear_10 : decode cX8_clear 10 = .ok (.ldc 74, 2) := by decide +kernel
theorem dX8_clear_12 : decode cX8_clear 12 = .ok (.ireturn, 1) := by decide +kernel
theorem dX8_clear_13 : decode cX8_clear 13 = .ok (.aload_n 0, 1) := by decide +kernel
theorem dX8_clear_14 : decode cX8_clear 14 = .ok (.getfield 29, 3) := by decide +kernel
theorem dX8_clear_17 : decode cX8_clear 17 = .ok (.aload_n 0, 1) := by decide +kernel
theorem dX8_clear_18 : decode cX8_clear 18 = .ok (.getfield 10, 3) := by decide +kernel
theorem dX8_clear_21 : decode cX8_clear 21 = .ok (.iload_n 1, 1) := by decide +kernel
theorem dX8_clear_22 : decode cX8_clear 22 = .ok (.invokevirtual 184, 3) := by decide +kernel
theorem dX8_clear_25 : decode cX8_clear 25 = .ok (.aload_n 0, 1) := by decide +kernel
theorem dX8_clear_26 : decode cX8_clear 26 = .ok (.getfield 29, 3) := by decide +kernel
theorem dX8_clear_29 : decode cX8_clear 29 = .ok (.invokevirtual 206, 3) := by decide +kernel
theorem dX8_clear_32 : decode cX8_clear 32 = .ok (.ireturn, 1) := by decide +kernel
theorem dX8_force_0 : decode cX8_force 0 = .ok (.aload_n 0, 1) := by decide +kernel
theorem dX8_force_1 : decode cX8_force 1 = .ok (.getfield 10, 3) := by decide +kernel
theorem dX8_force_4 : decode cX8_force 4 = .ok (.iload_n 1, 1) := by decide +kernel
theorem dX8_force_5 : decode cX8_force 5 = .ok (.invokevirtual 83, 3) := by decide +kernel
theorem dX8_force_8 : decode cX8_force 8 = .ok (.ifCond .eq 13, 3) := by decide +kernel
theorem dX8_force_11 : decode cX8_force 11 = .ok (.iload_n 2, 1) := by decide +kernel
theorem dX8_force_12 : decode cX8_force 12 = .ok (.iconst 0, 1) := by decide +kernel
theorem dX8_force_13 : decode cX8_force 13 = .ok (.bipush 7, 2) := by decide +kernel
theorem dX8_force_15 : decode cX8_force 15 = .ok (.invokestatic 70, 3) := by decide +kernel
theorem dX8_force_18 : decode cX8_force 18 = .ok (.ifCond .ne 6, 3) := by decide +kernel
theorem dX8_force_21 : decode cX8_force 21 = .ok (.ldc 74, 2) := by decide +kernel
theorem dX8_force_23 : decode cX8_force 23 = .ok (.ireturn, 1) := by decide +kernel
theorem dX8_force_24 : decode cX8_force 24 = .ok (.aload_n 0, 1) := by decide +kernel
theorem dX8_force_25 : decode cX8_force 25 = .ok (.getfield 10, 3) := by decide +kernel
theorem dX8_force_28 : decode cX8_force 28 = .ok (.iload_n 1, 1) := by decide +kernel
theorem dX8_force_29 : decode cX8_force 29 = .ok (.invokevirtual 133, 3) := by decide +kernel
theorem dX8_force_32 : decode cX8_force 32 = .ok (.ifCond .ne 6, 3) := by decide +kernel
theorem dX8_force_35 : decode cX8_force 35 = .ok (.ldc 136, 2) := by decide +kernel
theorem dX8_force_37 : decode cX8_force 37 = .ok (.ireturn, 1) := by decide +kernel
theorem dX8_force_38 : decode cX8_force 38 = .ok (.aload_n 0, 1) := by decide +kernel
theorem dX8_force_39 : decode cX8_force 39 = .ok (.getfield 10, 3) := by decide +kernel
theorem dX8_force_42 : decode cX8_force 42 = .ok (.iload_n 1, 1) := by decide +kernel
theorem dX8_force_43 : decode cX8_force 43 = .ok (.iload_n 2, 1) := by decide +kernel
theorem dX8_force_44 : decode cX8_force 44 = .ok (.invokevirtual 118, 3) := by decide +kernel
theorem dX8_force_47 : decode cX8_force 47 = .ok (.iconst 1, 1) := by decide +kernel
theorem dX8_force_48 : decode cX8_force 48 = .ok (.iadd, 1) := by decide +kernel
theorem dX8_force_49 : decode cX8_force 49 = .ok (.istore_n 3, 1) := by decide +kernel
theorem dX8_force_50 : decode cX8_force 50 = .ok (.iload_n 3, 1) := by decide +kernel
theorem dX8_force_51 : decode cX8_force 51 = .ok (.bipush 99, 2) := by decide +kernel
theorem dX8_force_53 : decode cX8_force 53 = .ok (.if_icmp .gt 7, 3) := by decide +kernel
theorem dX8_force_56 : decode cX8_force 56 = .ok (.iload_n 3, 1) := by decide +kernel
theorem dX8_force_57 : decode cX8_force 57 = .ok (.goto 5, 3) := by decide +kernel
theorem dX8_force_60 : decode cX8_force 60 = .ok (.ldc 183, 2) := by decide +kernel
theorem dX8_force_62 : decode cX8_force 62 = .ok (.ireturn, 1) := by decide +kernel
theorem dX8_behind_0 : decode cX8_behind 0 = .ok (.iload_n 1, 1) := by decide +kernel
theorem dX8_behind_1 : decode cX8_behind 1 = .ok (.iconst 0, 1) := by decide +kernel
theorem dX8_behind_2 : decode cX8_behind 2 = .ok (.bipush 100, 2) := by decide +kernel
theorem dX8_behind_4 : decode cX8_behind 4 = .ok (.invokestatic 70, 3) := by decide +kernel
theorem dX8_behind_7 : decode cX8_behind 7 = .ok (.ifCond .eq 20, 3) := by decide +kernel
theorem dX8_behind_10 : decode cX8_behind 10 = .ok (.iload_n 2, 1) := by decide +kernel
theorem dX8_behind_11 : decode cX8_behind 11 = .ok (.iconst 0, 1) := by decide +kernel
theorem dX8_behind_12 : decode cX8_behind 12 = .ok (.iconst 2, 1) := by decide +kernel
theorem dX8_behind_13 : decode cX8_behind 13 = .ok (.aload_n 0, 1) := by decide +kernel
theorem dX8_behind_14 : decode cX8_behind 14 = .ok (.getfield 10, 3) := by decide +kernel
theorem dX8_behind_17 : decode cX8_behind 17 = .ok (.getfield 75, 3) := by decide +kernel
theorem dX8_behind_20 : decode cX8_behind 20 = .ok (.iadd, 1) := by decide +kernel
theorem dX8_behind_21 : decode cX8_behind 21 = .ok (.invokestatic 70, 3) := by decide +kernel
theorem dX8_behind_24 : decode cX8_behind 24 = .ok (.ifCond .ne 6, 3) := by decide +kernel
theorem dX8_behind_27 : decode cX8_behind 27 = .ok (.ldc 74, 2) := by decide +kernel
theorem dX8_behind_29 : decode cX8_behind 29 = .ok (.ireturn, 1) := by decide +kernel
theorem dX8_behind_30 : decode cX8_behind 30 = .ok (.aload_n 0, 1) := by decide +kernel
theorem dX8_behind_31 : decode cX8_behind 31 = .ok (.getfield 19, 3) := by decide +kernel
theorem dX8_behind_34 : decode cX8_behind 34 = .ok (.aload_n 0, 1) := by decide +kernel
theorem dX8_behind_35 : decode cX8_behind 35 = .ok (.getfield 10, 3) := by decide +kernel
theorem dX8_behind_38 : decode cX8_behind 38 = .ok (.invokevirtual 209, 3) := by decide +kernel
theorem dX8_behind_41 : decode cX8_behind 41 = .ok (.aload_n 0, 1) := by decide +kernel
theorem dX8_behind_42 : decode cX8_behind 42 = .ok (.getfield 19, 3) := by decide +kernel
theorem dX8_behind_45 : decode cX8_behind 45 = .ok (.iload_n 1, 1) := by decide +kernel
theorem dX8_behind_46 : decode cX8_behind 46 = .ok (.invokevirtual 164, 3) := by decide +kernel
theorem dX8_behind_49 : decode cX8_behind 49 = .ok (.iload_n 2, 1) := by decide +kernel
theorem dX8_behind_50 : decode cX8_behind 50 = .ok (.tableswitch 50 0 2 #[26, 34, 42], 26) := by decide +kernel
theorem dX8_behind_76 : decode cX8_behind 76 = .ok (.aload_n 0, 1) := by decide +kernel
theorem dX8_behind_77 : decode cX8_behind 77 = .ok (.getfield 19, 3) := by decide +kernel
theorem dX8_behind_80 : decode cX8_behind 80 = .ok (.getfield 137, 3) := by decide +kernel
theorem dX8_behind_83 : decode cX8_behind 83 = .ok (.ireturn, 1) := by decide +kernel
theorem dX8_behind_84 : decode cX8_behind 84 = .ok (.aload_n 0, 1) := by decide +kernel
theorem dX8_behind_85 : decode cX8_behind 85 = .ok (.getfield 19, 3) := by decide +kernel
theorem dX8_behind_88 : decode cX8_behind 88 = .ok (.getfield 168, 3) := by decide +kernel
theorem dX8_behind_91 : decode cX8_behind 91 = .ok (.ireturn, 1) := by decide +kernel
theorem dX8_behind_92 : decode cX8_behind 92 = .ok (.aload_n 0, 1) := by decide +kernel
theorem dX8_behind_93 : decode cX8_behind 93 = .ok (.getfield 19, 3) := by decide +kernel
theorem dX8_behind_96 : decode cX8_behind 96 = .ok (.invokevirtual 144, 3) := by decide +kernel
theorem dX8_behind_99 : decode cX8_behind 99 = .ok (.ireturn, 1) := by decide +kernel
theorem dX8_behind_100 : decode cX8_behind 100 = .ok (.aload_n 0, 1) := by decide +kernel
theorem dX8_behind_101 : decode cX8_behind 101 = .ok (.getfield 19, 3) := by decide +kernel
theorem dX8_behind_104 : decode cX8_behind 104 = .ok (.getfield 87, 3) := by decide +kernel
theorem dX8_behind_107 : decode cX8_behind 107 = .ok (.iload_n 2, 1) := by decide +kernel
theorem dX8_behind_108 : decode cX8_behind 108 = .ok (.iconst 3, 1) := by decide +kernel
theorem dX8_behind_109 : decode cX8_behind 109 = .ok (.isub, 1) := by decide +kernel
theorem dX8_behind_110 : decode cX8_behind 110 = .ok (.aaload, 1) := by decide +kernel
theorem dX8_behind_111 : decode cX8_behind 111 = .ok (.getfield 105, 3) := by decide +kernel
theorem dX8_behind_114 : decode cX8_behind 114 = .ok (.ireturn, 1) := by decide +kernel
theorem dX8_falls_0 : decode cX8_falls 0 = .ok (.aload_n 0, 1) := by decide +kernel
theorem dX8_falls_1 : decode cX8_falls 1 = .ok (.getfield 10, 3) := by decide +kernel
theorem dX8_falls_4 : decode cX8_falls 4 = .ok (.iload_n 1, 1) := by decide +kernel
theorem dX8_falls_5 : decode cX8_falls 5 = .ok (.invokevirtual 83, 3) := by decide +kernel
theorem dX8_falls_8 : decode cX8_falls 8 = .ok (.ifCond .ne 6, 3) := by decide +kernel
theorem dX8_falls_11 : decode cX8_falls 11 = .ok (.ldc 74, 2) := by decide +kernel
theorem dX8_falls_13 : decode cX8_falls 13 = .ok (.ireturn, 1) := by decide +kernel
theorem dX8_falls_14 : decode cX8_falls 14 = .ok (.aload_n 0, 1) := by decide +kernel
theorem dX8_falls_15 : decode cX8_falls 15 = .ok (.getfield 19, 3) := by decide +kernel
theorem dX8_falls_18 : decode cX8_falls 18 = .ok (.aload_n 0, 1) := by decide +kernel
theorem dX8_falls_19 : decode cX8_falls 19 = .ok (.getfield 10, 3) := by decide +kernel
theorem dX8_falls_22 : decode cX8_falls 22 = .ok (.invokevirtual 209, 3) := by decide +kernel
theorem dX8_falls_25 : decode cX8_falls 25 = .ok (.iconst 1, 1) := by decide +kernel
theorem dX8_falls_26 : decode cX8_falls 26 = .ok (.istore_n 2, 1) := by decide +kernel
theorem dX8_falls_27 : decode cX8_falls 27 = .ok (.iload_n 2, 1) := by decide +kernel
theorem dX8_falls_28 : decode cX8_falls 28 = .ok (.sipush 200, 3) := by decide +kernel
theorem dX8_falls_31 : decode cX8_falls 31 = .ok (.if_icmp .gt 45, 3) := by decide +kernel
theorem dX8_falls_34 : decode cX8_falls 34 = .ok (.aload_n 0, 1) := by decide +kernel
theorem dX8_falls_35 : decode cX8_falls 35 = .ok (.getfield 19, 3) := by decide +kernel
theorem dX8_falls_38 : decode cX8_falls 38 = .ok (.invokevirtual 213, 3) := by decide +kernel
theorem dX8_falls_41 : decode cX8_falls 41 = .ok (.aload_n 0, 1) := by decide +kernel
theorem dX8_falls_42 : decode cX8_falls 42 = .ok (.getfield 19, 3) := by decide +kernel
theorem dX8_falls_45 : decode cX8_falls 45 = .ok (.getfield 87, 3) := by decide +kernel
theorem dX8_falls_48 : decode cX8_falls 48 = .ok (.iload_n 1, 1) := by decide +kernel
theorem dX8_falls_49 : decode cX8_falls 49 = .ok (.aaload, 1) := by decide +kernel
theorem dX8_falls_50 : decode cX8_falls 50 = .ok (.getfield 105, 3) := by decide +kernel
theorem dX8_falls_53 : decode cX8_falls 53 = .ok (.aload_n 0, 1) := by decide +kernel
theorem dX8_falls_54 : decode cX8_falls 54 = .ok (.getfield 10, 3) := by decide +kernel
theorem dX8_falls_57 : decode cX8_falls 57 = .ok (.getfield 87, 3) := by decide +kernel
theorem dX8_falls_60 : decode cX8_falls 60 = .ok (.iload_n 1, 1) := by decide +kernel
theorem dX8_falls_61 : decode cX8_falls 61 = .ok (.aaload, 1) := by decide +kernel
theorem dX8_falls_62 : decode cX8_falls 62 = .ok (.getfield 105, 3) := by decide +kernel
theorem dX8_falls_65 : decode cX8_falls 65 = .ok (.if_icmp .le 5, 3) := by decide +kernel
theorem dX8_falls_68 : decode cX8_falls 68 = .ok (.iload_n 2, 1) := by decide +kernel
theorem dX8_falls_69 : decode cX8_falls 69 = .ok (.ireturn, 1) := by decide +kernel
theorem dX8_falls_70 : decode cX8_falls 70 = .ok (.iinc 2 1, 3) := by decide +kernel
theorem dX8_falls_73 : decode cX8_falls 73 = .ok (.goto (-46), 3) := by decide +kernel
theorem dX8_falls_76 : decode cX8_falls 76 = .ok (.ldc 183, 2) := by decide +kernel
theorem dX8_falls_78 : decode cX8_falls 78 = .ok (.ireturn, 1) := by decide +kernel
theorem dX8_becomes_0 : decode cX8_becomes 0 = .ok (.aload_n 0, 1) := by decide +kernel
theorem dX8_becomes_1 : decode cX8_becomes 1 = .ok (.getfield 10, 3) := by decide +kernel
theorem dX8_becomes_4 : decode cX8_becomes 4 = .ok (.iload_n 1, 1) := by decide +kernel
theorem dX8_becomes_5 : decode cX8_becomes 5 = .ok (.invokevirtual 83, 3) := by decide +kernel
theorem dX8_becomes_8 : decode cX8_becomes 8 = .ok (.ifCond .eq 22, 3) := by decide +kernel
theorem dX8_becomes_11 : decode cX8_becomes 11 = .ok (.iload_n 2, 1) := by decide +kernel
theorem dX8_becomes_12 : decode cX8_becomes 12 = .ok (.iconst 1, 1) := by decide +kernel
theorem dX8_becomes_13 : decode cX8_becomes 13 = .ok (.bipush 60, 2) := by decide +kernel
theorem dX8_becomes_15 : decode cX8_becomes 15 = .ok (.invokestatic 70, 3) := by decide +kernel
theorem dX8_becomes_18 : decode cX8_becomes 18 = .ok (.ifCond .eq 12, 3) := by decide +kernel
theorem dX8_becomes_21 : decode cX8_becomes 21 = .ok (.iload_n 3, 1) := by decide +kernel
theorem dX8_becomes_22 : decode cX8_becomes 22 = .ok (.iconst 0, 1) := by decide +kernel
theorem dX8_becomes_23 : decode cX8_becomes 23 = .ok (.iconst 1, 1) := by decide +kernel
theorem dX8_becomes_24 : decode cX8_becomes 24 = .ok (.invokestatic 70, 3) := by decide +kernel
theorem dX8_becomes_27 : decode cX8_becomes 27 = .ok (.ifCond .ne 6, 3) := by decide +kernel
theorem dX8_becomes_30 : decode cX8_becomes 30 = .ok (.ldc 74, 2) := by decide +kernel
theorem dX8_becomes_32 : decode cX8_becomes 32 = .ok (.ireturn, 1) := by decide +kernel
theorem dX8_becomes_33 : decode cX8_becomes 33 = .ok (.iconst 0, 1) := by decide +kernel
theorem dX8_becomes_34 : decode cX8_becomes 34 = .ok (.istore 4, 2) := by decide +kernel
theorem dX8_becomes_36 : decode cX8_becomes 36 = .ok (.sipush 10000, 3) := by decide +kernel
theorem dX8_becomes_39 : decode cX8_becomes 39 = .ok (.istore 5, 2) := by decide +kernel
theorem dX8_becomes_41 : decode cX8_becomes 41 = .ok (.iconst 0, 1) := by decide +kernel
theorem dX8_becomes_42 : decode cX8_becomes 42 = .ok (.istore 6, 2) := by decide +kernel
theorem dX8_becomes_44 : decode cX8_becomes 44 = .ok (.iload 6, 2) := by decide +kernel
theorem dX8_becomes_46 : decode cX8_becomes 46 = .ok (.bipush 6, 2) := by decide +kernel
theorem dX8_becomes_48 : decode cX8_becomes 48 = .ok (.if_icmp .ge 71, 3) := by decide +kernel
theorem dX8_becomes_51 : decode cX8_becomes 51 = .ok (.aload_n 0, 1) := by decide +kernel
theorem dX8_becomes_52 : decode cX8_becomes 52 = .ok (.getfield 19, 3) := by decide +kernel
theorem dX8_becomes_55 : decode cX8_becomes 55 = .ok (.aload_n 0, 1) := by decide +kernel
theorem dX8_becomes_56 : decode cX8_becomes 56 = .ok (.getfield 10, 3) := by decide +kernel
theorem dX8_becomes_59 : decode cX8_becomes 59 = .ok (.invokevirtual 209, 3) := by decide +kernel
theorem dX8_becomes_62 : decode cX8_becomes 62 = .ok (.aload_n 0, 1) := by decide +kernel
theorem dX8_becomes_63 : decode cX8_becomes 63 = .ok (.getfield 19, 3) := by decide +kernel
theorem dX8_becomes_66 : decode cX8_becomes 66 = .ok (.getfield 87, 3) := by decide +kernel
theorem dX8_becomes_69 : decode cX8_becomes 69 = .ok (.iload_n 1, 1) := by decide +kernel
theorem dX8_becomes_70 : decode cX8_becomes 70 = .ok (.aaload, 1) := by decide +kernel
theorem dX8_becomes_71 : decode cX8_becomes 71 = .ok (.iload 6, 2) := by decide +kernel
theorem dX8_becomes_73 : decode cX8_becomes 73 = .ok (.putfield 91, 3) := by decide +kernel
theorem dX8_becomes_76 : decode cX8_becomes 76 = .ok (.aload_n 0, 1) := by decide +kernel
theorem dX8_becomes_77 : decode cX8_becomes 77 = .ok (.getfield 19, 3) := by decide +kernel
theorem dX8_becomes_80 : decode cX8_becomes 80 = .ok (.iload_n 2, 1) := by decide +kernel
theorem dX8_becomes_81 : decode cX8_becomes 81 = .ok (.invokevirtual 164, 3) := by decide +kernel
theorem dX8_becomes_84 : decode cX8_becomes 84 = .ok (.aload_n 0, 1) := by decide +kernel
theorem dX8_becomes_85 : decode cX8_becomes 85 = .ok (.getfield 19, 3) := by decide +kernel
theorem dX8_becomes_88 : decode cX8_becomes 88 = .ok (.getfield 87, 3) := by decide +kernel
theorem dX8_becomes_91 : decode cX8_becomes 91 = .ok (.iload_n 1, 1) := by decide +kernel
theorem dX8_becomes_92 : decode cX8_becomes 92 = .ok (.aaload, 1) := by decide +kernel
theorem dX8_becomes_93 : decode cX8_becomes 93 = .ok (.getfield 105, 3) := by decide +kernel
theorem dX8_becomes_96 : decode cX8_becomes 96 = .ok (.istore 7, 2) := by decide +kernel
theorem dX8_becomes_98 : decode cX8_becomes 98 = .ok (.iload 7, 2) := by decide +kernel
theorem dX8_becomes_100 : decode cX8_becomes 100 = .ok (.iload 5, 2) := by decide +kernel
theorem dX8_becomes_102 : decode cX8_becomes 102 = .ok (.if_icmp .ge 11, 3) := by decide +kernel
theorem dX8_becomes_105 : decode cX8_becomes 105 = .ok (.iload 7, 2) := by decide +kernel
theorem dX8_becomes_107 : decode cX8_becomes 107 = .ok (.istore 5, 2) := by decide +kernel
theorem dX8_becomes_109 : decode cX8_becomes 109 = .ok (.iload 6, 2) := by decide +kernel
theorem dX8_becomes_111 : decode cX8_becomes 111 = .ok (.istore 4, 2) := by decide +kernel
theorem dX8_becomes_113 : decode cX8_becomes 113 = .ok (.iinc 6 1, 3) := by decide +kernel
theorem dX8_becomes_116 : decode cX8_becomes 116 = .ok (.goto (-72), 3) := by decide +kernel
theorem dX8_becomes_119 : decode cX8_becomes 119 = .ok (.iload_n 3, 1) := by decide +kernel
theorem dX8_becomes_120 : decode cX8_becomes 120 = .ok (.ifCond .ne 8, 3) := by decide +kernel
theorem dX8_becomes_123 : decode cX8_becomes 123 = .ok (.iload 4, 2) := by decide +kernel
theorem dX8_becomes_125 : decode cX8_becomes 125 = .ok (.goto 5, 3) := by decide +kernel
theorem dX8_becomes_128 : decode cX8_becomes 128 = .ok (.iload 5, 2) := by decide +kernel
theorem dX8_becomes_130 : decode cX8_becomes 130 = .ok (.ireturn, 1) := by decide +kernel
theorem dX8_like_0 : decode cX8_like 0 = .ok (.iload_n 1, 1) := by decide +kernel
theorem dX8_like_1 : decode cX8_like 1 = .ok (.invokestatic 216, 3) := by decide +kernel
theorem dX8_like_4 : decode cX8_like 4 = .ok (.ifCond .eq 12, 3) := by decide +kernel
theorem dX8_like_7 : decode cX8_like 7 = .ok (.iload_n 2, 1) := by decide +kernel
theorem dX8_like_8 : decode cX8_like 8 = .ok (.iconst 0, 1) := by decide +kernel
theorem dX8_like_9 : decode cX8_like 9 = .ok (.iconst 1, 1) := by decide +kernel
theorem dX8_like_10 : decode cX8_like 10 = .ok (.invokestatic 70, 3) := by decide +kernel
theorem dX8_like_13 : decode cX8_like 13 = .ok (.ifCond .ne 6, 3) := by decide +kernel
theorem dX8_like_16 : decode cX8_like 16 = .ok (.ldc 74, 2) := by decide +kernel
theorem dX8_like_18 : decode cX8_like 18 = .ok (.ireturn, 1) := by decide +kernel
theorem dX8_like_19 : decode cX8_like 19 = .ok (.aload_n 0, 1) := by decide +kernel
theorem dX8_like_20 : decode cX8_like 20 = .ok (.getfield 47, 3) := by decide +kernel
theorem dX8_like_23 : decode cX8_like 23 = .ok (.iload_n 1, 1) := by decide +kernel
theorem dX8_like_24 : decode cX8_like 24 = .ok (.aaload, 1) := by decide +kernel
theorem dX8_like_25 : decode cX8_like 25 = .ok (.invokevirtual 219, 3) := by decide +kernel
theorem dX8_like_28 : decode cX8_like 28 = .ok (.ifCond .eq 6, 3) := by decide +kernel
theorem dX8_like_31 : decode cX8_like 31 = .ok (.ldc 223, 2) := by decide +kernel
theorem dX8_like_33 : decode cX8_like 33 = .ok (.ireturn, 1) := by decide +kernel
theorem dX8_like_34 : decode cX8_like 34 = .ok (.aload_n 0, 1) := by decide +kernel
theorem dX8_like_35 : decode cX8_like 35 = .ok (.getfield 10, 3) := by decide +kernel
theorem dX8_like_38 : decode cX8_like 38 = .ok (.getfield 75, 3) := by decide +kernel
theorem dX8_like_41 : decode cX8_like 41 = .ok (.ifCond .ne 6, 3) := by decide +kernel
theorem dX8_like_44 : decode cX8_like 44 = .ok (.ldc 183, 2) := by decide +kernel
theorem dX8_like_46 : decode cX8_like 46 = .ok (.ireturn, 1) := by decide +kernel
theorem dX8_like_47 : decode cX8_like 47 = .ok (.aload_n 0, 1) := by decide +kernel
theorem dX8_like_48 : decode cX8_like 48 = .ok (.aload_n 0, 1) := by decide +kernel
theorem dX8_like_49 : decode cX8_like 49 = .ok (.getfield 47, 3) := by decide +kernel
theorem dX8_like_52 : decode cX8_like 52 = .ok (.iload_n 1, 1) := by decide +kernel
theorem dX8_like_53 : decode cX8_like 53 = .ok (.aaload, 1) := by decide +kernel
theorem dX8_like_54 : decode cX8_like 54 = .ok (.invokevirtual 224, 3) := by decide +kernel
theorem dX8_like_57 : decode cX8_like 57 = .ok (.iconst 0, 1) := by decide +kernel
theorem dX8_like_58 : decode cX8_like 58 = .ok (.istore_n 3, 1) := by decide +kernel
theorem dX8_like_59 : decode cX8_like 59 = .ok (.iconst 1, 1) := by decide +kernel
theorem dX8_like_60 : decode cX8_like 60 = .ok (.istore 4, 2) := by decide +kernel
theorem dX8_like_62 : decode cX8_like 62 = .ok (.iload 4, 2) := by decide +kernel
theorem dX8_like_64 : decode cX8_like 64 = .ok (.aload_n 0, 1) := by decide +kernel
theorem dX8_like_65 : decode cX8_like 65 = .ok (.getfield 10, 3) := by decide +kernel
theorem dX8_like_68 : decode cX8_like 68 = .ok (.getfield 75, 3) := by decide +kernel
theorem dX8_like_71 : decode cX8_like 71 = .ok (.if_icmp .ge 28, 3) := by decide +kernel
theorem dX8_like_74 : decode cX8_like 74 = .ok (.aload_n 0, 1) := by decide +kernel
theorem dX8_like_75 : decode cX8_like 75 = .ok (.getfield 65, 3) := by decide +kernel
theorem dX8_like_78 : decode cX8_like 78 = .ok (.iload 4, 2) := by decide +kernel
theorem dX8_like_80 : decode cX8_like 80 = .ok (.iaload, 1) := by decide +kernel
theorem dX8_like_81 : decode cX8_like 81 = .ok (.aload_n 0, 1) := by decide +kernel
theorem dX8_like_82 : decode cX8_like 82 = .ok (.getfield 65, 3) := by decide +kernel
theorem dX8_like_85 : decode cX8_like 85 = .ok (.iload_n 3, 1) := by decide +kernel
theorem dX8_like_86 : decode cX8_like 86 = .ok (.iaload, 1) := by decide +kernel
theorem dX8_like_87 : decode cX8_like 87 = .ok (.if_icmp .ge 6, 3) := by decide +kernel
theorem dX8_like_90 : decode cX8_like 90 = .ok (.iload 4, 2) := by decide +kernel
theorem dX8_like_92 : decode cX8_like 92 = .ok (.istore_n 3, 1) := by decide +kernel
theorem dX8_like_93 : decode cX8_like 93 = .ok (.iinc 4 1, 3) := by decide +kernel
theorem dX8_like_96 : decode cX8_like 96 = .ok (.goto (-34), 3) := by decide +kernel
theorem dX8_like_99 : decode cX8_like 99 = .ok (.iload_n 2, 1) := by decide +kernel
theorem dX8_like_100 : decode cX8_like 100 = .ok (.ifCond .ne 7, 3) := by decide +kernel
theorem dX8_like_103 : decode cX8_like 103 = .ok (.iload_n 3, 1) := by decide +kernel
theorem dX8_like_104 : decode cX8_like 104 = .ok (.goto 9, 3) := by decide +kernel
theorem dX8_like_107 : decode cX8_like 107 = .ok (.aload_n 0, 1) := by decide +kernel
theorem dX8_like_108 : decode cX8_like 108 = .ok (.getfield 65, 3) := by decide +kernel
theorem dX8_like_111 : decode cX8_like 111 = .ok (.iload_n 3, 1) := by decide +kernel
theorem dX8_like_112 : decode cX8_like 112 = .ok (.iaload, 1) := by decide +kernel
theorem dX8_like_113 : decode cX8_like 113 = .ok (.ireturn, 1) := by decide +kernel
