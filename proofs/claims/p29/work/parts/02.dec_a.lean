theorem dX0_init_0 : decode cX0_init 0 = .ok (.aload_n 0, 1) := by decide +kernel
theorem dX0_init_1 : decode cX0_init 1 = .ok (.invokespecial 3, 3) := by decide +kernel
theorem dX0_init_4 : decode cX0_init 4 = .ok (.aload_n 0, 1) := by decide +kernel
theorem dX0_init_5 : decode cX0_init 5 = .ok (.bipush 8, 2) := by decide +kernel
theorem dX0_init_7 : decode cX0_init 7 = .ok (.newarray .int, 2) := by decide +kernel
theorem dX0_init_9 : decode cX0_init 9 = .ok (.putfield 9, 3) := by decide +kernel
theorem dX0_init_12 : decode cX0_init 12 = .ok (.aload_n 0, 1) := by decide +kernel
theorem dX0_init_13 : decode cX0_init 13 = .ok (.bipush 8, 2) := by decide +kernel
theorem dX0_init_15 : decode cX0_init 15 = .ok (.newarray .int, 2) := by decide +kernel
theorem dX0_init_17 : decode cX0_init 17 = .ok (.putfield 15, 3) := by decide +kernel
theorem dX0_init_20 : decode cX0_init 20 = .ok (.return_, 1) := by decide +kernel
theorem dX0_over_0 : decode cX0_over 0 = .ok (.aload_n 0, 1) := by decide +kernel
theorem dX0_over_1 : decode cX0_over 1 = .ok (.iconst 0, 1) := by decide +kernel
theorem dX0_over_2 : decode cX0_over 2 = .ok (.putfield 18, 3) := by decide +kernel
theorem dX0_over_5 : decode cX0_over 5 = .ok (.iconst 0, 1) := by decide +kernel
theorem dX0_over_6 : decode cX0_over 6 = .ok (.istore 4, 2) := by decide +kernel
theorem dX0_over_8 : decode cX0_over 8 = .ok (.aload_n 1, 1) := by decide +kernel
theorem dX0_over_9 : decode cX0_over 9 = .ok (.bipush 19, 2) := by decide +kernel
theorem dX0_over_11 : decode cX0_over 11 = .ok (.invokevirtual 24, 3) := by decide +kernel
theorem dX0_over_14 : decode cX0_over 14 = .ok (.istore 5, 2) := by decide +kernel
theorem dX0_over_16 : decode cX0_over 16 = .ok (.iload 5, 2) := by decide +kernel
theorem dX0_over_18 : decode cX0_over 18 = .ok (.iconst 5, 1) := by decide +kernel
theorem dX0_over_19 : decode cX0_over 19 = .ok (.if_icmp .ge 49, 3) := by decide +kernel
theorem dX0_over_22 : decode cX0_over 22 = .ok (.aload_n 0, 1) := by decide +kernel
theorem dX0_over_23 : decode cX0_over 23 = .ok (.aload_n 1, 1) := by decide +kernel
theorem dX0_over_24 : decode cX0_over 24 = .ok (.iload_n 2, 1) := by decide +kernel
theorem dX0_over_25 : decode cX0_over 25 = .ok (.iload 5, 2) := by decide +kernel
theorem dX0_over_27 : decode cX0_over 27 = .ok (.invokevirtual 28, 3) := by decide +kernel
theorem dX0_over_30 : decode cX0_over 30 = .ok (.iconst 0, 1) := by decide +kernel
theorem dX0_over_31 : decode cX0_over 31 = .ok (.istore 6, 2) := by decide +kernel
theorem dX0_over_33 : decode cX0_over 33 = .ok (.iload 6, 2) := by decide +kernel
theorem dX0_over_35 : decode cX0_over 35 = .ok (.bipush 8, 2) := by decide +kernel
theorem dX0_over_37 : decode cX0_over 37 = .ok (.if_icmp .ge 25, 3) := by decide +kernel
theorem dX0_over_40 : decode cX0_over 40 = .ok (.iload 4, 2) := by decide +kernel
theorem dX0_over_42 : decode cX0_over 42 = .ok (.aload_n 0, 1) := by decide +kernel
theorem dX0_over_43 : decode cX0_over 43 = .ok (.aload_n 1, 1) := by decide +kernel
theorem dX0_over_44 : decode cX0_over 44 = .ok (.iload_n 2, 1) := by decide +kernel
theorem dX0_over_45 : decode cX0_over 45 = .ok (.iload 5, 2) := by decide +kernel
theorem dX0_over_47 : decode cX0_over 47 = .ok (.iload 6, 2) := by decide +kernel
theorem dX0_over_49 : decode cX0_over 49 = .ok (.iload_n 3, 1) := by decide +kernel
theorem dX0_over_50 : decode cX0_over 50 = .ok (.invokevirtual 32, 3) := by decide +kernel
theorem dX0_over_53 : decode cX0_over 53 = .ok (.iadd, 1) := by decide +kernel
theorem dX0_over_54 : decode cX0_over 54 = .ok (.istore 4, 2) := by decide +kernel
theorem dX0_over_56 : decode cX0_over 56 = .ok (.iinc 6 1, 3) := by decide +kernel
theorem dX0_over_59 : decode cX0_over 59 = .ok (.goto (-26), 3) := by decide +kernel
theorem dX0_over_62 : decode cX0_over 62 = .ok (.iinc 5 1, 3) := by decide +kernel
theorem dX0_over_65 : decode cX0_over 65 = .ok (.goto (-49), 3) := by decide +kernel
theorem dX0_over_68 : decode cX0_over 68 = .ok (.iload 4, 2) := by decide +kernel
theorem dX0_over_70 : decode cX0_over 70 = .ok (.ireturn, 1) := by decide +kernel
theorem dX0_rememberRing_0 : decode cX0_rememberRing 0 = .ok (.iconst 0, 1) := by decide +kernel
theorem dX0_rememberRing_1 : decode cX0_rememberRing 1 = .ok (.istore 4, 2) := by decide +kernel
theorem dX0_rememberRing_3 : decode cX0_rememberRing 3 = .ok (.iload 4, 2) := by decide +kernel
theorem dX0_rememberRing_5 : decode cX0_rememberRing 5 = .ok (.aload_n 0, 1) := by decide +kernel
theorem dX0_rememberRing_6 : decode cX0_rememberRing 6 = .ok (.getfield 9, 3) := by decide +kernel
theorem dX0_rememberRing_9 : decode cX0_rememberRing 9 = .ok (.arraylength, 1) := by decide +kernel
theorem dX0_rememberRing_10 : decode cX0_rememberRing 10 = .ok (.if_icmp .ge 49, 3) := by decide +kernel
theorem dX0_rememberRing_13 : decode cX0_rememberRing 13 = .ok (.iload 4, 2) := by decide +kernel
theorem dX0_rememberRing_15 : decode cX0_rememberRing 15 = .ok (.aload_n 0, 1) := by decide +kernel
theorem dX0_rememberRing_16 : decode cX0_rememberRing 16 = .ok (.getfield 15, 3) := by decide +kernel
theorem dX0_rememberRing_19 : decode cX0_rememberRing 19 = .ok (.arraylength, 1) := by decide +kernel
theorem dX0_rememberRing_20 : decode cX0_rememberRing 20 = .ok (.if_icmp .ge 39, 3) := by decide +kernel
theorem dX0_rememberRing_23 : decode cX0_rememberRing 23 = .ok (.aload_n 0, 1) := by decide +kernel
theorem dX0_rememberRing_24 : decode cX0_rememberRing 24 = .ok (.getfield 9, 3) := by decide +kernel
theorem dX0_rememberRing_27 : decode cX0_rememberRing 27 = .ok (.iload 4, 2) := by decide +kernel
theorem dX0_rememberRing_29 : decode cX0_rememberRing 29 = .ok (.aload_n 1, 1) := by decide +kernel
theorem dX0_rememberRing_30 : decode cX0_rememberRing 30 = .ok (.iload_n 2, 1) := by decide +kernel
theorem dX0_rememberRing_31 : decode cX0_rememberRing 31 = .ok (.iload_n 3, 1) := by decide +kernel
theorem dX0_rememberRing_32 : decode cX0_rememberRing 32 = .ok (.iload 4, 2) := by decide +kernel
theorem dX0_rememberRing_34 : decode cX0_rememberRing 34 = .ok (.invokevirtual 36, 3) := by decide +kernel
theorem dX0_rememberRing_37 : decode cX0_rememberRing 37 = .ok (.iastore, 1) := by decide +kernel
theorem dX0_rememberRing_38 : decode cX0_rememberRing 38 = .ok (.aload_n 0, 1) := by decide +kernel
theorem dX0_rememberRing_39 : decode cX0_rememberRing 39 = .ok (.getfield 15, 3) := by decide +kernel
theorem dX0_rememberRing_42 : decode cX0_rememberRing 42 = .ok (.iload 4, 2) := by decide +kernel
theorem dX0_rememberRing_44 : decode cX0_rememberRing 44 = .ok (.aload_n 1, 1) := by decide +kernel
theorem dX0_rememberRing_45 : decode cX0_rememberRing 45 = .ok (.iload_n 2, 1) := by decide +kernel
theorem dX0_rememberRing_46 : decode cX0_rememberRing 46 = .ok (.iload_n 3, 1) := by decide +kernel
theorem dX0_rememberRing_47 : decode cX0_rememberRing 47 = .ok (.iload 4, 2) := by decide +kernel
theorem dX0_rememberRing_49 : decode cX0_rememberRing 49 = .ok (.invokevirtual 40, 3) := by decide +kernel
theorem dX0_rememberRing_52 : decode cX0_rememberRing 52 = .ok (.iastore, 1) := by decide +kernel
theorem dX0_rememberRing_53 : decode cX0_rememberRing 53 = .ok (.iinc 4 1, 3) := by decide +kernel
theorem dX0_rememberRing_56 : decode cX0_rememberRing 56 = .ok (.goto (-53), 3) := by decide +kernel
theorem dX0_rememberRing_59 : decode cX0_rememberRing 59 = .ok (.return_, 1) := by decide +kernel
theorem dX0_overPlace_0 : decode cX0_overPlace 0 = .ok (.iload 5, 2) := by decide +kernel
theorem dX0_overPlace_2 : decode cX0_overPlace 2 = .ok (.iconst 1, 1) := by decide +kernel
theorem dX0_overPlace_3 : decode cX0_overPlace 3 = .ok (.if_icmp .ne 13, 3) := by decide +kernel
theorem dX0_overPlace_6 : decode cX0_overPlace 6 = .ok (.iload 4, 2) := by decide +kernel
theorem dX0_overPlace_8 : decode cX0_overPlace 8 = .ok (.iconst 1, 1) := by decide +kernel
theorem dX0_overPlace_9 : decode cX0_overPlace 9 = .ok (.iadd, 1) := by decide +kernel
theorem dX0_overPlace_10 : decode cX0_overPlace 10 = .ok (.bipush 8, 2) := by decide +kernel
theorem dX0_overPlace_12 : decode cX0_overPlace 12 = .ok (.irem, 1) := by decide +kernel
theorem dX0_overPlace_13 : decode cX0_overPlace 13 = .ok (.goto 13, 3) := by decide +kernel
theorem dX0_overPlace_16 : decode cX0_overPlace 16 = .ok (.iload 4, 2) := by decide +kernel
theorem dX0_overPlace_18 : decode cX0_overPlace 18 = .ok (.bipush 8, 2) := by decide +kernel
theorem dX0_overPlace_20 : decode cX0_overPlace 20 = .ok (.iadd, 1) := by decide +kernel
theorem dX0_overPlace_21 : decode cX0_overPlace 21 = .ok (.iconst 1, 1) := by decide +kernel
theorem dX0_overPlace_22 : decode cX0_overPlace 22 = .ok (.isub, 1) := by decide +kernel
theorem dX0_overPlace_23 : decode cX0_overPlace 23 = .ok (.bipush 8, 2) := by decide +kernel
theorem dX0_overPlace_25 : decode cX0_overPlace 25 = .ok (.irem, 1) := by decide +kernel
theorem dX0_overPlace_26 : decode cX0_overPlace 26 = .ok (.istore 6, 2) := by decide +kernel
theorem dX0_overPlace_28 : decode cX0_overPlace 28 = .ok (.aload_n 1, 1) := by decide +kernel
theorem dX0_overPlace_29 : decode cX0_overPlace 29 = .ok (.iconst 1, 1) := by decide +kernel
theorem dX0_overPlace_30 : decode cX0_overPlace 30 = .ok (.invokevirtual 43, 3) := by decide +kernel
theorem dX0_overPlace_33 : decode cX0_overPlace 33 = .ok (.istore 7, 2) := by decide +kernel
theorem dX0_overPlace_35 : decode cX0_overPlace 35 = .ok (.aload_n 0, 1) := by decide +kernel
theorem dX0_overPlace_36 : decode cX0_overPlace 36 = .ok (.getfield 15, 3) := by decide +kernel
theorem dX0_overPlace_39 : decode cX0_overPlace 39 = .ok (.iload 4, 2) := by decide +kernel
theorem dX0_overPlace_41 : decode cX0_overPlace 41 = .ok (.invokestatic 46, 3) := by decide +kernel
theorem dX0_overPlace_44 : decode cX0_overPlace 44 = .ok (.istore 8, 2) := by decide +kernel
theorem dX0_overPlace_46 : decode cX0_overPlace 46 = .ok (.aload_n 0, 1) := by decide +kernel
theorem dX0_overPlace_47 : decode cX0_overPlace 47 = .ok (.getfield 9, 3) := by decide +kernel
theorem dX0_overPlace_50 : decode cX0_overPlace 50 = .ok (.iload 6, 2) := by decide +kernel
theorem dX0_overPlace_52 : decode cX0_overPlace 52 = .ok (.invokestatic 46, 3) := by decide +kernel
theorem dX0_overPlace_55 : decode cX0_overPlace 55 = .ok (.iload 7, 2) := by decide +kernel
theorem dX0_overPlace_57 : decode cX0_overPlace 57 = .ok (.invokestatic 50, 3) := by decide +kernel
theorem dX0_overPlace_60 : decode cX0_overPlace 60 = .ok (.istore 9, 2) := by decide +kernel
theorem dX0_overPlace_62 : decode cX0_overPlace 62 = .ok (.aload_n 0, 1) := by decide +kernel
theorem dX0_overPlace_63 : decode cX0_overPlace 63 = .ok (.getfield 9, 3) := by decide +kernel
theorem dX0_overPlace_66 : decode cX0_overPlace 66 = .ok (.iload 4, 2) := by decide +kernel
theorem dX0_overPlace_68 : decode cX0_overPlace 68 = .ok (.invokestatic 46, 3) := by decide +kernel
theorem dX0_overPlace_71 : decode cX0_overPlace 71 = .ok (.aload_n 0, 1) := by decide +kernel
theorem dX0_overPlace_72 : decode cX0_overPlace 72 = .ok (.getfield 9, 3) := by decide +kernel
theorem dX0_overPlace_75 : decode cX0_overPlace 75 = .ok (.iload 4, 2) := by decide +kernel
theorem dX0_overPlace_77 : decode cX0_overPlace 77 = .ok (.invokestatic 46, 3) := by decide +kernel
theorem dX0_overPlace_80 : decode cX0_overPlace 80 = .ok (.iload 7, 2) := by decide +kernel
theorem dX0_overPlace_82 : decode cX0_overPlace 82 = .ok (.invokestatic 50, 3) := by decide +kernel
theorem dX0_overPlace_85 : decode cX0_overPlace 85 = .ok (.isub, 1) := by decide +kernel
theorem dX0_overPlace_86 : decode cX0_overPlace 86 = .ok (.istore 10, 2) := by decide +kernel
theorem dX0_overPlace_88 : decode cX0_overPlace 88 = .ok (.iload 8, 2) := by decide +kernel
theorem dX0_overPlace_90 : decode cX0_overPlace 90 = .ok (.ifCond .ne 14, 3) := by decide +kernel
theorem dX0_overPlace_93 : decode cX0_overPlace 93 = .ok (.aload_n 0, 1) := by decide +kernel
theorem dX0_overPlace_94 : decode cX0_overPlace 94 = .ok (.getfield 15, 3) := by decide +kernel
theorem dX0_overPlace_97 : decode cX0_overPlace 97 = .ok (.iload 6, 2) := by decide +kernel
theorem dX0_overPlace_99 : decode cX0_overPlace 99 = .ok (.invokestatic 46, 3) := by decide +kernel
theorem dX0_overPlace_102 : decode cX0_overPlace 102 = .ok (.istore 8, 2) := by decide +kernel
theorem dX0_overPlace_104 : decode cX0_overPlace 104 = .ok (.iload 8, 2) := by decide +kernel
theorem dX0_overPlace_106 : decode cX0_overPlace 106 = .ok (.aload_n 0, 1) := by decide +kernel
theorem dX0_overPlace_107 : decode cX0_overPlace 107 = .ok (.getfield 15, 3) := by decide +kernel
theorem dX0_overPlace_110 : decode cX0_overPlace 110 = .ok (.iload 6, 2) := by decide +kernel
theorem dX0_overPlace_112 : decode cX0_overPlace 112 = .ok (.invokestatic 46, 3) := by decide +kernel
theorem dX0_overPlace_115 : decode cX0_overPlace 115 = .ok (.if_icmp .ne 7, 3) := by decide +kernel
theorem dX0_overPlace_118 : decode cX0_overPlace 118 = .ok (.iconst 1, 1) := by decide +kernel
theorem dX0_overPlace_119 : decode cX0_overPlace 119 = .ok (.goto 4, 3) := by decide +kernel
theorem dX0_overPlace_122 : decode cX0_overPlace 122 = .ok (.iconst 0, 1) := by decide +kernel
theorem dX0_overPlace_123 : decode cX0_overPlace 123 = .ok (.istore 11, 2) := by decide +kernel
theorem dX0_overPlace_125 : decode cX0_overPlace 125 = .ok (.iload 11, 2) := by decide +kernel
theorem dX0_overPlace_127 : decode cX0_overPlace 127 = .ok (.ifCond .eq 11, 3) := by decide +kernel
theorem dX0_overPlace_130 : decode cX0_overPlace 130 = .ok (.iload 10, 2) := by decide +kernel
theorem dX0_overPlace_132 : decode cX0_overPlace 132 = .ok (.iload 9, 2) := by decide +kernel
theorem dX0_overPlace_134 : decode cX0_overPlace 134 = .ok (.iadd, 1) := by decide +kernel
theorem dX0_overPlace_135 : decode cX0_overPlace 135 = .ok (.goto 5, 3) := by decide +kernel
theorem dX0_overPlace_138 : decode cX0_overPlace 138 = .ok (.iload 10, 2) := by decide +kernel
theorem dX0_overPlace_140 : decode cX0_overPlace 140 = .ok (.istore 12, 2) := by decide +kernel
theorem dX0_overPlace_142 : decode cX0_overPlace 142 = .ok (.bipush 99, 2) := by decide +kernel
theorem dX0_overPlace_144 : decode cX0_overPlace 144 = .ok (.iload 12, 2) := by decide +kernel
theorem dX0_overPlace_146 : decode cX0_overPlace 146 = .ok (.invokestatic 54, 3) := by decide +kernel
theorem dX0_overPlace_149 : decode cX0_overPlace 149 = .ok (.istore 13, 2) := by decide +kernel
theorem dX0_overPlace_151 : decode cX0_overPlace 151 = .ok (.iload 13, 2) := by decide +kernel
theorem dX0_overPlace_153 : decode cX0_overPlace 153 = .ok (.aload_n 0, 1) := by decide +kernel
theorem dX0_overPlace_154 : decode cX0_overPlace 154 = .ok (.getfield 9, 3) := by decide +kernel
theorem dX0_overPlace_157 : decode cX0_overPlace 157 = .ok (.iload 4, 2) := by decide +kernel
theorem dX0_overPlace_159 : decode cX0_overPlace 159 = .ok (.invokestatic 46, 3) := by decide +kernel
theorem dX0_overPlace_162 : decode cX0_overPlace 162 = .ok (.if_icmp .eq 8, 3) := by decide +kernel
theorem dX0_overPlace_165 : decode cX0_overPlace 165 = .ok (.aload_n 0, 1) := by decide +kernel
theorem dX0_overPlace_166 : decode cX0_overPlace 166 = .ok (.iconst 1, 1) := by decide +kernel
theorem dX0_overPlace_167 : decode cX0_overPlace 167 = .ok (.putfield 18, 3) := by decide +kernel
theorem dX0_overPlace_170 : decode cX0_overPlace 170 = .ok (.aload_n 1, 1) := by decide +kernel
theorem dX0_overPlace_171 : decode cX0_overPlace 171 = .ok (.iload_n 2, 1) := by decide +kernel
theorem dX0_overPlace_172 : decode cX0_overPlace 172 = .ok (.iload_n 3, 1) := by decide +kernel
theorem dX0_overPlace_173 : decode cX0_overPlace 173 = .ok (.iload 4, 2) := by decide +kernel
theorem dX0_overPlace_175 : decode cX0_overPlace 175 = .ok (.iload 8, 2) := by decide +kernel
theorem dX0_overPlace_177 : decode cX0_overPlace 177 = .ok (.iload 13, 2) := by decide +kernel
theorem dX0_overPlace_179 : decode cX0_overPlace 179 = .ok (.invokevirtual 59, 3) := by decide +kernel
theorem dX0_overPlace_182 : decode cX0_overPlace 182 = .ok (.iload 12, 2) := by decide +kernel
theorem dX0_overPlace_184 : decode cX0_overPlace 184 = .ok (.iload 13, 2) := by decide +kernel
theorem dX0_overPlace_186 : decode cX0_overPlace 186 = .ok (.isub, 1) := by decide +kernel
theorem dX0_overPlace_187 : decode cX0_overPlace 187 = .ok (.iload 11, 2) := by decide +kernel
theorem dX0_overPlace_189 : decode cX0_overPlace 189 = .ok (.ifCond .eq 7, 3) := by decide +kernel
theorem dX0_overPlace_192 : decode cX0_overPlace 192 = .ok (.iconst 0, 1) := by decide +kernel
theorem dX0_overPlace_193 : decode cX0_overPlace 193 = .ok (.goto 5, 3) := by decide +kernel
theorem dX0_overPlace_196 : decode cX0_overPlace 196 = .ok (.iload 9, 2) := by decide +kernel
theorem dX0_overPlace_198 : decode cX0_overPlace 198 = .ok (.iadd, 1) := by decide +kernel
theorem dX0_overPlace_199 : decode cX0_overPlace 199 = .ok (.ireturn, 1) := by decide +kernel
theorem dX0_remembered_0 : decode cX0_remembered 0 = .ok (.iload_n 1, 1) := by decide +kernel
theorem dX0_remembered_1 : decode cX0_remembered 1 = .ok (.ifCond .lt 15, 3) := by decide +kernel
theorem dX0_remembered_4 : decode cX0_remembered 4 = .ok (.iload_n 1, 1) := by decide +kernel
theorem dX0_remembered_5 : decode cX0_remembered 5 = .ok (.aload_n 0, 1) := by decide +kernel
theorem dX0_remembered_6 : decode cX0_remembered 6 = .ok (.arraylength, 1) := by decide +kernel
theorem dX0_remembered_7 : decode cX0_remembered 7 = .ok (.if_icmp .ge 9, 3) := by decide +kernel
theorem dX0_remembered_10 : decode cX0_remembered 10 = .ok (.aload_n 0, 1) := by decide +kernel
theorem dX0_remembered_11 : decode cX0_remembered 11 = .ok (.iload_n 1, 1) := by decide +kernel
theorem dX0_remembered_12 : decode cX0_remembered 12 = .ok (.iaload, 1) := by decide +kernel
theorem dX0_remembered_13 : decode cX0_remembered 13 = .ok (.goto 4, 3) := by decide +kernel
theorem dX0_remembered_16 : decode cX0_remembered 16 = .ok (.iconst 0, 1) := by decide +kernel
theorem dX0_remembered_17 : decode cX0_remembered 17 = .ok (.ireturn, 1) := by decide +kernel
theorem dX0_spilled_0 : decode cX0_spilled 0 = .ok (.iload_n 0, 1) := by decide +kernel
theorem dX0_spilled_1 : decode cX0_spilled 1 = .ok (.iload_n 1, 1) := by decide +kernel
theorem dX0_spilled_2 : decode cX0_spilled 2 = .ok (.if_icmp .le 11, 3) := by decide +kernel
theorem dX0_spilled_5 : decode cX0_spilled 5 = .ok (.iload_n 0, 1) := by decide +kernel
theorem dX0_spilled_6 : decode cX0_spilled 6 = .ok (.iload_n 1, 1) := by decide +kernel
theorem dX0_spilled_7 : decode cX0_spilled 7 = .ok (.isub, 1) := by decide +kernel
theorem dX0_spilled_8 : decode cX0_spilled 8 = .ok (.iconst 2, 1) := by decide +kernel
theorem dX0_spilled_9 : decode cX0_spilled 9 = .ok (.idiv, 1) := by decide +kernel
theorem dX0_spilled_10 : decode cX0_spilled 10 = .ok (.goto 4, 3) := by decide +kernel
theorem dX0_spilled_13 : decode cX0_spilled 13 = .ok (.iconst 0, 1) := by decide +kernel
theorem dX0_spilled_14 : decode cX0_spilled 14 = .ok (.ireturn, 1) := by decide +kernel
theorem dX1_quarterOfTurn_0 : decode cX1_quarterOfTurn 0 = .ok (.iload_n 0, 1) := by decide +kernel
theorem dX1_quarterOfTurn_1 : decode cX1_quarterOfTurn 1 = .ok (.ifCond .lt 19, 3) := by decide +kernel
theorem dX1_quarterOfTurn_4 : decode cX1_quarterOfTurn 4 = .ok (.iload_n 0, 1) := by decide +kernel
theorem dX1_quarterOfTurn_5 : decode cX1_quarterOfTurn 5 = .ok (.getstatic 9, 3) := by decide +kernel
theorem dX1_quarterOfTurn_8 : decode cX1_quarterOfTurn 8 = .ok (.arraylength, 1) := by decide +kernel
theorem dX1_quarterOfTurn_9 : decode cX1_quarterOfTurn 9 = .ok (.if_icmp .ge 11, 3) := by decide +kernel
theorem dX1_quarterOfTurn_12 : decode cX1_quarterOfTurn 12 = .ok (.getstatic 9, 3) := by decide +kernel
theorem dX1_quarterOfTurn_15 : decode cX1_quarterOfTurn 15 = .ok (.iload_n 0, 1) := by decide +kernel
theorem dX1_quarterOfTurn_16 : decode cX1_quarterOfTurn 16 = .ok (.iaload, 1) := by decide +kernel
theorem dX1_quarterOfTurn_17 : decode cX1_quarterOfTurn 17 = .ok (.goto 4, 3) := by decide +kernel
theorem dX1_quarterOfTurn_20 : decode cX1_quarterOfTurn 20 = .ok (.iconst (-1), 1) := by decide +kernel
theorem dX1_quarterOfTurn_21 : decode cX1_quarterOfTurn 21 = .ok (.ireturn, 1) := by decide +kernel
theorem dX1_changeSetting_0 : decode cX1_changeSetting 0 = .ok (.iload_n 1, 1) := by decide +kernel
theorem dX1_changeSetting_1 : decode cX1_changeSetting 1 = .ok (.iload_n 2, 1) := by decide +kernel
theorem dX1_changeSetting_2 : decode cX1_changeSetting 2 = .ok (.invokestatic 15, 3) := by decide +kernel
theorem dX1_changeSetting_5 : decode cX1_changeSetting 5 = .ok (.ifCond .ne 6, 3) := by decide +kernel
theorem dX1_changeSetting_8 : decode cX1_changeSetting 8 = .ok (.bipush (-2), 2) := by decide +kernel
theorem dX1_changeSetting_10 : decode cX1_changeSetting 10 = .ok (.ireturn, 1) := by decide +kernel
theorem dX1_changeSetting_11 : decode cX1_changeSetting 11 = .ok (.aload_n 0, 1) := by decide +kernel
theorem dX1_changeSetting_12 : decode cX1_changeSetting 12 = .ok (.iload_n 1, 1) := by decide +kernel
theorem dX1_changeSetting_13 : decode cX1_changeSetting 13 = .ok (.invokevirtual 19, 3) := by decide +kernel
theorem dX1_changeSetting_16 : decode cX1_changeSetting 16 = .ok (.istore_n 3, 1) := by decide +kernel
theorem dX1_changeSetting_17 : decode cX1_changeSetting 17 = .ok (.aload_n 0, 1) := by decide +kernel
theorem dX1_changeSetting_18 : decode cX1_changeSetting 18 = .ok (.iconst 0, 1) := by decide +kernel
theorem dX1_changeSetting_19 : decode cX1_changeSetting 19 = .ok (.iload_n 1, 1) := by decide +kernel
theorem dX1_changeSetting_20 : decode cX1_changeSetting 20 = .ok (.iadd, 1) := by decide +kernel
theorem dX1_changeSetting_21 : decode cX1_changeSetting 21 = .ok (.iload_n 2, 1) := by decide +kernel
theorem dX1_changeSetting_22 : decode cX1_changeSetting 22 = .ok (.invokevirtual 25, 3) := by decide +kernel
theorem dX1_changeSetting_25 : decode cX1_changeSetting 25 = .ok (.iload_n 3, 1) := by decide +kernel
theorem dX1_changeSetting_26 : decode cX1_changeSetting 26 = .ok (.ireturn, 1) := by decide +kernel
theorem dX1_isSettingValue_0 : decode cX1_isSettingValue 0 = .ok (.iload_n 0, 1) := by decide +kernel
theorem dX1_isSettingValue_1 : decode cX1_isSettingValue 1 = .ok (.tableswitch 76 0 2 #[27, 44, 61], 27) := by decide +kernel
theorem dX1_isSettingValue_28 : decode cX1_isSettingValue 28 = .ok (.iload_n 1, 1) := by decide +kernel
theorem dX1_isSettingValue_29 : decode cX1_isSettingValue 29 = .ok (.iconst 1, 1) := by decide +kernel
theorem dX1_isSettingValue_30 : decode cX1_isSettingValue 30 = .ok (.if_icmp .lt 13, 3) := by decide +kernel
theorem dX1_isSettingValue_33 : decode cX1_isSettingValue 33 = .ok (.iload_n 1, 1) := by decide +kernel
theorem dX1_isSettingValue_34 : decode cX1_isSettingValue 34 = .ok (.bipush 50, 2) := by decide +kernel
theorem dX1_isSettingValue_36 : decode cX1_isSettingValue 36 = .ok (.if_icmp .gt 7, 3) := by decide +kernel
theorem dX1_isSettingValue_39 : decode cX1_isSettingValue 39 = .ok (.iconst 1, 1) := by decide +kernel
theorem dX1_isSettingValue_40 : decode cX1_isSettingValue 40 = .ok (.goto 4, 3) := by decide +kernel
theorem dX1_isSettingValue_43 : decode cX1_isSettingValue 43 = .ok (.iconst 0, 1) := by decide +kernel
theorem dX1_isSettingValue_44 : decode cX1_isSettingValue 44 = .ok (.ireturn, 1) := by decide +kernel
theorem dX1_isSettingValue_45 : decode cX1_isSettingValue 45 = .ok (.iload_n 1, 1) := by decide +kernel
theorem dX1_isSettingValue_46 : decode cX1_isSettingValue 46 = .ok (.iconst 1, 1) := by decide +kernel
theorem dX1_isSettingValue_47 : decode cX1_isSettingValue 47 = .ok (.if_icmp .lt 13, 3) := by decide +kernel
theorem dX1_isSettingValue_50 : decode cX1_isSettingValue 50 = .ok (.iload_n 1, 1) := by decide +kernel
theorem dX1_isSettingValue_51 : decode cX1_isSettingValue 51 = .ok (.bipush 99, 2) := by decide +kernel
theorem dX1_isSettingValue_53 : decode cX1_isSettingValue 53 = .ok (.if_icmp .gt 7, 3) := by decide +kernel
theorem dX1_isSettingValue_56 : decode cX1_isSettingValue 56 = .ok (.iconst 1, 1) := by decide +kernel
theorem dX1_isSettingValue_57 : decode cX1_isSettingValue 57 = .ok (.goto 4, 3) := by decide +kernel
theorem dX1_isSettingValue_60 : decode cX1_isSettingValue 60 = .ok (.iconst 0, 1) := by decide +kernel
theorem dX1_isSettingValue_61 : decode cX1_isSettingValue 61 = .ok (.ireturn, 1) := by decide +kernel
theorem dX1_isSettingValue_62 : decode cX1_isSettingValue 62 = .ok (.iload_n 1, 1) := by decide +kernel
theorem dX1_isSettingValue_63 : decode cX1_isSettingValue 63 = .ok (.ifCond .eq 8, 3) := by decide +kernel
theorem dX1_isSettingValue_66 : decode cX1_isSettingValue 66 = .ok (.iload_n 1, 1) := by decide +kernel
theorem dX1_isSettingValue_67 : decode cX1_isSettingValue 67 = .ok (.iconst 1, 1) := by decide +kernel
theorem dX1_isSettingValue_68 : decode cX1_isSettingValue 68 = .ok (.if_icmp .ne 7, 3) := by decide +kernel
theorem dX1_isSettingValue_71 : decode cX1_isSettingValue 71 = .ok (.iconst 1, 1) := by decide +kernel
theorem dX1_isSettingValue_72 : decode cX1_isSettingValue 72 = .ok (.goto 4, 3) := by decide +kernel
theorem dX1_isSettingValue_75 : decode cX1_isSettingValue 75 = .ok (.iconst 0, 1) := by decide +kernel
theorem dX1_isSettingValue_76 : decode cX1_isSettingValue 76 = .ok (.ireturn, 1) := by decide +kernel
theorem dX1_isSettingValue_77 : decode cX1_isSettingValue 77 = .ok (.iconst 0, 1) := by decide +kernel
theorem dX1_isSettingValue_78 : decode cX1_isSettingValue 78 = .ok (.ireturn, 1) := by decide +kernel
theorem dX1_layPattern_0 : decode cX1_layPattern 0 = .ok (.iload_n 1, 1) := by decide +kernel
theorem dX1_layPattern_1 : decode cX1_layPattern 1 = .ok (.invokestatic 29, 3) := by decide +kernel
theorem dX1_layPattern_4 : decode cX1_layPattern 4 = .ok (.ifCond .ne 5, 3) := by decide +kernel
theorem dX1_layPattern_7 : decode cX1_layPattern 7 = .ok (.iconst (-1), 1) := by decide +kernel
theorem dX1_layPattern_8 : decode cX1_layPattern 8 = .ok (.ireturn, 1) := by decide +kernel
theorem dX1_layPattern_9 : decode cX1_layPattern 9 = .ok (.iload_n 2, 1) := by decide +kernel
theorem dX1_layPattern_10 : decode cX1_layPattern 10 = .ok (.invokestatic 33, 3) := by decide +kernel
theorem dX1_layPattern_13 : decode cX1_layPattern 13 = .ok (.ifCond .ne 6, 3) := by decide +kernel
theorem dX1_layPattern_16 : decode cX1_layPattern 16 = .ok (.bipush (-2), 2) := by decide +kernel
theorem dX1_layPattern_18 : decode cX1_layPattern 18 = .ok (.ireturn, 1) := by decide +kernel
theorem dX1_layPattern_19 : decode cX1_layPattern 19 = .ok (.aload_n 0, 1) := by decide +kernel
theorem dX1_layPattern_20 : decode cX1_layPattern 20 = .ok (.iload_n 1, 1) := by decide +kernel
theorem dX1_layPattern_21 : decode cX1_layPattern 21 = .ok (.invokevirtual 36, 3) := by decide +kernel
theorem dX1_layPattern_24 : decode cX1_layPattern 24 = .ok (.ifCond .eq 6, 3) := by decide +kernel
theorem dX1_layPattern_27 : decode cX1_layPattern 27 = .ok (.bipush (-5), 2) := by decide +kernel
theorem dX1_layPattern_29 : decode cX1_layPattern 29 = .ok (.ireturn, 1) := by decide +kernel
theorem dX1_layPattern_30 : decode cX1_layPattern 30 = .ok (.aload_n 0, 1) := by decide +kernel
theorem dX1_layPattern_31 : decode cX1_layPattern 31 = .ok (.iload_n 1, 1) := by decide +kernel
theorem dX1_layPattern_32 : decode cX1_layPattern 32 = .ok (.invokevirtual 39, 3) := by decide +kernel
theorem dX1_layPattern_35 : decode cX1_layPattern 35 = .ok (.invokestatic 42, 3) := by decide +kernel
theorem dX1_layPattern_38 : decode cX1_layPattern 38 = .ok (.istore_n 3, 1) := by decide +kernel
theorem dX1_layPattern_39 : decode cX1_layPattern 39 = .ok (.aload_n 0, 1) := by decide +kernel
theorem dX1_layPattern_40 : decode cX1_layPattern 40 = .ok (.iconst 3, 1) := by decide +kernel
theorem dX1_layPattern_41 : decode cX1_layPattern 41 = .ok (.iload_n 1, 1) := by decide +kernel
theorem dX1_layPattern_42 : decode cX1_layPattern 42 = .ok (.iadd, 1) := by decide +kernel
theorem dX1_layPattern_43 : decode cX1_layPattern 43 = .ok (.iload_n 2, 1) := by decide +kernel
theorem dX1_layPattern_44 : decode cX1_layPattern 44 = .ok (.invokevirtual 25, 3) := by decide +kernel
theorem dX1_layPattern_47 : decode cX1_layPattern 47 = .ok (.iload_n 3, 1) := by decide +kernel
theorem dX1_layPattern_48 : decode cX1_layPattern 48 = .ok (.ireturn, 1) := by decide +kernel
theorem dX1_isColourRow_0 : decode cX1_isColourRow 0 = .ok (.iload_n 0, 1) := by decide +kernel
theorem dX1_isColourRow_1 : decode cX1_isColourRow 1 = .ok (.istore_n 1, 1) := by decide +kernel
theorem dX1_isColourRow_2 : decode cX1_isColourRow 2 = .ok (.iconst 0, 1) := by decide +kernel
theorem dX1_isColourRow_3 : decode cX1_isColourRow 3 = .ok (.istore_n 2, 1) := by decide +kernel
theorem dX1_isColourRow_4 : decode cX1_isColourRow 4 = .ok (.iload_n 2, 1) := by decide +kernel
theorem dX1_isColourRow_5 : decode cX1_isColourRow 5 = .ok (.bipush 8, 2) := by decide +kernel
theorem dX1_isColourRow_7 : decode cX1_isColourRow 7 = .ok (.if_icmp .ge 24, 3) := by decide +kernel
theorem dX1_isColourRow_10 : decode cX1_isColourRow 10 = .ok (.iload_n 1, 1) := by decide +kernel
theorem dX1_isColourRow_11 : decode cX1_isColourRow 11 = .ok (.bipush 7, 2) := by decide +kernel
theorem dX1_isColourRow_13 : decode cX1_isColourRow 13 = .ok (.iand, 1) := by decide +kernel
theorem dX1_isColourRow_14 : decode cX1_isColourRow 14 = .ok (.bipush 6, 2) := by decide +kernel
theorem dX1_isColourRow_16 : decode cX1_isColourRow 16 = .ok (.if_icmp .le 5, 3) := by decide +kernel
theorem dX1_isColourRow_19 : decode cX1_isColourRow 19 = .ok (.iconst 0, 1) := by decide +kernel
theorem dX1_isColourRow_20 : decode cX1_isColourRow 20 = .ok (.ireturn, 1) := by decide +kernel
theorem dX1_isColourRow_21 : decode cX1_isColourRow 21 = .ok (.iload_n 1, 1) := by decide +kernel
theorem dX1_isColourRow_22 : decode cX1_isColourRow 22 = .ok (.iconst 3, 1) := by decide +kernel
theorem dX1_isColourRow_23 : decode cX1_isColourRow 23 = .ok (.ishr, 1) := by decide +kernel
theorem dX1_isColourRow_24 : decode cX1_isColourRow 24 = .ok (.istore_n 1, 1) := by decide +kernel
theorem dX1_isColourRow_25 : decode cX1_isColourRow 25 = .ok (.iinc 2 1, 3) := by decide +kernel
theorem dX1_isColourRow_28 : decode cX1_isColourRow 28 = .ok (.goto (-24), 3) := by decide +kernel
theorem dX1_isColourRow_31 : decode cX1_isColourRow 31 = .ok (.iload_n 1, 1) := by decide +kernel
theorem dX1_isColourRow_32 : decode cX1_isColourRow 32 = .ok (.ifCond .ne 7, 3) := by decide +kernel
theorem dX1_isColourRow_35 : decode cX1_isColourRow 35 = .ok (.iconst 1, 1) := by decide +kernel
theorem dX1_isColourRow_36 : decode cX1_isColourRow 36 = .ok (.goto 4, 3) := by decide +kernel
theorem dX1_isColourRow_39 : decode cX1_isColourRow 39 = .ok (.iconst 0, 1) := by decide +kernel
theorem dX1_isColourRow_40 : decode cX1_isColourRow 40 = .ok (.ireturn, 1) := by decide +kernel
theorem dX1_takeFunnel_0 : decode cX1_takeFunnel 0 = .ok (.iload_n 1, 1) := by decide +kernel
theorem dX1_takeFunnel_1 : decode cX1_takeFunnel 1 = .ok (.invokestatic 46, 3) := by decide +kernel
theorem dX1_takeFunnel_4 : decode cX1_takeFunnel 4 = .ok (.ifCond .ne 5, 3) := by decide +kernel
theorem dX1_takeFunnel_7 : decode cX1_takeFunnel 7 = .ok (.iconst (-1), 1) := by decide +kernel
theorem dX1_takeFunnel_8 : decode cX1_takeFunnel 8 = .ok (.ireturn, 1) := by decide +kernel
theorem dX1_takeFunnel_9 : decode cX1_takeFunnel 9 = .ok (.iload_n 2, 1) := by decide +kernel
theorem dX1_takeFunnel_10 : decode cX1_takeFunnel 10 = .ok (.ifCond .eq 13, 3) := by decide +kernel
theorem dX1_takeFunnel_13 : decode cX1_takeFunnel 13 = .ok (.iload_n 2, 1) := by decide +kernel
theorem dX1_takeFunnel_14 : decode cX1_takeFunnel 14 = .ok (.invokestatic 49, 3) := by decide +kernel
theorem dX1_takeFunnel_17 : decode cX1_takeFunnel 17 = .ok (.ifCond .ne 6, 3) := by decide +kernel
theorem dX1_takeFunnel_20 : decode cX1_takeFunnel 20 = .ok (.bipush (-2), 2) := by decide +kernel
theorem dX1_takeFunnel_22 : decode cX1_takeFunnel 22 = .ok (.ireturn, 1) := by decide +kernel
theorem dX1_takeFunnel_23 : decode cX1_takeFunnel 23 = .ok (.iload_n 2, 1) := by decide +kernel
theorem dX1_takeFunnel_24 : decode cX1_takeFunnel 24 = .ok (.ifCond .ne 8, 3) := by decide +kernel
theorem dX1_takeFunnel_27 : decode cX1_takeFunnel 27 = .ok (.bipush (-6), 2) := by decide +kernel
theorem dX1_takeFunnel_29 : decode cX1_takeFunnel 29 = .ok (.goto 8, 3) := by decide +kernel
theorem dX1_takeFunnel_32 : decode cX1_takeFunnel 32 = .ok (.aload_n 0, 1) := by decide +kernel
theorem dX1_takeFunnel_33 : decode cX1_takeFunnel 33 = .ok (.iload_n 2, 1) := by decide +kernel
theorem dX1_takeFunnel_34 : decode cX1_takeFunnel 34 = .ok (.invokevirtual 52, 3) := by decide +kernel
theorem dX1_takeFunnel_37 : decode cX1_takeFunnel 37 = .ok (.istore_n 3, 1) := by decide +kernel
theorem dX1_takeFunnel_38 : decode cX1_takeFunnel 38 = .ok (.iload_n 3, 1) := by decide +kernel
theorem dX1_takeFunnel_39 : decode cX1_takeFunnel 39 = .ok (.bipush (-6), 2) := by decide +kernel
theorem dX1_takeFunnel_41 : decode cX1_takeFunnel 41 = .ok (.if_icmp .eq 11, 3) := by decide +kernel
theorem dX1_takeFunnel_44 : decode cX1_takeFunnel 44 = .ok (.iload_n 3, 1) := by decide +kernel
theorem dX1_takeFunnel_45 : decode cX1_takeFunnel 45 = .ok (.iload_n 1, 1) := by decide +kernel
theorem dX1_takeFunnel_46 : decode cX1_takeFunnel 46 = .ok (.if_icmp .eq 6, 3) := by decide +kernel
theorem dX1_takeFunnel_49 : decode cX1_takeFunnel 49 = .ok (.bipush (-5), 2) := by decide +kernel
theorem dX1_takeFunnel_51 : decode cX1_takeFunnel 51 = .ok (.ireturn, 1) := by decide +kernel
theorem dX1_takeFunnel_52 : decode cX1_takeFunnel 52 = .ok (.aload_n 0, 1) := by decide +kernel
theorem dX1_takeFunnel_53 : decode cX1_takeFunnel 53 = .ok (.iload_n 1, 1) := by decide +kernel
theorem dX1_takeFunnel_54 : decode cX1_takeFunnel 54 = .ok (.invokevirtual 55, 3) := by decide +kernel
theorem dX1_takeFunnel_57 : decode cX1_takeFunnel 57 = .ok (.istore 4, 2) := by decide +kernel
theorem dX1_takeFunnel_59 : decode cX1_takeFunnel 59 = .ok (.aload_n 0, 1) := by decide +kernel
theorem dX1_takeFunnel_60 : decode cX1_takeFunnel 60 = .ok (.bipush 15, 2) := by decide +kernel
theorem dX1_takeFunnel_62 : decode cX1_takeFunnel 62 = .ok (.iload_n 1, 1) := by decide +kernel
theorem dX1_takeFunnel_63 : decode cX1_takeFunnel 63 = .ok (.iadd, 1) := by decide +kernel
theorem dX1_takeFunnel_64 : decode cX1_takeFunnel 64 = .ok (.iload_n 2, 1) := by decide +kernel
theorem dX1_takeFunnel_65 : decode cX1_takeFunnel 65 = .ok (.invokevirtual 25, 3) := by decide +kernel
theorem dX1_takeFunnel_68 : decode cX1_takeFunnel 68 = .ok (.iload 4, 2) := by decide +kernel
theorem dX1_takeFunnel_70 : decode cX1_takeFunnel 70 = .ok (.ireturn, 1) := by decide +kernel
theorem dX1_fillFunnel_0 : decode cX1_fillFunnel 0 = .ok (.iload_n 1, 1) := by decide +kernel
theorem dX1_fillFunnel_1 : decode cX1_fillFunnel 1 = .ok (.invokestatic 49, 3) := by decide +kernel
theorem dX1_fillFunnel_4 : decode cX1_fillFunnel 4 = .ok (.ifCond .ne 5, 3) := by decide +kernel
theorem dX1_fillFunnel_7 : decode cX1_fillFunnel 7 = .ok (.iconst (-1), 1) := by decide +kernel
theorem dX1_fillFunnel_8 : decode cX1_fillFunnel 8 = .ok (.ireturn, 1) := by decide +kernel
theorem dX1_fillFunnel_9 : decode cX1_fillFunnel 9 = .ok (.iload_n 2, 1) := by decide +kernel
theorem dX1_fillFunnel_10 : decode cX1_fillFunnel 10 = .ok (.iconst 1, 1) := by decide +kernel
theorem dX1_fillFunnel_11 : decode cX1_fillFunnel 11 = .ok (.if_icmp .lt 10, 3) := by decide +kernel
theorem dX1_fillFunnel_14 : decode cX1_fillFunnel 14 = .ok (.iload_n 2, 1) := by decide +kernel
theorem dX1_fillFunnel_15 : decode cX1_fillFunnel 15 = .ok (.sipush 9999, 3) := by decide +kernel
theorem dX1_fillFunnel_18 : decode cX1_fillFunnel 18 = .ok (.if_icmp .le 6, 3) := by decide +kernel
theorem dX1_fillFunnel_21 : decode cX1_fillFunnel 21 = .ok (.bipush (-2), 2) := by decide +kernel
theorem dX1_fillFunnel_23 : decode cX1_fillFunnel 23 = .ok (.ireturn, 1) := by decide +kernel
theorem dX1_fillFunnel_24 : decode cX1_fillFunnel 24 = .ok (.sipush 9999, 3) := by decide +kernel
theorem dX1_fillFunnel_27 : decode cX1_fillFunnel 27 = .ok (.aload_n 0, 1) := by decide +kernel
theorem dX1_fillFunnel_28 : decode cX1_fillFunnel 28 = .ok (.iload_n 1, 1) := by decide +kernel
theorem dX1_fillFunnel_29 : decode cX1_fillFunnel 29 = .ok (.invokevirtual 58, 3) := by decide +kernel
theorem dX1_fillFunnel_32 : decode cX1_fillFunnel 32 = .ok (.iload_n 2, 1) := by decide +kernel
theorem dX1_fillFunnel_33 : decode cX1_fillFunnel 33 = .ok (.iadd, 1) := by decide +kernel
theorem dX1_fillFunnel_34 : decode cX1_fillFunnel 34 = .ok (.invokestatic 61, 3) := by decide +kernel
theorem dX1_fillFunnel_37 : decode cX1_fillFunnel 37 = .ok (.istore_n 3, 1) := by decide +kernel
theorem dX1_fillFunnel_38 : decode cX1_fillFunnel 38 = .ok (.aload_n 0, 1) := by decide +kernel
theorem dX1_fillFunnel_39 : decode cX1_fillFunnel 39 = .ok (.bipush 8, 2) := by decide +kernel
theorem dX1_fillFunnel_41 : decode cX1_fillFunnel 41 = .ok (.iload_n 1, 1) := by decide +kernel
theorem dX1_fillFunnel_42 : decode cX1_fillFunnel 42 = .ok (.iadd, 1) := by decide +kernel
theorem dX1_fillFunnel_43 : decode cX1_fillFunnel 43 = .ok (.iload_n 3, 1) := by decide +kernel
theorem dX1_fillFunnel_44 : decode cX1_fillFunnel 44 = .ok (.invokevirtual 25, 3) := by decide +kernel
theorem dX1_fillFunnel_47 : decode cX1_fillFunnel 47 = .ok (.iload_n 3, 1) := by decide +kernel
theorem dX1_fillFunnel_48 : decode cX1_fillFunnel 48 = .ok (.ireturn, 1) := by decide +kernel
theorem dX1_pourGrains_0 : decode cX1_pourGrains 0 = .ok (.iload_n 1, 1) := by decide +kernel
theorem dX1_pourGrains_1 : decode cX1_pourGrains 1 = .ok (.iload_n 2, 1) := by decide +kernel
theorem dX1_pourGrains_2 : decode cX1_pourGrains 2 = .ok (.iload_n 3, 1) := by decide +kernel
theorem dX1_pourGrains_3 : decode cX1_pourGrains 3 = .ok (.invokestatic 67, 3) := by decide +kernel
theorem dX1_pourGrains_6 : decode cX1_pourGrains 6 = .ok (.ifCond .ne 5, 3) := by decide +kernel
theorem dX1_pourGrains_9 : decode cX1_pourGrains 9 = .ok (.iconst (-1), 1) := by decide +kernel
theorem dX1_pourGrains_10 : decode cX1_pourGrains 10 = .ok (.ireturn, 1) := by decide +kernel
theorem dX1_pourGrains_11 : decode cX1_pourGrains 11 = .ok (.iload 4, 2) := by decide +kernel
theorem dX1_pourGrains_13 : decode cX1_pourGrains 13 = .ok (.iconst 1, 1) := by decide +kernel
theorem dX1_pourGrains_14 : decode cX1_pourGrains 14 = .ok (.if_icmp .lt 10, 3) := by decide +kernel
theorem dX1_pourGrains_17 : decode cX1_pourGrains 17 = .ok (.iload 4, 2) := by decide +kernel
theorem dX1_pourGrains_19 : decode cX1_pourGrains 19 = .ok (.bipush 99, 2) := by decide +kernel
theorem dX1_pourGrains_21 : decode cX1_pourGrains 21 = .ok (.if_icmp .le 6, 3) := by decide +kernel
theorem dX1_pourGrains_24 : decode cX1_pourGrains 24 = .ok (.bipush (-2), 2) := by decide +kernel
theorem dX1_pourGrains_26 : decode cX1_pourGrains 26 = .ok (.ireturn, 1) := by decide +kernel
theorem dX1_pourGrains_27 : decode cX1_pourGrains 27 = .ok (.aload_n 0, 1) := by decide +kernel
theorem dX1_pourGrains_28 : decode cX1_pourGrains 28 = .ok (.iload_n 1, 1) := by decide +kernel
theorem dX1_pourGrains_29 : decode cX1_pourGrains 29 = .ok (.invokevirtual 55, 3) := by decide +kernel
theorem dX1_pourGrains_32 : decode cX1_pourGrains 32 = .ok (.istore 5, 2) := by decide +kernel
theorem dX1_pourGrains_34 : decode cX1_pourGrains 34 = .ok (.aload_n 0, 1) := by decide +kernel
theorem dX1_pourGrains_35 : decode cX1_pourGrains 35 = .ok (.iload_n 1, 1) := by decide +kernel
theorem dX1_pourGrains_36 : decode cX1_pourGrains 36 = .ok (.iload_n 2, 1) := by decide +kernel
theorem dX1_pourGrains_37 : decode cX1_pourGrains 37 = .ok (.iload_n 3, 1) := by decide +kernel
theorem dX1_pourGrains_38 : decode cX1_pourGrains 38 = .ok (.invokevirtual 71, 3) := by decide +kernel
theorem dX1_pourGrains_41 : decode cX1_pourGrains 41 = .ok (.istore 6, 2) := by decide +kernel
theorem dX1_pourGrains_43 : decode cX1_pourGrains 43 = .ok (.iload 5, 2) := by decide +kernel
theorem dX1_pourGrains_45 : decode cX1_pourGrains 45 = .ok (.ifCond .eq 11, 3) := by decide +kernel
theorem dX1_pourGrains_48 : decode cX1_pourGrains 48 = .ok (.aload_n 0, 1) := by decide +kernel
theorem dX1_pourGrains_49 : decode cX1_pourGrains 49 = .ok (.iload_n 2, 1) := by decide +kernel
theorem dX1_pourGrains_50 : decode cX1_pourGrains 50 = .ok (.invokevirtual 36, 3) := by decide +kernel
theorem dX1_pourGrains_53 : decode cX1_pourGrains 53 = .ok (.ifCond .eq 6, 3) := by decide +kernel
theorem dX1_pourGrains_56 : decode cX1_pourGrains 56 = .ok (.bipush (-5), 2) := by decide +kernel
theorem dX1_pourGrains_58 : decode cX1_pourGrains 58 = .ok (.ireturn, 1) := by decide +kernel
theorem dX1_pourGrains_59 : decode cX1_pourGrains 59 = .ok (.iload 6, 2) := by decide +kernel
theorem dX1_pourGrains_61 : decode cX1_pourGrains 61 = .ok (.ifCond .eq 13, 3) := by decide +kernel
theorem dX1_pourGrains_64 : decode cX1_pourGrains 64 = .ok (.iload 6, 2) := by decide +kernel
theorem dX1_pourGrains_66 : decode cX1_pourGrains 66 = .ok (.iload 5, 2) := by decide +kernel
theorem dX1_pourGrains_68 : decode cX1_pourGrains 68 = .ok (.if_icmp .eq 6, 3) := by decide +kernel
theorem dX1_pourGrains_71 : decode cX1_pourGrains 71 = .ok (.bipush (-5), 2) := by decide +kernel
theorem dX1_pourGrains_73 : decode cX1_pourGrains 73 = .ok (.ireturn, 1) := by decide +kernel
theorem dX1_pourGrains_74 : decode cX1_pourGrains 74 = .ok (.aload_n 0, 1) := by decide +kernel
theorem dX1_pourGrains_75 : decode cX1_pourGrains 75 = .ok (.iload 5, 2) := by decide +kernel
theorem dX1_pourGrains_77 : decode cX1_pourGrains 77 = .ok (.invokevirtual 58, 3) := by decide +kernel
theorem dX1_pourGrains_80 : decode cX1_pourGrains 80 = .ok (.iload 4, 2) := by decide +kernel
theorem dX1_pourGrains_82 : decode cX1_pourGrains 82 = .ok (.if_icmp .ge 6, 3) := by decide +kernel
theorem dX1_pourGrains_85 : decode cX1_pourGrains 85 = .ok (.bipush (-5), 2) := by decide +kernel
theorem dX1_pourGrains_87 : decode cX1_pourGrains 87 = .ok (.ireturn, 1) := by decide +kernel
theorem dX1_pourGrains_88 : decode cX1_pourGrains 88 = .ok (.aload_n 0, 1) := by decide +kernel
theorem dX1_pourGrains_89 : decode cX1_pourGrains 89 = .ok (.iload_n 1, 1) := by decide +kernel
theorem dX1_pourGrains_90 : decode cX1_pourGrains 90 = .ok (.iload_n 2, 1) := by decide +kernel
theorem dX1_pourGrains_91 : decode cX1_pourGrains 91 = .ok (.iload_n 3, 1) := by decide +kernel
theorem dX1_pourGrains_92 : decode cX1_pourGrains 92 = .ok (.invokevirtual 75, 3) := by decide +kernel
theorem dX1_pourGrains_95 : decode cX1_pourGrains 95 = .ok (.iload 4, 2) := by decide +kernel
theorem dX1_pourGrains_97 : decode cX1_pourGrains 97 = .ok (.iadd, 1) := by decide +kernel
theorem dX1_pourGrains_98 : decode cX1_pourGrains 98 = .ok (.istore 7, 2) := by decide +kernel
theorem dX1_pourGrains_100 : decode cX1_pourGrains 100 = .ok (.iload 7, 2) := by decide +kernel
theorem dX1_pourGrains_102 : decode cX1_pourGrains 102 = .ok (.bipush 99, 2) := by decide +kernel
theorem dX1_pourGrains_104 : decode cX1_pourGrains 104 = .ok (.if_icmp .le 6, 3) := by decide +kernel
theorem dX1_pourGrains_107 : decode cX1_pourGrains 107 = .ok (.bipush (-4), 2) := by decide +kernel
theorem dX1_pourGrains_109 : decode cX1_pourGrains 109 = .ok (.ireturn, 1) := by decide +kernel
theorem dX1_pourGrains_110 : decode cX1_pourGrains 110 = .ok (.aload_n 0, 1) := by decide +kernel
theorem dX1_pourGrains_111 : decode cX1_pourGrains 111 = .ok (.iload_n 1, 1) := by decide +kernel
theorem dX1_pourGrains_112 : decode cX1_pourGrains 112 = .ok (.iload_n 2, 1) := by decide +kernel
theorem dX1_pourGrains_113 : decode cX1_pourGrains 113 = .ok (.iload_n 3, 1) := by decide +kernel
theorem dX1_pourGrains_114 : decode cX1_pourGrains 114 = .ok (.iload 5, 2) := by decide +kernel
theorem dX1_pourGrains_116 : decode cX1_pourGrains 116 = .ok (.iload 7, 2) := by decide +kernel
theorem dX1_pourGrains_118 : decode cX1_pourGrains 118 = .ok (.invokevirtual 78, 3) := by decide +kernel
theorem dX1_pourGrains_121 : decode cX1_pourGrains 121 = .ok (.aload_n 0, 1) := by decide +kernel
theorem dX1_pourGrains_122 : decode cX1_pourGrains 122 = .ok (.bipush 8, 2) := by decide +kernel
theorem dX1_pourGrains_124 : decode cX1_pourGrains 124 = .ok (.iload 5, 2) := by decide +kernel
theorem dX1_pourGrains_126 : decode cX1_pourGrains 126 = .ok (.iadd, 1) := by decide +kernel
theorem dX1_pourGrains_127 : decode cX1_pourGrains 127 = .ok (.iload 4, 2) := by decide +kernel
theorem dX1_pourGrains_129 : decode cX1_pourGrains 129 = .ok (.ineg, 1) := by decide +kernel
theorem dX1_pourGrains_130 : decode cX1_pourGrains 130 = .ok (.invokevirtual 82, 3) := by decide +kernel
theorem dX1_pourGrains_133 : decode cX1_pourGrains 133 = .ok (.aload_n 0, 1) := by decide +kernel
theorem dX1_pourGrains_134 : decode cX1_pourGrains 134 = .ok (.bipush 22, 2) := by decide +kernel
theorem dX1_pourGrains_136 : decode cX1_pourGrains 136 = .ok (.iload 4, 2) := by decide +kernel
theorem dX1_pourGrains_138 : decode cX1_pourGrains 138 = .ok (.invokevirtual 82, 3) := by decide +kernel
theorem dX1_pourGrains_141 : decode cX1_pourGrains 141 = .ok (.iload 7, 2) := by decide +kernel
theorem dX1_pourGrains_143 : decode cX1_pourGrains 143 = .ok (.ireturn, 1) := by decide +kernel
theorem dX1_scrapeBare_0 : decode cX1_scrapeBare 0 = .ok (.iload_n 1, 1) := by decide +kernel
theorem dX1_scrapeBare_1 : decode cX1_scrapeBare 1 = .ok (.iload_n 2, 1) := by decide +kernel
theorem dX1_scrapeBare_2 : decode cX1_scrapeBare 2 = .ok (.iload_n 3, 1) := by decide +kernel
theorem dX1_scrapeBare_3 : decode cX1_scrapeBare 3 = .ok (.invokestatic 67, 3) := by decide +kernel
theorem dX1_scrapeBare_6 : decode cX1_scrapeBare 6 = .ok (.ifCond .ne 5, 3) := by decide +kernel
theorem dX1_scrapeBare_9 : decode cX1_scrapeBare 9 = .ok (.iconst (-1), 1) := by decide +kernel
theorem dX1_scrapeBare_10 : decode cX1_scrapeBare 10 = .ok (.ireturn, 1) := by decide +kernel
theorem dX1_scrapeBare_11 : decode cX1_scrapeBare 11 = .ok (.aload_n 0, 1) := by decide +kernel
theorem dX1_scrapeBare_12 : decode cX1_scrapeBare 12 = .ok (.iload_n 1, 1) := by decide +kernel
theorem dX1_scrapeBare_13 : decode cX1_scrapeBare 13 = .ok (.iload_n 2, 1) := by decide +kernel
theorem dX1_scrapeBare_14 : decode cX1_scrapeBare 14 = .ok (.iload_n 3, 1) := by decide +kernel
theorem dX1_scrapeBare_15 : decode cX1_scrapeBare 15 = .ok (.invokevirtual 75, 3) := by decide +kernel
theorem dX1_scrapeBare_18 : decode cX1_scrapeBare 18 = .ok (.istore 4, 2) := by decide +kernel
theorem dX1_scrapeBare_20 : decode cX1_scrapeBare 20 = .ok (.aload_n 0, 1) := by decide +kernel
theorem dX1_scrapeBare_21 : decode cX1_scrapeBare 21 = .ok (.iload_n 2, 1) := by decide +kernel
theorem dX1_scrapeBare_22 : decode cX1_scrapeBare 22 = .ok (.invokevirtual 36, 3) := by decide +kernel
theorem dX1_scrapeBare_25 : decode cX1_scrapeBare 25 = .ok (.ifCond .ne 8, 3) := by decide +kernel
theorem dX1_scrapeBare_28 : decode cX1_scrapeBare 28 = .ok (.iload 4, 2) := by decide +kernel
theorem dX1_scrapeBare_30 : decode cX1_scrapeBare 30 = .ok (.ifCond .ne 6, 3) := by decide +kernel
theorem dX1_scrapeBare_33 : decode cX1_scrapeBare 33 = .ok (.bipush (-5), 2) := by decide +kernel
theorem dX1_scrapeBare_35 : decode cX1_scrapeBare 35 = .ok (.ireturn, 1) := by decide +kernel
theorem dX1_scrapeBare_36 : decode cX1_scrapeBare 36 = .ok (.aload_n 0, 1) := by decide +kernel
theorem dX1_scrapeBare_37 : decode cX1_scrapeBare 37 = .ok (.iload_n 1, 1) := by decide +kernel
theorem dX1_scrapeBare_38 : decode cX1_scrapeBare 38 = .ok (.iload_n 2, 1) := by decide +kernel
theorem dX1_scrapeBare_39 : decode cX1_scrapeBare 39 = .ok (.iload_n 3, 1) := by decide +kernel
theorem dX1_scrapeBare_40 : decode cX1_scrapeBare 40 = .ok (.iconst 0, 1) := by decide +kernel
theorem dX1_scrapeBare_41 : decode cX1_scrapeBare 41 = .ok (.iconst 0, 1) := by decide +kernel
theorem dX1_scrapeBare_42 : decode cX1_scrapeBare 42 = .ok (.invokevirtual 78, 3) := by decide +kernel
theorem dX1_scrapeBare_45 : decode cX1_scrapeBare 45 = .ok (.aload_n 0, 1) := by decide +kernel
theorem dX1_scrapeBare_46 : decode cX1_scrapeBare 46 = .ok (.bipush 23, 2) := by decide +kernel
theorem dX1_scrapeBare_48 : decode cX1_scrapeBare 48 = .ok (.iload 4, 2) := by decide +kernel
theorem dX1_scrapeBare_50 : decode cX1_scrapeBare 50 = .ok (.invokevirtual 82, 3) := by decide +kernel
theorem dX1_scrapeBare_53 : decode cX1_scrapeBare 53 = .ok (.iload 4, 2) := by decide +kernel
theorem dX1_scrapeBare_55 : decode cX1_scrapeBare 55 = .ok (.ireturn, 1) := by decide +kernel
theorem dX1_blow_0 : decode cX1_blow 0 = .ok (.iload_n 2, 1) := by decide +kernel
theorem dX1_blow_1 : decode cX1_blow 1 = .ok (.invokestatic 46, 3) := by decide +kernel
theorem dX1_blow_4 : decode cX1_blow 4 = .ok (.ifCond .ne 5, 3) := by decide +kernel
theorem dX1_blow_7 : decode cX1_blow 7 = .ok (.iconst (-1), 1) := by decide +kernel
theorem dX1_blow_8 : decode cX1_blow 8 = .ok (.ireturn, 1) := by decide +kernel
theorem dX1_blow_9 : decode cX1_blow 9 = .ok (.iload_n 3, 1) := by decide +kernel
theorem dX1_blow_10 : decode cX1_blow 10 = .ok (.invokestatic 85, 3) := by decide +kernel
theorem dX1_blow_13 : decode cX1_blow 13 = .ok (.ifCond .ne 6, 3) := by decide +kernel
theorem dX1_blow_16 : decode cX1_blow 16 = .ok (.bipush (-2), 2) := by decide +kernel
theorem dX1_blow_18 : decode cX1_blow 18 = .ok (.ireturn, 1) := by decide +kernel
theorem dX1_blow_19 : decode cX1_blow 19 = .ok (.aload_n 1, 1) := by decide +kernel
theorem dX1_blow_20 : decode cX1_blow 20 = .ok (.aload_n 0, 1) := by decide +kernel
theorem dX1_blow_21 : decode cX1_blow 21 = .ok (.iload_n 2, 1) := by decide +kernel
theorem dX1_blow_22 : decode cX1_blow 22 = .ok (.iload_n 3, 1) := by decide +kernel
theorem dX1_blow_23 : decode cX1_blow 23 = .ok (.invokevirtual 88, 3) := by decide +kernel
theorem dX1_blow_26 : decode cX1_blow 26 = .ok (.istore 4, 2) := by decide +kernel
theorem dX1_blow_28 : decode cX1_blow 28 = .ok (.aload_n 0, 1) := by decide +kernel
theorem dX1_blow_29 : decode cX1_blow 29 = .ok (.bipush 23, 2) := by decide +kernel
theorem dX1_blow_31 : decode cX1_blow 31 = .ok (.iload 4, 2) := by decide +kernel
theorem dX1_blow_33 : decode cX1_blow 33 = .ok (.invokevirtual 82, 3) := by decide +kernel
theorem dX1_blow_36 : decode cX1_blow 36 = .ok (.iload 4, 2) := by decide +kernel
theorem dX1_blow_38 : decode cX1_blow 38 = .ok (.ireturn, 1) := by decide +kernel
theorem dX1_closeRing_0 : decode cX1_closeRing 0 = .ok (.aload_n 0, 1) := by decide +kernel
theorem dX1_closeRing_1 : decode cX1_closeRing 1 = .ok (.bipush 19, 2) := by decide +kernel
theorem dX1_closeRing_3 : decode cX1_closeRing 3 = .ok (.invokevirtual 94, 3) := by decide +kernel
theorem dX1_closeRing_6 : decode cX1_closeRing 6 = .ok (.istore_n 1, 1) := by decide +kernel
theorem dX1_closeRing_7 : decode cX1_closeRing 7 = .ok (.iload_n 1, 1) := by decide +kernel
theorem dX1_closeRing_8 : decode cX1_closeRing 8 = .ok (.iconst 5, 1) := by decide +kernel
theorem dX1_closeRing_9 : decode cX1_closeRing 9 = .ok (.if_icmp .ge 11, 3) := by decide +kernel
theorem dX1_closeRing_12 : decode cX1_closeRing 12 = .ok (.aload_n 0, 1) := by decide +kernel
theorem dX1_closeRing_13 : decode cX1_closeRing 13 = .ok (.iload_n 1, 1) := by decide +kernel
theorem dX1_closeRing_14 : decode cX1_closeRing 14 = .ok (.invokestatic 97, 3) := by decide +kernel
theorem dX1_closeRing_17 : decode cX1_closeRing 17 = .ok (.ifCond .ne 6, 3) := by decide +kernel
theorem dX1_closeRing_20 : decode cX1_closeRing 20 = .ok (.bipush (-5), 2) := by decide +kernel
theorem dX1_closeRing_22 : decode cX1_closeRing 22 = .ok (.ireturn, 1) := by decide +kernel
theorem dX1_closeRing_23 : decode cX1_closeRing 23 = .ok (.aload_n 0, 1) := by decide +kernel
theorem dX1_closeRing_24 : decode cX1_closeRing 24 = .ok (.bipush 19, 2) := by decide +kernel
theorem dX1_closeRing_26 : decode cX1_closeRing 26 = .ok (.iload_n 1, 1) := by decide +kernel
theorem dX1_closeRing_27 : decode cX1_closeRing 27 = .ok (.iconst 1, 1) := by decide +kernel
theorem dX1_closeRing_28 : decode cX1_closeRing 28 = .ok (.iadd, 1) := by decide +kernel
theorem dX1_closeRing_29 : decode cX1_closeRing 29 = .ok (.invokevirtual 25, 3) := by decide +kernel
theorem dX1_closeRing_32 : decode cX1_closeRing 32 = .ok (.iload_n 1, 1) := by decide +kernel
theorem dX1_closeRing_33 : decode cX1_closeRing 33 = .ok (.ireturn, 1) := by decide +kernel
theorem dX1_sweepQuarter_0 : decode cX1_sweepQuarter 0 = .ok (.aload_n 0, 1) := by decide +kernel
theorem dX1_sweepQuarter_1 : decode cX1_sweepQuarter 1 = .ok (.bipush 19, 2) := by decide +kernel
theorem dX1_sweepQuarter_3 : decode cX1_sweepQuarter 3 = .ok (.invokevirtual 94, 3) := by decide +kernel
theorem dX1_sweepQuarter_6 : decode cX1_sweepQuarter 6 = .ok (.iconst 5, 1) := by decide +kernel
theorem dX1_sweepQuarter_7 : decode cX1_sweepQuarter 7 = .ok (.if_icmp .ge 6, 3) := by decide +kernel
theorem dX1_sweepQuarter_10 : decode cX1_sweepQuarter 10 = .ok (.bipush (-5), 2) := by decide +kernel
theorem dX1_sweepQuarter_12 : decode cX1_sweepQuarter 12 = .ok (.ireturn, 1) := by decide +kernel
theorem dX1_sweepQuarter_13 : decode cX1_sweepQuarter 13 = .ok (.aload_n 0, 1) := by decide +kernel
theorem dX1_sweepQuarter_14 : decode cX1_sweepQuarter 14 = .ok (.bipush 20, 2) := by decide +kernel
theorem dX1_sweepQuarter_16 : decode cX1_sweepQuarter 16 = .ok (.invokevirtual 94, 3) := by decide +kernel
theorem dX1_sweepQuarter_19 : decode cX1_sweepQuarter 19 = .ok (.istore_n 1, 1) := by decide +kernel
theorem dX1_sweepQuarter_20 : decode cX1_sweepQuarter 20 = .ok (.iload_n 1, 1) := by decide +kernel
theorem dX1_sweepQuarter_21 : decode cX1_sweepQuarter 21 = .ok (.invokestatic 103, 3) := by decide +kernel
theorem dX1_sweepQuarter_24 : decode cX1_sweepQuarter 24 = .ok (.istore_n 2, 1) := by decide +kernel
theorem dX1_sweepQuarter_25 : decode cX1_sweepQuarter 25 = .ok (.iconst 0, 1) := by decide +kernel
theorem dX1_sweepQuarter_26 : decode cX1_sweepQuarter 26 = .ok (.istore_n 3, 1) := by decide +kernel
theorem dX1_sweepQuarter_27 : decode cX1_sweepQuarter 27 = .ok (.iload_n 3, 1) := by decide +kernel
theorem dX1_sweepQuarter_28 : decode cX1_sweepQuarter 28 = .ok (.iconst 5, 1) := by decide +kernel
theorem dX1_sweepQuarter_29 : decode cX1_sweepQuarter 29 = .ok (.if_icmp .ge 49, 3) := by decide +kernel
theorem dX1_sweepQuarter_32 : decode cX1_sweepQuarter 32 = .ok (.iconst 0, 1) := by decide +kernel
theorem dX1_sweepQuarter_33 : decode cX1_sweepQuarter 33 = .ok (.istore 4, 2) := by decide +kernel
theorem dX1_sweepQuarter_35 : decode cX1_sweepQuarter 35 = .ok (.iload 4, 2) := by decide +kernel
theorem dX1_sweepQuarter_37 : decode cX1_sweepQuarter 37 = .ok (.bipush 8, 2) := by decide +kernel
theorem dX1_sweepQuarter_39 : decode cX1_sweepQuarter 39 = .ok (.if_icmp .ge 33, 3) := by decide +kernel
theorem dX1_sweepQuarter_42 : decode cX1_sweepQuarter 42 = .ok (.aload_n 0, 1) := by decide +kernel
theorem dX1_sweepQuarter_43 : decode cX1_sweepQuarter 43 = .ok (.bipush 23, 2) := by decide +kernel
theorem dX1_sweepQuarter_45 : decode cX1_sweepQuarter 45 = .ok (.aload_n 0, 1) := by decide +kernel
theorem dX1_sweepQuarter_46 : decode cX1_sweepQuarter 46 = .ok (.iload_n 2, 1) := by decide +kernel
theorem dX1_sweepQuarter_47 : decode cX1_sweepQuarter 47 = .ok (.iload_n 3, 1) := by decide +kernel
theorem dX1_sweepQuarter_48 : decode cX1_sweepQuarter 48 = .ok (.iload 4, 2) := by decide +kernel
theorem dX1_sweepQuarter_50 : decode cX1_sweepQuarter 50 = .ok (.invokevirtual 75, 3) := by decide +kernel
theorem dX1_sweepQuarter_53 : decode cX1_sweepQuarter 53 = .ok (.invokevirtual 82, 3) := by decide +kernel
theorem dX1_sweepQuarter_56 : decode cX1_sweepQuarter 56 = .ok (.aload_n 0, 1) := by decide +kernel
theorem dX1_sweepQuarter_57 : decode cX1_sweepQuarter 57 = .ok (.iload_n 2, 1) := by decide +kernel
theorem dX1_sweepQuarter_58 : decode cX1_sweepQuarter 58 = .ok (.iload_n 3, 1) := by decide +kernel
theorem dX1_sweepQuarter_59 : decode cX1_sweepQuarter 59 = .ok (.iload 4, 2) := by decide +kernel
theorem dX1_sweepQuarter_61 : decode cX1_sweepQuarter 61 = .ok (.iconst 0, 1) := by decide +kernel
theorem dX1_sweepQuarter_62 : decode cX1_sweepQuarter 62 = .ok (.iconst 0, 1) := by decide +kernel
theorem dX1_sweepQuarter_63 : decode cX1_sweepQuarter 63 = .ok (.invokevirtual 78, 3) := by decide +kernel
theorem dX1_sweepQuarter_66 : decode cX1_sweepQuarter 66 = .ok (.iinc 4 1, 3) := by decide +kernel
theorem dX1_sweepQuarter_69 : decode cX1_sweepQuarter 69 = .ok (.goto (-34), 3) := by decide +kernel
theorem dX1_sweepQuarter_72 : decode cX1_sweepQuarter 72 = .ok (.iinc 3 1, 3) := by decide +kernel
theorem dX1_sweepQuarter_75 : decode cX1_sweepQuarter 75 = .ok (.goto (-48), 3) := by decide +kernel
theorem dX1_sweepQuarter_78 : decode cX1_sweepQuarter 78 = .ok (.aload_n 0, 1) := by decide +kernel
theorem dX1_sweepQuarter_79 : decode cX1_sweepQuarter 79 = .ok (.bipush 20, 2) := by decide +kernel
theorem dX1_sweepQuarter_81 : decode cX1_sweepQuarter 81 = .ok (.iload_n 1, 1) := by decide +kernel
theorem dX1_sweepQuarter_82 : decode cX1_sweepQuarter 82 = .ok (.iconst 1, 1) := by decide +kernel
theorem dX1_sweepQuarter_83 : decode cX1_sweepQuarter 83 = .ok (.iadd, 1) := by decide +kernel
theorem dX1_sweepQuarter_84 : decode cX1_sweepQuarter 84 = .ok (.invokevirtual 25, 3) := by decide +kernel
theorem dX1_sweepQuarter_87 : decode cX1_sweepQuarter 87 = .ok (.iload_n 1, 1) := by decide +kernel
theorem dX1_sweepQuarter_88 : decode cX1_sweepQuarter 88 = .ok (.iconst 1, 1) := by decide +kernel
theorem dX1_sweepQuarter_89 : decode cX1_sweepQuarter 89 = .ok (.iadd, 1) := by decide +kernel
theorem dX1_sweepQuarter_90 : decode cX1_sweepQuarter 90 = .ok (.iconst 4, 1) := by decide +kernel
theorem dX1_sweepQuarter_91 : decode cX1_sweepQuarter 91 = .ok (.if_icmp .lt 7, 3) := by decide +kernel
theorem dX1_sweepQuarter_94 : decode cX1_sweepQuarter 94 = .ok (.aload_n 0, 1) := by decide +kernel
theorem dX1_sweepQuarter_95 : decode cX1_sweepQuarter 95 = .ok (.invokestatic 106, 3) := by decide +kernel
theorem dX1_sweepQuarter_98 : decode cX1_sweepQuarter 98 = .ok (.iload_n 2, 1) := by decide +kernel
theorem dX1_sweepQuarter_99 : decode cX1_sweepQuarter 99 = .ok (.ireturn, 1) := by decide +kernel
theorem dX1_beginAnew_0 : decode cX1_beginAnew 0 = .ok (.aload_n 0, 1) := by decide +kernel
theorem dX1_beginAnew_1 : decode cX1_beginAnew 1 = .ok (.bipush 20, 2) := by decide +kernel
theorem dX1_beginAnew_3 : decode cX1_beginAnew 3 = .ok (.iconst 0, 1) := by decide +kernel
theorem dX1_beginAnew_4 : decode cX1_beginAnew 4 = .ok (.invokevirtual 25, 3) := by decide +kernel
theorem dX1_beginAnew_7 : decode cX1_beginAnew 7 = .ok (.aload_n 0, 1) := by decide +kernel
theorem dX1_beginAnew_8 : decode cX1_beginAnew 8 = .ok (.bipush 19, 2) := by decide +kernel
theorem dX1_beginAnew_10 : decode cX1_beginAnew 10 = .ok (.iconst 0, 1) := by decide +kernel
theorem dX1_beginAnew_11 : decode cX1_beginAnew 11 = .ok (.invokevirtual 25, 3) := by decide +kernel
theorem dX1_beginAnew_14 : decode cX1_beginAnew 14 = .ok (.aload_n 0, 1) := by decide +kernel
theorem dX1_beginAnew_15 : decode cX1_beginAnew 15 = .ok (.invokevirtual 110, 3) := by decide +kernel
theorem dX1_beginAnew_18 : decode cX1_beginAnew 18 = .ok (.aload_n 0, 1) := by decide +kernel
theorem dX1_beginAnew_19 : decode cX1_beginAnew 19 = .ok (.bipush 21, 2) := by decide +kernel
theorem dX1_beginAnew_21 : decode cX1_beginAnew 21 = .ok (.iconst 1, 1) := by decide +kernel
theorem dX1_beginAnew_22 : decode cX1_beginAnew 22 = .ok (.invokevirtual 82, 3) := by decide +kernel
theorem dX1_beginAnew_25 : decode cX1_beginAnew 25 = .ok (.return_, 1) := by decide +kernel
theorem dX2_init_0 : decode cX2_init 0 = .ok (.aload_n 0, 1) := by decide +kernel
theorem dX2_init_1 : decode cX2_init 1 = .ok (.invokespecial 5, 3) := by decide +kernel
theorem dX2_init_4 : decode cX2_init 4 = .ok (.aload_n 0, 1) := by decide +kernel
theorem dX2_init_5 : decode cX2_init 5 = .ok (.sipush 3096, 3) := by decide +kernel
theorem dX2_init_8 : decode cX2_init 8 = .ok (.newarray .int, 2) := by decide +kernel
theorem dX2_init_10 : decode cX2_init 10 = .ok (.putfield 13, 3) := by decide +kernel
theorem dX2_init_13 : decode cX2_init 13 = .ok (.return_, 1) := by decide +kernel
theorem dX2_undoable_0 : decode cX2_undoable 0 = .ok (.aload_n 0, 1) := by decide +kernel
theorem dX2_undoable_1 : decode cX2_undoable 1 = .ok (.getfield 17, 3) := by decide +kernel
theorem dX2_undoable_4 : decode cX2_undoable 4 = .ok (.ireturn, 1) := by decide +kernel
theorem dX2_stage_0 : decode cX2_stage 0 = .ok (.aload_n 1, 1) := by decide +kernel
theorem dX2_stage_1 : decode cX2_stage 1 = .ok (.aload_n 0, 1) := by decide +kernel
theorem dX2_stage_2 : decode cX2_stage 2 = .ok (.getfield 13, 3) := by decide +kernel
theorem dX2_stage_5 : decode cX2_stage 5 = .ok (.aload_n 0, 1) := by decide +kernel
theorem dX2_stage_6 : decode cX2_stage 6 = .ok (.aload_n 0, 1) := by decide +kernel
theorem dX2_stage_7 : decode cX2_stage 7 = .ok (.getfield 17, 3) := by decide +kernel
theorem dX2_stage_10 : decode cX2_stage 10 = .ok (.invokevirtual 21, 3) := by decide +kernel
theorem dX2_stage_13 : decode cX2_stage 13 = .ok (.invokevirtual 25, 3) := by decide +kernel
theorem dX2_stage_16 : decode cX2_stage 16 = .ok (.return_, 1) := by decide +kernel
theorem dX2_recordUnlessError_0 : decode cX2_recordUnlessError 0 = .ok (.iload_n 1, 1) := by decide +kernel
theorem dX2_recordUnlessError_1 : decode cX2_recordUnlessError 1 = .ok (.ifCond .ge 5, 3) := by decide +kernel
theorem dX2_recordUnlessError_4 : decode cX2_recordUnlessError 4 = .ok (.iload_n 1, 1) := by decide +kernel
theorem dX2_recordUnlessError_5 : decode cX2_recordUnlessError 5 = .ok (.ireturn, 1) := by decide +kernel
theorem dX2_recordUnlessError_6 : decode cX2_recordUnlessError 6 = .ok (.aload_n 0, 1) := by decide +kernel
theorem dX2_recordUnlessError_7 : decode cX2_recordUnlessError 7 = .ok (.getfield 17, 3) := by decide +kernel
theorem dX2_recordUnlessError_10 : decode cX2_recordUnlessError 10 = .ok (.bipush 6, 2) := by decide +kernel
theorem dX2_recordUnlessError_12 : decode cX2_recordUnlessError 12 = .ok (.if_icmp .ge 16, 3) := by decide +kernel
theorem dX2_recordUnlessError_15 : decode cX2_recordUnlessError 15 = .ok (.aload_n 0, 1) := by decide +kernel
theorem dX2_recordUnlessError_16 : decode cX2_recordUnlessError 16 = .ok (.dup, 1) := by decide +kernel
theorem dX2_recordUnlessError_17 : decode cX2_recordUnlessError 17 = .ok (.getfield 17, 3) := by decide +kernel
theorem dX2_recordUnlessError_20 : decode cX2_recordUnlessError 20 = .ok (.iconst 1, 1) := by decide +kernel
theorem dX2_recordUnlessError_21 : decode cX2_recordUnlessError 21 = .ok (.iadd, 1) := by decide +kernel
theorem dX2_recordUnlessError_22 : decode cX2_recordUnlessError 22 = .ok (.putfield 17, 3) := by decide +kernel
theorem dX2_recordUnlessError_25 : decode cX2_recordUnlessError 25 = .ok (.goto 16, 3) := by decide +kernel
theorem dX2_recordUnlessError_28 : decode cX2_recordUnlessError 28 = .ok (.aload_n 0, 1) := by decide +kernel
theorem dX2_recordUnlessError_29 : decode cX2_recordUnlessError 29 = .ok (.aload_n 0, 1) := by decide +kernel
theorem dX2_recordUnlessError_30 : decode cX2_recordUnlessError 30 = .ok (.getfield 29, 3) := by decide +kernel
theorem dX2_recordUnlessError_33 : decode cX2_recordUnlessError 33 = .ok (.iconst 1, 1) := by decide +kernel
theorem dX2_recordUnlessError_34 : decode cX2_recordUnlessError 34 = .ok (.iadd, 1) := by decide +kernel
theorem dX2_recordUnlessError_35 : decode cX2_recordUnlessError 35 = .ok (.bipush 7, 2) := by decide +kernel
theorem dX2_recordUnlessError_37 : decode cX2_recordUnlessError 37 = .ok (.irem, 1) := by decide +kernel
theorem dX2_recordUnlessError_38 : decode cX2_recordUnlessError 38 = .ok (.putfield 29, 3) := by decide +kernel
theorem dX2_recordUnlessError_41 : decode cX2_recordUnlessError 41 = .ok (.iload_n 1, 1) := by decide +kernel
theorem dX2_recordUnlessError_42 : decode cX2_recordUnlessError 42 = .ok (.ireturn, 1) := by decide +kernel
theorem dX2_goBack_0 : decode cX2_goBack 0 = .ok (.aload_n 0, 1) := by decide +kernel
theorem dX2_goBack_1 : decode cX2_goBack 1 = .ok (.getfield 17, 3) := by decide +kernel
theorem dX2_goBack_4 : decode cX2_goBack 4 = .ok (.ifCond .ne 6, 3) := by decide +kernel
theorem dX2_goBack_7 : decode cX2_goBack 7 = .ok (.bipush (-5), 2) := by decide +kernel
theorem dX2_goBack_9 : decode cX2_goBack 9 = .ok (.ireturn, 1) := by decide +kernel
theorem dX2_goBack_10 : decode cX2_goBack 10 = .ok (.aload_n 0, 1) := by decide +kernel
theorem dX2_goBack_11 : decode cX2_goBack 11 = .ok (.dup, 1) := by decide +kernel
theorem dX2_goBack_12 : decode cX2_goBack 12 = .ok (.getfield 17, 3) := by decide +kernel
theorem dX2_goBack_15 : decode cX2_goBack 15 = .ok (.iconst 1, 1) := by decide +kernel
theorem dX2_goBack_16 : decode cX2_goBack 16 = .ok (.isub, 1) := by decide +kernel
theorem dX2_goBack_17 : decode cX2_goBack 17 = .ok (.putfield 17, 3) := by decide +kernel
theorem dX2_goBack_20 : decode cX2_goBack 20 = .ok (.aload_n 1, 1) := by decide +kernel
theorem dX2_goBack_21 : decode cX2_goBack 21 = .ok (.aload_n 0, 1) := by decide +kernel
theorem dX2_goBack_22 : decode cX2_goBack 22 = .ok (.getfield 13, 3) := by decide +kernel
theorem dX2_goBack_25 : decode cX2_goBack 25 = .ok (.aload_n 0, 1) := by decide +kernel
theorem dX2_goBack_26 : decode cX2_goBack 26 = .ok (.aload_n 0, 1) := by decide +kernel
theorem dX2_goBack_27 : decode cX2_goBack 27 = .ok (.getfield 17, 3) := by decide +kernel
theorem dX2_goBack_30 : decode cX2_goBack 30 = .ok (.invokevirtual 21, 3) := by decide +kernel
theorem dX2_goBack_33 : decode cX2_goBack 33 = .ok (.invokevirtual 32, 3) := by decide +kernel
theorem dX2_goBack_36 : decode cX2_goBack 36 = .ok (.aload_n 0, 1) := by decide +kernel
theorem dX2_goBack_37 : decode cX2_goBack 37 = .ok (.getfield 17, 3) := by decide +kernel
theorem dX2_goBack_40 : decode cX2_goBack 40 = .ok (.ireturn, 1) := by decide +kernel
theorem dX2_circleRow_0 : decode cX2_circleRow 0 = .ok (.aload_n 0, 1) := by decide +kernel
theorem dX2_circleRow_1 : decode cX2_circleRow 1 = .ok (.getfield 29, 3) := by decide +kernel
theorem dX2_circleRow_4 : decode cX2_circleRow 4 = .ok (.iload_n 1, 1) := by decide +kernel
theorem dX2_circleRow_5 : decode cX2_circleRow 5 = .ok (.iadd, 1) := by decide +kernel
theorem dX2_circleRow_6 : decode cX2_circleRow 6 = .ok (.bipush 7, 2) := by decide +kernel
theorem dX2_circleRow_8 : decode cX2_circleRow 8 = .ok (.irem, 1) := by decide +kernel
theorem dX2_circleRow_9 : decode cX2_circleRow 9 = .ok (.sipush 344, 3) := by decide +kernel
theorem dX2_circleRow_12 : decode cX2_circleRow 12 = .ok (.imul, 1) := by decide +kernel
theorem dX2_circleRow_13 : decode cX2_circleRow 13 = .ok (.ireturn, 1) := by decide +kernel
theorem dX2_isSlot_0 : decode cX2_isSlot 0 = .ok (.iload_n 0, 1) := by decide +kernel
theorem dX2_isSlot_1 : decode cX2_isSlot 1 = .ok (.ifCond .lt 12, 3) := by decide +kernel
theorem dX2_isSlot_4 : decode cX2_isSlot 4 = .ok (.iload_n 0, 1) := by decide +kernel
theorem dX2_isSlot_5 : decode cX2_isSlot 5 = .ok (.iconst 2, 1) := by decide +kernel
theorem dX2_isSlot_6 : decode cX2_isSlot 6 = .ok (.if_icmp .ge 7, 3) := by decide +kernel
theorem dX2_isSlot_9 : decode cX2_isSlot 9 = .ok (.iconst 1, 1) := by decide +kernel
theorem dX2_isSlot_10 : decode cX2_isSlot 10 = .ok (.goto 4, 3) := by decide +kernel
theorem dX2_isSlot_13 : decode cX2_isSlot 13 = .ok (.iconst 0, 1) := by decide +kernel
theorem dX2_isSlot_14 : decode cX2_isSlot 14 = .ok (.ireturn, 1) := by decide +kernel
theorem dX2_isSaved_0 : decode cX2_isSaved 0 = .ok (.aload_n 0, 1) := by decide +kernel
theorem dX2_isSaved_1 : decode cX2_isSaved 1 = .ok (.getfield 35, 3) := by decide +kernel
theorem dX2_isSaved_4 : decode cX2_isSaved 4 = .ok (.iload_n 1, 1) := by decide +kernel
theorem dX2_isSaved_5 : decode cX2_isSaved 5 = .ok (.ishr, 1) := by decide +kernel
theorem dX2_isSaved_6 : decode cX2_isSaved 6 = .ok (.iconst 1, 1) := by decide +kernel
theorem dX2_isSaved_7 : decode cX2_isSaved 7 = .ok (.iand, 1) := by decide +kernel
theorem dX2_isSaved_8 : decode cX2_isSaved 8 = .ok (.iconst 1, 1) := by decide +kernel
theorem dX2_isSaved_9 : decode cX2_isSaved 9 = .ok (.if_icmp .ne 7, 3) := by decide +kernel
theorem dX2_isSaved_12 : decode cX2_isSaved 12 = .ok (.iconst 1, 1) := by decide +kernel
theorem dX2_isSaved_13 : decode cX2_isSaved 13 = .ok (.goto 4, 3) := by decide +kernel
theorem dX2_isSaved_16 : decode cX2_isSaved 16 = .ok (.iconst 0, 1) := by decide +kernel
theorem dX2_isSaved_17 : decode cX2_isSaved 17 = .ok (.ireturn, 1) := by decide +kernel
theorem dX2_keepInSlot_0 : decode cX2_keepInSlot 0 = .ok (.aload_n 2, 1) := by decide +kernel
theorem dX2_keepInSlot_1 : decode cX2_keepInSlot 1 = .ok (.aload_n 0, 1) := by decide +kernel
theorem dX2_keepInSlot_2 : decode cX2_keepInSlot 2 = .ok (.getfield 13, 3) := by decide +kernel
theorem dX2_keepInSlot_5 : decode cX2_keepInSlot 5 = .ok (.iload_n 1, 1) := by decide +kernel
theorem dX2_keepInSlot_6 : decode cX2_keepInSlot 6 = .ok (.invokestatic 38, 3) := by decide +kernel
theorem dX2_keepInSlot_9 : decode cX2_keepInSlot 9 = .ok (.invokevirtual 25, 3) := by decide +kernel
theorem dX2_keepInSlot_12 : decode cX2_keepInSlot 12 = .ok (.aload_n 0, 1) := by decide +kernel
theorem dX2_keepInSlot_13 : decode cX2_keepInSlot 13 = .ok (.dup, 1) := by decide +kernel
theorem dX2_keepInSlot_14 : decode cX2_keepInSlot 14 = .ok (.getfield 35, 3) := by decide +kernel
theorem dX2_keepInSlot_17 : decode cX2_keepInSlot 17 = .ok (.iconst 1, 1) := by decide +kernel
theorem dX2_keepInSlot_18 : decode cX2_keepInSlot 18 = .ok (.iload_n 1, 1) := by decide +kernel
theorem dX2_keepInSlot_19 : decode cX2_keepInSlot 19 = .ok (.ishl, 1) := by decide +kernel
theorem dX2_keepInSlot_20 : decode cX2_keepInSlot 20 = .ok (.ior, 1) := by decide +kernel
theorem dX2_keepInSlot_21 : decode cX2_keepInSlot 21 = .ok (.putfield 35, 3) := by decide +kernel
theorem dX2_keepInSlot_24 : decode cX2_keepInSlot 24 = .ok (.return_, 1) := by decide +kernel
theorem dX2_bringFromSlot_0 : decode cX2_bringFromSlot 0 = .ok (.aload_n 2, 1) := by decide +kernel
theorem dX2_bringFromSlot_1 : decode cX2_bringFromSlot 1 = .ok (.aload_n 0, 1) := by decide +kernel
theorem dX2_bringFromSlot_2 : decode cX2_bringFromSlot 2 = .ok (.getfield 13, 3) := by decide +kernel
theorem dX2_bringFromSlot_5 : decode cX2_bringFromSlot 5 = .ok (.iload_n 1, 1) := by decide +kernel
theorem dX2_bringFromSlot_6 : decode cX2_bringFromSlot 6 = .ok (.invokestatic 38, 3) := by decide +kernel
theorem dX2_bringFromSlot_9 : decode cX2_bringFromSlot 9 = .ok (.invokevirtual 32, 3) := by decide +kernel
theorem dX2_bringFromSlot_12 : decode cX2_bringFromSlot 12 = .ok (.return_, 1) := by decide +kernel
theorem dX2_slotRow_0 : decode cX2_slotRow 0 = .ok (.bipush 7, 2) := by decide +kernel
theorem dX2_slotRow_2 : decode cX2_slotRow 2 = .ok (.iload_n 0, 1) := by decide +kernel
theorem dX2_slotRow_3 : decode cX2_slotRow 3 = .ok (.iadd, 1) := by decide +kernel
theorem dX2_slotRow_4 : decode cX2_slotRow 4 = .ok (.sipush 344, 3) := by decide +kernel
theorem dX2_slotRow_7 : decode cX2_slotRow 7 = .ok (.imul, 1) := by decide +kernel
theorem dX2_slotRow_8 : decode cX2_slotRow 8 = .ok (.ireturn, 1) := by decide +kernel
theorem dX4_init_0 : decode cX4_init 0 = .ok (.aload_n 0, 1) := by decide +kernel
theorem dX4_init_1 : decode cX4_init 1 = .ok (.invokespecial 3, 3) := by decide +kernel
theorem dX4_init_4 : decode cX4_init 4 = .ok (.aload_n 0, 1) := by decide +kernel
theorem dX4_init_5 : decode cX4_init 5 = .ok (.bipush 80, 2) := by decide +kernel
theorem dX4_init_7 : decode cX4_init 7 = .ok (.newarray .int, 2) := by decide +kernel
theorem dX4_init_9 : decode cX4_init 9 = .ok (.putfield 11, 3) := by decide +kernel
theorem dX4_init_12 : decode cX4_init 12 = .ok (.return_, 1) := by decide +kernel
theorem dX4_length_0 : decode cX4_length 0 = .ok (.aload_n 0, 1) := by decide +kernel
theorem dX4_length_1 : decode cX4_length 1 = .ok (.getfield 15, 3) := by decide +kernel
theorem dX4_length_4 : decode cX4_length 4 = .ok (.ireturn, 1) := by decide +kernel
theorem dJ9_max_7cf53_0 : decode cJ9_max_7cf53 0 = .ok (.iload_n 0, 1) := by decide +kernel
theorem dJ9_max_7cf53_1 : decode cJ9_max_7cf53 1 = .ok (.iload_n 1, 1) := by decide +kernel
theorem dJ9_max_7cf53_2 : decode cJ9_max_7cf53 2 = .ok (.if_icmp .lt 7, 3) := by decide +kernel
theorem dJ9_max_7cf53_5 : decode cJ9_max_7cf53 5 = .ok (.iload_n 0, 1) := by decide +kernel
theorem dJ9_max_7cf53_6 : decode cJ9_max_7cf53 6 = .ok (.goto 4, 3) := by decide +kernel
theorem dJ9_max_7cf53_9 : decode cJ9_max_7cf53 9 = .ok (.iload_n 1, 1) := by decide +kernel
theorem dJ9_max_7cf53_10 : decode cJ9_max_7cf53 10 = .ok (.ireturn, 1) := by decide +kernel
theorem dJ9_min_7cf53_0 : decode cJ9_min_7cf53 0 = .ok (.iload_n 0, 1) := by decide +kernel
theorem dJ9_min_7cf53_1 : decode cJ9_min_7cf53 1 = .ok (.iload_n 1, 1) := by decide +kernel
theorem dJ9_min_7cf53_2 : decode cJ9_min_7cf53 2 = .ok (.if_icmp .gt 7, 3) := by decide +kernel
theorem dJ9_min_7cf53_5 : decode cJ9_min_7cf53 5 = .ok (.iload_n 0, 1) := by decide +kernel
theorem dJ9_min_7cf53_6 : decode cJ9_min_7cf53 6 = .ok (.goto 4, 3) := by decide +kernel
theorem dJ9_min_7cf53_9 : decode cJ9_min_7cf53 9 = .ok (.iload_n 1, 1) := by decide +kernel
theorem dJ9_min_7cf53_10 : decode cJ9_min_7cf53 10 = .ok (.ireturn, 1) := by decide +kernel
