theorem dX8_init_0 : decode cX8_init 0 = .ok (.aload_n 0, 1) := by decide +kernel
theorem dX8_init_1 : decode cX8_init 1 = .ok (.invokespecial 1, 3) := by decide +kernel
theorem dX8_init_4 : decode cX8_init 4 = .ok (.aload_n 0, 1) := by decide +kernel
theorem dX8_init_5 : decode cX8_init 5 = .ok (.sipush 383, 3) := by decide +kernel
theorem dX8_init_8 : decode cX8_init 8 = .ok (.newarray .int, 2) := by decide +kernel
theorem dX8_init_10 : decode cX8_init 10 = .ok (.putfield 7, 3) := by decide +kernel
theorem dX8_init_13 : decode cX8_init 13 = .ok (.aload_n 0, 1) := by decide +kernel
theorem dX8_init_14 : decode cX8_init 14 = .ok (.sipush 383, 3) := by decide +kernel
theorem dX8_init_17 : decode cX8_init 17 = .ok (.newarray .int, 2) := by decide +kernel
theorem dX8_init_19 : decode cX8_init 19 = .ok (.putfield 13, 3) := by decide +kernel
theorem dX8_init_22 : decode cX8_init 22 = .ok (.aload_n 0, 1) := by decide +kernel
theorem dX8_init_23 : decode cX8_init 23 = .ok (.sipush 383, 3) := by decide +kernel
theorem dX8_init_26 : decode cX8_init 26 = .ok (.newarray .int, 2) := by decide +kernel
theorem dX8_init_28 : decode cX8_init 28 = .ok (.putfield 16, 3) := by decide +kernel
theorem dX8_init_31 : decode cX8_init 31 = .ok (.aload_n 0, 1) := by decide +kernel
theorem dX8_init_32 : decode cX8_init 32 = .ok (.sipush 2298, 3) := by decide +kernel
theorem dX8_init_35 : decode cX8_init 35 = .ok (.newarray .int, 2) := by decide +kernel
theorem dX8_init_37 : decode cX8_init 37 = .ok (.putfield 19, 3) := by decide +kernel
theorem dX8_init_40 : decode cX8_init 40 = .ok (.aload_n 0, 1) := by decide +kernel
theorem dX8_init_41 : decode cX8_init 41 = .ok (.sipush 766, 3) := by decide +kernel
theorem dX8_init_44 : decode cX8_init 44 = .ok (.newarray .int, 2) := by decide +kernel
theorem dX8_init_46 : decode cX8_init 46 = .ok (.putfield 22, 3) := by decide +kernel
theorem dX8_init_49 : decode cX8_init 49 = .ok (.aload_n 0, 1) := by decide +kernel
theorem dX8_init_50 : decode cX8_init 50 = .ok (.iconst 2, 1) := by decide +kernel
theorem dX8_init_51 : decode cX8_init 51 = .ok (.newarray .boolean, 2) := by decide +kernel
theorem dX8_init_53 : decode cX8_init 53 = .ok (.putfield 25, 3) := by decide +kernel
theorem dX8_init_56 : decode cX8_init 56 = .ok (.aload_n 0, 1) := by decide +kernel
theorem dX8_init_57 : decode cX8_init 57 = .ok (.bipush 16, 2) := by decide +kernel
theorem dX8_init_59 : decode cX8_init 59 = .ok (.newarray .int, 2) := by decide +kernel
theorem dX8_init_61 : decode cX8_init 61 = .ok (.putfield 29, 3) := by decide +kernel
theorem dX8_init_64 : decode cX8_init 64 = .ok (.aload_n 0, 1) := by decide +kernel
theorem dX8_init_65 : decode cX8_init 65 = .ok (.sipush 210, 3) := by decide +kernel
theorem dX8_init_68 : decode cX8_init 68 = .ok (.newarray .int, 2) := by decide +kernel
theorem dX8_init_70 : decode cX8_init 70 = .ok (.putfield 32, 3) := by decide +kernel
theorem dX8_init_73 : decode cX8_init 73 = .ok (.aload_n 0, 1) := by decide +kernel
theorem dX8_init_74 : decode cX8_init 74 = .ok (.bipush 80, 2) := by decide +kernel
theorem dX8_init_76 : decode cX8_init 76 = .ok (.newarray .char, 2) := by decide +kernel
theorem dX8_init_78 : decode cX8_init 78 = .ok (.putfield 35, 3) := by decide +kernel
theorem dX8_init_81 : decode cX8_init 81 = .ok (.aload_n 0, 1) := by decide +kernel
theorem dX8_init_82 : decode cX8_init 82 = .ok (.getfield 7, 3) := by decide +kernel
theorem dX8_init_85 : decode cX8_init 85 = .ok (.iconst 0, 1) := by decide +kernel
theorem dX8_init_86 : decode cX8_init 86 = .ok (.iconst 5, 1) := by decide +kernel
theorem dX8_init_87 : decode cX8_init 87 = .ok (.iastore, 1) := by decide +kernel
theorem dX8_init_88 : decode cX8_init 88 = .ok (.aload_n 0, 1) := by decide +kernel
theorem dX8_init_89 : decode cX8_init 89 = .ok (.getfield 7, 3) := by decide +kernel
theorem dX8_init_92 : decode cX8_init 92 = .ok (.iconst 1, 1) := by decide +kernel
theorem dX8_init_93 : decode cX8_init 93 = .ok (.bipush 12, 2) := by decide +kernel
theorem dX8_init_95 : decode cX8_init 95 = .ok (.iastore, 1) := by decide +kernel
theorem dX8_init_96 : decode cX8_init 96 = .ok (.aload_n 0, 1) := by decide +kernel
theorem dX8_init_97 : decode cX8_init 97 = .ok (.getfield 7, 3) := by decide +kernel
theorem dX8_init_100 : decode cX8_init 100 = .ok (.iconst 2, 1) := by decide +kernel
theorem dX8_init_101 : decode cX8_init 101 = .ok (.iconst 1, 1) := by decide +kernel
theorem dX8_init_102 : decode cX8_init 102 = .ok (.iastore, 1) := by decide +kernel
theorem dX8_init_103 : decode cX8_init 103 = .ok (.iconst 1, 1) := by decide +kernel
theorem dX8_init_104 : decode cX8_init 104 = .ok (.istore_n 1, 1) := by decide +kernel
theorem dX8_init_105 : decode cX8_init 105 = .ok (.iload_n 1, 1) := by decide +kernel
theorem dX8_init_106 : decode cX8_init 106 = .ok (.bipush 6, 2) := by decide +kernel
theorem dX8_init_108 : decode cX8_init 108 = .ok (.if_icmp .gt 21, 3) := by decide +kernel
theorem dX8_init_111 : decode cX8_init 111 = .ok (.aload_n 0, 1) := by decide +kernel
theorem dX8_init_112 : decode cX8_init 112 = .ok (.getfield 7, 3) := by decide +kernel
theorem dX8_init_115 : decode cX8_init 115 = .ok (.bipush 11, 2) := by decide +kernel
theorem dX8_init_117 : decode cX8_init 117 = .ok (.iload_n 1, 1) := by decide +kernel
theorem dX8_init_118 : decode cX8_init 118 = .ok (.iadd, 1) := by decide +kernel
theorem dX8_init_119 : decode cX8_init 119 = .ok (.sipush 300, 3) := by decide +kernel
theorem dX8_init_122 : decode cX8_init 122 = .ok (.iastore, 1) := by decide +kernel
theorem dX8_init_123 : decode cX8_init 123 = .ok (.iinc 1 1, 3) := by decide +kernel
theorem dX8_init_126 : decode cX8_init 126 = .ok (.goto (-21), 3) := by decide +kernel
theorem dX8_init_129 : decode cX8_init 129 = .ok (.return_, 1) := by decide +kernel
theorem dX8_in_0 : decode cX8_in 0 = .ok (.iload_n 0, 1) := by decide +kernel
theorem dX8_in_1 : decode cX8_in 1 = .ok (.iload_n 1, 1) := by decide +kernel
theorem dX8_in_2 : decode cX8_in 2 = .ok (.if_icmp .lt 12, 3) := by decide +kernel
theorem dX8_in_5 : decode cX8_in 5 = .ok (.iload_n 0, 1) := by decide +kernel
theorem dX8_in_6 : decode cX8_in 6 = .ok (.iload_n 2, 1) := by decide +kernel
theorem dX8_in_7 : decode cX8_in 7 = .ok (.if_icmp .gt 7, 3) := by decide +kernel
theorem dX8_in_10 : decode cX8_in 10 = .ok (.iconst 1, 1) := by decide +kernel
theorem dX8_in_11 : decode cX8_in 11 = .ok (.goto 4, 3) := by decide +kernel
theorem dX8_in_14 : decode cX8_in 14 = .ok (.iconst 0, 1) := by decide +kernel
theorem dX8_in_15 : decode cX8_in 15 = .ok (.ireturn, 1) := by decide +kernel
theorem dX8_p_0 : decode cX8_p 0 = .ok (.bipush 63, 2) := by decide +kernel
theorem dX8_p_2 : decode cX8_p 2 = .ok (.iconst 2, 1) := by decide +kernel
theorem dX8_p_3 : decode cX8_p 3 = .ok (.bipush 40, 2) := by decide +kernel
theorem dX8_p_5 : decode cX8_p 5 = .ok (.iload_n 0, 1) := by decide +kernel
theorem dX8_p_6 : decode cX8_p 6 = .ok (.imul, 1) := by decide +kernel
theorem dX8_p_7 : decode cX8_p 7 = .ok (.bipush 8, 2) := by decide +kernel
theorem dX8_p_9 : decode cX8_p 9 = .ok (.iload_n 1, 1) := by decide +kernel
theorem dX8_p_10 : decode cX8_p 10 = .ok (.imul, 1) := by decide +kernel
theorem dX8_p_11 : decode cX8_p 11 = .ok (.iadd, 1) := by decide +kernel
theorem dX8_p_12 : decode cX8_p 12 = .ok (.iload_n 2, 1) := by decide +kernel
theorem dX8_p_13 : decode cX8_p 13 = .ok (.iadd, 1) := by decide +kernel
theorem dX8_p_14 : decode cX8_p 14 = .ok (.imul, 1) := by decide +kernel
theorem dX8_p_15 : decode cX8_p 15 = .ok (.iadd, 1) := by decide +kernel
theorem dX8_p_16 : decode cX8_p 16 = .ok (.ireturn, 1) := by decide +kernel
theorem dX8_isQuarter_0 : decode cX8_isQuarter 0 = .ok (.iload_n 0, 1) := by decide +kernel
theorem dX8_isQuarter_1 : decode cX8_isQuarter 1 = .ok (.iconst 0, 1) := by decide +kernel
theorem dX8_isQuarter_2 : decode cX8_isQuarter 2 = .ok (.iconst 3, 1) := by decide +kernel
theorem dX8_isQuarter_3 : decode cX8_isQuarter 3 = .ok (.invokestatic 39, 3) := by decide +kernel
theorem dX8_isQuarter_6 : decode cX8_isQuarter 6 = .ok (.ireturn, 1) := by decide +kernel
theorem dX8_isRing_0 : decode cX8_isRing 0 = .ok (.iload_n 0, 1) := by decide +kernel
theorem dX8_isRing_1 : decode cX8_isRing 1 = .ok (.iconst 0, 1) := by decide +kernel
theorem dX8_isRing_2 : decode cX8_isRing 2 = .ok (.iconst 4, 1) := by decide +kernel
theorem dX8_isRing_3 : decode cX8_isRing 3 = .ok (.invokestatic 39, 3) := by decide +kernel
theorem dX8_isRing_6 : decode cX8_isRing 6 = .ok (.ireturn, 1) := by decide +kernel
theorem dX8_isColour_0 : decode cX8_isColour 0 = .ok (.iload_n 0, 1) := by decide +kernel
theorem dX8_isColour_1 : decode cX8_isColour 1 = .ok (.iconst 1, 1) := by decide +kernel
theorem dX8_isColour_2 : decode cX8_isColour 2 = .ok (.bipush 6, 2) := by decide +kernel
theorem dX8_isColour_4 : decode cX8_isColour 4 = .ok (.invokestatic 39, 3) := by decide +kernel
theorem dX8_isColour_7 : decode cX8_isColour 7 = .ok (.ireturn, 1) := by decide +kernel
theorem dX8_isPlace_0 : decode cX8_isPlace 0 = .ok (.iload_n 0, 1) := by decide +kernel
theorem dX8_isPlace_1 : decode cX8_isPlace 1 = .ok (.invokestatic 43, 3) := by decide +kernel
theorem dX8_isPlace_4 : decode cX8_isPlace 4 = .ok (.ifCond .eq 24, 3) := by decide +kernel
theorem dX8_isPlace_7 : decode cX8_isPlace 7 = .ok (.iload_n 1, 1) := by decide +kernel
theorem dX8_isPlace_8 : decode cX8_isPlace 8 = .ok (.invokestatic 47, 3) := by decide +kernel
theorem dX8_isPlace_11 : decode cX8_isPlace 11 = .ok (.ifCond .eq 17, 3) := by decide +kernel
theorem dX8_isPlace_14 : decode cX8_isPlace 14 = .ok (.iload_n 2, 1) := by decide +kernel
theorem dX8_isPlace_15 : decode cX8_isPlace 15 = .ok (.iconst 0, 1) := by decide +kernel
theorem dX8_isPlace_16 : decode cX8_isPlace 16 = .ok (.bipush 7, 2) := by decide +kernel
theorem dX8_isPlace_18 : decode cX8_isPlace 18 = .ok (.invokestatic 39, 3) := by decide +kernel
theorem dX8_isPlace_21 : decode cX8_isPlace 21 = .ok (.ifCond .eq 7, 3) := by decide +kernel
theorem dX8_isPlace_24 : decode cX8_isPlace 24 = .ok (.iconst 1, 1) := by decide +kernel
theorem dX8_isPlace_25 : decode cX8_isPlace 25 = .ok (.goto 4, 3) := by decide +kernel
theorem dX8_isPlace_28 : decode cX8_isPlace 28 = .ok (.iconst 0, 1) := by decide +kernel
theorem dX8_isPlace_29 : decode cX8_isPlace 29 = .ok (.ireturn, 1) := by decide +kernel
theorem dX8_hold_0 : decode cX8_hold 0 = .ok (.iconst 0, 1) := by decide +kernel
theorem dX8_hold_1 : decode cX8_hold 1 = .ok (.istore_n 1, 1) := by decide +kernel
theorem dX8_hold_2 : decode cX8_hold 2 = .ok (.iload_n 1, 1) := by decide +kernel
theorem dX8_hold_3 : decode cX8_hold 3 = .ok (.sipush 383, 3) := by decide +kernel
theorem dX8_hold_6 : decode cX8_hold 6 = .ok (.if_icmp .ge 21, 3) := by decide +kernel
theorem dX8_hold_9 : decode cX8_hold 9 = .ok (.aload_n 0, 1) := by decide +kernel
theorem dX8_hold_10 : decode cX8_hold 10 = .ok (.getfield 13, 3) := by decide +kernel
theorem dX8_hold_13 : decode cX8_hold 13 = .ok (.iload_n 1, 1) := by decide +kernel
theorem dX8_hold_14 : decode cX8_hold 14 = .ok (.aload_n 0, 1) := by decide +kernel
theorem dX8_hold_15 : decode cX8_hold 15 = .ok (.getfield 7, 3) := by decide +kernel
theorem dX8_hold_18 : decode cX8_hold 18 = .ok (.iload_n 1, 1) := by decide +kernel
theorem dX8_hold_19 : decode cX8_hold 19 = .ok (.iaload, 1) := by decide +kernel
theorem dX8_hold_20 : decode cX8_hold 20 = .ok (.iastore, 1) := by decide +kernel
theorem dX8_hold_21 : decode cX8_hold 21 = .ok (.iinc 1 1, 3) := by decide +kernel
theorem dX8_hold_24 : decode cX8_hold 24 = .ok (.goto (-22), 3) := by decide +kernel
theorem dX8_hold_27 : decode cX8_hold 27 = .ok (.return_, 1) := by decide +kernel
theorem dX8_recorded_0 : decode cX8_recorded 0 = .ok (.iload_n 1, 1) := by decide +kernel
theorem dX8_recorded_1 : decode cX8_recorded 1 = .ok (.ifCond .lt 99, 3) := by decide +kernel
theorem dX8_recorded_4 : decode cX8_recorded 4 = .ok (.aload_n 0, 1) := by decide +kernel
theorem dX8_recorded_5 : decode cX8_recorded 5 = .ok (.getfield 50, 3) := by decide +kernel
theorem dX8_recorded_8 : decode cX8_recorded 8 = .ok (.bipush 6, 2) := by decide +kernel
theorem dX8_recorded_10 : decode cX8_recorded 10 = .ok (.if_icmp .ne 44, 3) := by decide +kernel
theorem dX8_recorded_13 : decode cX8_recorded 13 = .ok (.iconst 0, 1) := by decide +kernel
theorem dX8_recorded_14 : decode cX8_recorded 14 = .ok (.istore_n 2, 1) := by decide +kernel
theorem dX8_recorded_15 : decode cX8_recorded 15 = .ok (.iload_n 2, 1) := by decide +kernel
theorem dX8_recorded_16 : decode cX8_recorded 16 = .ok (.sipush 1915, 3) := by decide +kernel
theorem dX8_recorded_19 : decode cX8_recorded 19 = .ok (.if_icmp .ge 25, 3) := by decide +kernel
theorem dX8_recorded_22 : decode cX8_recorded 22 = .ok (.aload_n 0, 1) := by decide +kernel
theorem dX8_recorded_23 : decode cX8_recorded 23 = .ok (.getfield 19, 3) := by decide +kernel
theorem dX8_recorded_26 : decode cX8_recorded 26 = .ok (.iload_n 2, 1) := by decide +kernel
theorem dX8_recorded_27 : decode cX8_recorded 27 = .ok (.aload_n 0, 1) := by decide +kernel
theorem dX8_recorded_28 : decode cX8_recorded 28 = .ok (.getfield 19, 3) := by decide +kernel
theorem dX8_recorded_31 : decode cX8_recorded 31 = .ok (.sipush 383, 3) := by decide +kernel
theorem dX8_recorded_34 : decode cX8_recorded 34 = .ok (.iload_n 2, 1) := by decide +kernel
theorem dX8_recorded_35 : decode cX8_recorded 35 = .ok (.iadd, 1) := by decide +kernel
theorem dX8_recorded_36 : decode cX8_recorded 36 = .ok (.iaload, 1) := by decide +kernel
theorem dX8_recorded_37 : decode cX8_recorded 37 = .ok (.iastore, 1) := by decide +kernel
theorem dX8_recorded_38 : decode cX8_recorded 38 = .ok (.iinc 2 1, 3) := by decide +kernel
theorem dX8_recorded_41 : decode cX8_recorded 41 = .ok (.goto (-26), 3) := by decide +kernel
theorem dX8_recorded_44 : decode cX8_recorded 44 = .ok (.aload_n 0, 1) := by decide +kernel
theorem dX8_recorded_45 : decode cX8_recorded 45 = .ok (.dup, 1) := by decide +kernel
theorem dX8_recorded_46 : decode cX8_recorded 46 = .ok (.getfield 50, 3) := by decide +kernel
theorem dX8_recorded_49 : decode cX8_recorded 49 = .ok (.iconst 1, 1) := by decide +kernel
theorem dX8_recorded_50 : decode cX8_recorded 50 = .ok (.isub, 1) := by decide +kernel
theorem dX8_recorded_51 : decode cX8_recorded 51 = .ok (.putfield 50, 3) := by decide +kernel
theorem dX8_recorded_54 : decode cX8_recorded 54 = .ok (.iconst 0, 1) := by decide +kernel
theorem dX8_recorded_55 : decode cX8_recorded 55 = .ok (.istore_n 2, 1) := by decide +kernel
theorem dX8_recorded_56 : decode cX8_recorded 56 = .ok (.iload_n 2, 1) := by decide +kernel
theorem dX8_recorded_57 : decode cX8_recorded 57 = .ok (.sipush 383, 3) := by decide +kernel
theorem dX8_recorded_60 : decode cX8_recorded 60 = .ok (.if_icmp .ge 30, 3) := by decide +kernel
theorem dX8_recorded_63 : decode cX8_recorded 63 = .ok (.aload_n 0, 1) := by decide +kernel
theorem dX8_recorded_64 : decode cX8_recorded 64 = .ok (.getfield 19, 3) := by decide +kernel
theorem dX8_recorded_67 : decode cX8_recorded 67 = .ok (.sipush 383, 3) := by decide +kernel
theorem dX8_recorded_70 : decode cX8_recorded 70 = .ok (.aload_n 0, 1) := by decide +kernel
theorem dX8_recorded_71 : decode cX8_recorded 71 = .ok (.getfield 50, 3) := by decide +kernel
theorem dX8_recorded_74 : decode cX8_recorded 74 = .ok (.imul, 1) := by decide +kernel
theorem dX8_recorded_75 : decode cX8_recorded 75 = .ok (.iload_n 2, 1) := by decide +kernel
theorem dX8_recorded_76 : decode cX8_recorded 76 = .ok (.iadd, 1) := by decide +kernel
theorem dX8_recorded_77 : decode cX8_recorded 77 = .ok (.aload_n 0, 1) := by decide +kernel
theorem dX8_recorded_78 : decode cX8_recorded 78 = .ok (.getfield 13, 3) := by decide +kernel
theorem dX8_recorded_81 : decode cX8_recorded 81 = .ok (.iload_n 2, 1) := by decide +kernel
theorem dX8_recorded_82 : decode cX8_recorded 82 = .ok (.iaload, 1) := by decide +kernel
theorem dX8_recorded_83 : decode cX8_recorded 83 = .ok (.iastore, 1) := by decide +kernel
theorem dX8_recorded_84 : decode cX8_recorded 84 = .ok (.iinc 2 1, 3) := by decide +kernel
theorem dX8_recorded_87 : decode cX8_recorded 87 = .ok (.goto (-31), 3) := by decide +kernel
theorem dX8_recorded_90 : decode cX8_recorded 90 = .ok (.aload_n 0, 1) := by decide +kernel
theorem dX8_recorded_91 : decode cX8_recorded 91 = .ok (.dup, 1) := by decide +kernel
theorem dX8_recorded_92 : decode cX8_recorded 92 = .ok (.getfield 50, 3) := by decide +kernel
theorem dX8_recorded_95 : decode cX8_recorded 95 = .ok (.iconst 1, 1) := by decide +kernel
theorem dX8_recorded_96 : decode cX8_recorded 96 = .ok (.iadd, 1) := by decide +kernel
theorem dX8_recorded_97 : decode cX8_recorded 97 = .ok (.putfield 50, 3) := by decide +kernel
theorem dX8_recorded_100 : decode cX8_recorded 100 = .ok (.iload_n 1, 1) := by decide +kernel
theorem dX8_recorded_101 : decode cX8_recorded 101 = .ok (.ireturn, 1) := by decide +kernel
theorem dX8_keepTrial_0 : decode cX8_keepTrial 0 = .ok (.iconst 0, 1) := by decide +kernel
theorem dX8_keepTrial_1 : decode cX8_keepTrial 1 = .ok (.istore_n 1, 1) := by decide +kernel
theorem dX8_keepTrial_2 : decode cX8_keepTrial 2 = .ok (.iload_n 1, 1) := by decide +kernel
theorem dX8_keepTrial_3 : decode cX8_keepTrial 3 = .ok (.sipush 383, 3) := by decide +kernel
theorem dX8_keepTrial_6 : decode cX8_keepTrial 6 = .ok (.if_icmp .ge 21, 3) := by decide +kernel
theorem dX8_keepTrial_9 : decode cX8_keepTrial 9 = .ok (.aload_n 0, 1) := by decide +kernel
theorem dX8_keepTrial_10 : decode cX8_keepTrial 10 = .ok (.getfield 16, 3) := by decide +kernel
theorem dX8_keepTrial_13 : decode cX8_keepTrial 13 = .ok (.iload_n 1, 1) := by decide +kernel
theorem dX8_keepTrial_14 : decode cX8_keepTrial 14 = .ok (.aload_n 0, 1) := by decide +kernel
theorem dX8_keepTrial_15 : decode cX8_keepTrial 15 = .ok (.getfield 7, 3) := by decide +kernel
theorem dX8_keepTrial_18 : decode cX8_keepTrial 18 = .ok (.iload_n 1, 1) := by decide +kernel
theorem dX8_keepTrial_19 : decode cX8_keepTrial 19 = .ok (.iaload, 1) := by decide +kernel
theorem dX8_keepTrial_20 : decode cX8_keepTrial 20 = .ok (.iastore, 1) := by decide +kernel
theorem dX8_keepTrial_21 : decode cX8_keepTrial 21 = .ok (.iinc 1 1, 3) := by decide +kernel
theorem dX8_keepTrial_24 : decode cX8_keepTrial 24 = .ok (.goto (-22), 3) := by decide +kernel
theorem dX8_keepTrial_27 : decode cX8_keepTrial 27 = .ok (.return_, 1) := by decide +kernel
theorem dX8_putBack_0 : decode cX8_putBack 0 = .ok (.iconst 0, 1) := by decide +kernel
theorem dX8_putBack_1 : decode cX8_putBack 1 = .ok (.istore_n 1, 1) := by decide +kernel
theorem dX8_putBack_2 : decode cX8_putBack 2 = .ok (.iload_n 1, 1) := by decide +kernel
theorem dX8_putBack_3 : decode cX8_putBack 3 = .ok (.sipush 383, 3) := by decide +kernel
theorem dX8_putBack_6 : decode cX8_putBack 6 = .ok (.if_icmp .ge 21, 3) := by decide +kernel
theorem dX8_putBack_9 : decode cX8_putBack 9 = .ok (.aload_n 0, 1) := by decide +kernel
theorem dX8_putBack_10 : decode cX8_putBack 10 = .ok (.getfield 7, 3) := by decide +kernel
theorem dX8_putBack_13 : decode cX8_putBack 13 = .ok (.iload_n 1, 1) := by decide +kernel
theorem dX8_putBack_14 : decode cX8_putBack 14 = .ok (.aload_n 0, 1) := by decide +kernel
theorem dX8_putBack_15 : decode cX8_putBack 15 = .ok (.getfield 16, 3) := by decide +kernel
theorem dX8_putBack_18 : decode cX8_putBack 18 = .ok (.iload_n 1, 1) := by decide +kernel
theorem dX8_putBack_19 : decode cX8_putBack 19 = .ok (.iaload, 1) := by decide +kernel
theorem dX8_putBack_20 : decode cX8_putBack 20 = .ok (.iastore, 1) := by decide +kernel
theorem dX8_putBack_21 : decode cX8_putBack 21 = .ok (.iinc 1 1, 3) := by decide +kernel
theorem dX8_putBack_24 : decode cX8_putBack 24 = .ok (.goto (-22), 3) := by decide +kernel
theorem dX8_putBack_27 : decode cX8_putBack 27 = .ok (.return_, 1) := by decide +kernel
theorem dX8_isMirrored_0 : decode cX8_isMirrored 0 = .ok (.aload_n 0, 1) := by decide +kernel
theorem dX8_isMirrored_1 : decode cX8_isMirrored 1 = .ok (.getfield 7, 3) := by decide +kernel
theorem dX8_isMirrored_4 : decode cX8_isMirrored 4 = .ok (.iconst 2, 1) := by decide +kernel
theorem dX8_isMirrored_5 : decode cX8_isMirrored 5 = .ok (.iaload, 1) := by decide +kernel
theorem dX8_isMirrored_6 : decode cX8_isMirrored 6 = .ok (.iconst 1, 1) := by decide +kernel
theorem dX8_isMirrored_7 : decode cX8_isMirrored 7 = .ok (.if_icmp .ne 14, 3) := by decide +kernel
theorem dX8_isMirrored_10 : decode cX8_isMirrored 10 = .ok (.iload_n 1, 1) := by decide +kernel
theorem dX8_isMirrored_11 : decode cX8_isMirrored 11 = .ok (.iconst 2, 1) := by decide +kernel
theorem dX8_isMirrored_12 : decode cX8_isMirrored 12 = .ok (.irem, 1) := by decide +kernel
theorem dX8_isMirrored_13 : decode cX8_isMirrored 13 = .ok (.iconst 1, 1) := by decide +kernel
theorem dX8_isMirrored_14 : decode cX8_isMirrored 14 = .ok (.if_icmp .ne 7, 3) := by decide +kernel
theorem dX8_isMirrored_17 : decode cX8_isMirrored 17 = .ok (.iconst 1, 1) := by decide +kernel
theorem dX8_isMirrored_18 : decode cX8_isMirrored 18 = .ok (.goto 4, 3) := by decide +kernel
theorem dX8_isMirrored_21 : decode cX8_isMirrored 21 = .ok (.iconst 0, 1) := by decide +kernel
theorem dX8_isMirrored_22 : decode cX8_isMirrored 22 = .ok (.ireturn, 1) := by decide +kernel
theorem dX8_mirrored_0 : decode cX8_mirrored 0 = .ok (.aload_n 0, 1) := by decide +kernel
theorem dX8_mirrored_1 : decode cX8_mirrored 1 = .ok (.iload_n 1, 1) := by decide +kernel
theorem dX8_mirrored_2 : decode cX8_mirrored 2 = .ok (.invokevirtual 54, 3) := by decide +kernel
theorem dX8_mirrored_5 : decode cX8_mirrored 5 = .ok (.ifCond .eq 10, 3) := by decide +kernel
theorem dX8_mirrored_8 : decode cX8_mirrored 8 = .ok (.bipush 7, 2) := by decide +kernel
theorem dX8_mirrored_10 : decode cX8_mirrored 10 = .ok (.iload_n 2, 1) := by decide +kernel
theorem dX8_mirrored_11 : decode cX8_mirrored 11 = .ok (.isub, 1) := by decide +kernel
theorem dX8_mirrored_12 : decode cX8_mirrored 12 = .ok (.goto 4, 3) := by decide +kernel
theorem dX8_mirrored_15 : decode cX8_mirrored 15 = .ok (.iload_n 2, 1) := by decide +kernel
theorem dX8_mirrored_16 : decode cX8_mirrored 16 = .ok (.ireturn, 1) := by decide +kernel
theorem dX8_wanted_0 : decode cX8_wanted 0 = .ok (.aload_n 0, 1) := by decide +kernel
theorem dX8_wanted_1 : decode cX8_wanted 1 = .ok (.getfield 7, 3) := by decide +kernel
theorem dX8_wanted_4 : decode cX8_wanted 4 = .ok (.bipush 18, 2) := by decide +kernel
theorem dX8_wanted_6 : decode cX8_wanted 6 = .ok (.iload_n 2, 1) := by decide +kernel
theorem dX8_wanted_7 : decode cX8_wanted 7 = .ok (.iadd, 1) := by decide +kernel
theorem dX8_wanted_8 : decode cX8_wanted 8 = .ok (.iaload, 1) := by decide +kernel
theorem dX8_wanted_9 : decode cX8_wanted 9 = .ok (.ifCond .ne 8, 3) := by decide +kernel
theorem dX8_wanted_12 : decode cX8_wanted 12 = .ok (.bipush (-6), 2) := by decide +kernel
theorem dX8_wanted_14 : decode cX8_wanted 14 = .ok (.goto 22, 3) := by decide +kernel
theorem dX8_wanted_17 : decode cX8_wanted 17 = .ok (.aload_n 0, 1) := by decide +kernel
theorem dX8_wanted_18 : decode cX8_wanted 18 = .ok (.getfield 7, 3) := by decide +kernel
theorem dX8_wanted_21 : decode cX8_wanted 21 = .ok (.bipush 23, 2) := by decide +kernel
theorem dX8_wanted_23 : decode cX8_wanted 23 = .ok (.bipush 8, 2) := by decide +kernel
theorem dX8_wanted_25 : decode cX8_wanted 25 = .ok (.iload_n 2, 1) := by decide +kernel
theorem dX8_wanted_26 : decode cX8_wanted 26 = .ok (.imul, 1) := by decide +kernel
theorem dX8_wanted_27 : decode cX8_wanted 27 = .ok (.iadd, 1) := by decide +kernel
theorem dX8_wanted_28 : decode cX8_wanted 28 = .ok (.aload_n 0, 1) := by decide +kernel
theorem dX8_wanted_29 : decode cX8_wanted 29 = .ok (.iload_n 1, 1) := by decide +kernel
theorem dX8_wanted_30 : decode cX8_wanted 30 = .ok (.iload_n 3, 1) := by decide +kernel
theorem dX8_wanted_31 : decode cX8_wanted 31 = .ok (.invokevirtual 57, 3) := by decide +kernel
theorem dX8_wanted_34 : decode cX8_wanted 34 = .ok (.iadd, 1) := by decide +kernel
theorem dX8_wanted_35 : decode cX8_wanted 35 = .ok (.iaload, 1) := by decide +kernel
theorem dX8_wanted_36 : decode cX8_wanted 36 = .ok (.ireturn, 1) := by decide +kernel
theorem dX8_isRight_0 : decode cX8_isRight 0 = .ok (.iload_n 1, 1) := by decide +kernel
theorem dX8_isRight_1 : decode cX8_isRight 1 = .ok (.iload_n 2, 1) := by decide +kernel
theorem dX8_isRight_2 : decode cX8_isRight 2 = .ok (.iload_n 3, 1) := by decide +kernel
theorem dX8_isRight_3 : decode cX8_isRight 3 = .ok (.invokestatic 61, 3) := by decide +kernel
theorem dX8_isRight_6 : decode cX8_isRight 6 = .ok (.istore 4, 2) := by decide +kernel
theorem dX8_isRight_8 : decode cX8_isRight 8 = .ok (.aload_n 0, 1) := by decide +kernel
theorem dX8_isRight_9 : decode cX8_isRight 9 = .ok (.iload_n 1, 1) := by decide +kernel
theorem dX8_isRight_10 : decode cX8_isRight 10 = .ok (.iload_n 2, 1) := by decide +kernel
theorem dX8_isRight_11 : decode cX8_isRight 11 = .ok (.iload_n 3, 1) := by decide +kernel
theorem dX8_isRight_12 : decode cX8_isRight 12 = .ok (.invokevirtual 65, 3) := by decide +kernel
theorem dX8_isRight_15 : decode cX8_isRight 15 = .ok (.istore 5, 2) := by decide +kernel
theorem dX8_isRight_17 : decode cX8_isRight 17 = .ok (.iload 5, 2) := by decide +kernel
theorem dX8_isRight_19 : decode cX8_isRight 19 = .ok (.ifCond .ne 23, 3) := by decide +kernel
theorem dX8_isRight_22 : decode cX8_isRight 22 = .ok (.aload_n 0, 1) := by decide +kernel
theorem dX8_isRight_23 : decode cX8_isRight 23 = .ok (.getfield 7, 3) := by decide +kernel
theorem dX8_isRight_26 : decode cX8_isRight 26 = .ok (.iload 4, 2) := by decide +kernel
theorem dX8_isRight_28 : decode cX8_isRight 28 = .ok (.iconst 1, 1) := by decide +kernel
theorem dX8_isRight_29 : decode cX8_isRight 29 = .ok (.iadd, 1) := by decide +kernel
theorem dX8_isRight_30 : decode cX8_isRight 30 = .ok (.iaload, 1) := by decide +kernel
theorem dX8_isRight_31 : decode cX8_isRight 31 = .ok (.ifCond .ne 7, 3) := by decide +kernel
theorem dX8_isRight_34 : decode cX8_isRight 34 = .ok (.iconst 1, 1) := by decide +kernel
theorem dX8_isRight_35 : decode cX8_isRight 35 = .ok (.goto 49, 3) := by decide +kernel
theorem dX8_isRight_38 : decode cX8_isRight 38 = .ok (.iconst 0, 1) := by decide +kernel
theorem dX8_isRight_39 : decode cX8_isRight 39 = .ok (.goto 45, 3) := by decide +kernel
theorem dX8_isRight_42 : decode cX8_isRight 42 = .ok (.iload 5, 2) := by decide +kernel
theorem dX8_isRight_44 : decode cX8_isRight 44 = .ok (.ifCond .le 39, 3) := by decide +kernel
theorem dX8_isRight_47 : decode cX8_isRight 47 = .ok (.aload_n 0, 1) := by decide +kernel
theorem dX8_isRight_48 : decode cX8_isRight 48 = .ok (.getfield 7, 3) := by decide +kernel
theorem dX8_isRight_51 : decode cX8_isRight 51 = .ok (.iload 4, 2) := by decide +kernel
theorem dX8_isRight_53 : decode cX8_isRight 53 = .ok (.iconst 0, 1) := by decide +kernel
theorem dX8_isRight_54 : decode cX8_isRight 54 = .ok (.iadd, 1) := by decide +kernel
theorem dX8_isRight_55 : decode cX8_isRight 55 = .ok (.iaload, 1) := by decide +kernel
theorem dX8_isRight_56 : decode cX8_isRight 56 = .ok (.iload 5, 2) := by decide +kernel
theorem dX8_isRight_58 : decode cX8_isRight 58 = .ok (.if_icmp .ne 25, 3) := by decide +kernel
theorem dX8_isRight_61 : decode cX8_isRight 61 = .ok (.aload_n 0, 1) := by decide +kernel
theorem dX8_isRight_62 : decode cX8_isRight 62 = .ok (.getfield 7, 3) := by decide +kernel
theorem dX8_isRight_65 : decode cX8_isRight 65 = .ok (.iload 4, 2) := by decide +kernel
theorem dX8_isRight_67 : decode cX8_isRight 67 = .ok (.iconst 1, 1) := by decide +kernel
theorem dX8_isRight_68 : decode cX8_isRight 68 = .ok (.iadd, 1) := by decide +kernel
theorem dX8_isRight_69 : decode cX8_isRight 69 = .ok (.iaload, 1) := by decide +kernel
theorem dX8_isRight_70 : decode cX8_isRight 70 = .ok (.aload_n 0, 1) := by decide +kernel
theorem dX8_isRight_71 : decode cX8_isRight 71 = .ok (.getfield 7, 3) := by decide +kernel
theorem dX8_isRight_74 : decode cX8_isRight 74 = .ok (.iconst 0, 1) := by decide +kernel
theorem dX8_isRight_75 : decode cX8_isRight 75 = .ok (.iaload, 1) := by decide +kernel
theorem dX8_isRight_76 : decode cX8_isRight 76 = .ok (.if_icmp .lt 7, 3) := by decide +kernel
theorem dX8_isRight_79 : decode cX8_isRight 79 = .ok (.iconst 1, 1) := by decide +kernel
theorem dX8_isRight_80 : decode cX8_isRight 80 = .ok (.goto 4, 3) := by decide +kernel
theorem dX8_isRight_83 : decode cX8_isRight 83 = .ok (.iconst 0, 1) := by decide +kernel
theorem dX8_isRight_84 : decode cX8_isRight 84 = .ok (.ireturn, 1) := by decide +kernel
theorem dX8_missing_0 : decode cX8_missing 0 = .ok (.iload_n 1, 1) := by decide +kernel
theorem dX8_missing_1 : decode cX8_missing 1 = .ok (.iload_n 2, 1) := by decide +kernel
theorem dX8_missing_2 : decode cX8_missing 2 = .ok (.iload_n 3, 1) := by decide +kernel
theorem dX8_missing_3 : decode cX8_missing 3 = .ok (.invokestatic 61, 3) := by decide +kernel
theorem dX8_missing_6 : decode cX8_missing 6 = .ok (.istore 4, 2) := by decide +kernel
theorem dX8_missing_8 : decode cX8_missing 8 = .ok (.aload_n 0, 1) := by decide +kernel
theorem dX8_missing_9 : decode cX8_missing 9 = .ok (.iload_n 1, 1) := by decide +kernel
theorem dX8_missing_10 : decode cX8_missing 10 = .ok (.iload_n 2, 1) := by decide +kernel
theorem dX8_missing_11 : decode cX8_missing 11 = .ok (.iload_n 3, 1) := by decide +kernel
theorem dX8_missing_12 : decode cX8_missing 12 = .ok (.invokevirtual 65, 3) := by decide +kernel
theorem dX8_missing_15 : decode cX8_missing 15 = .ok (.istore 5, 2) := by decide +kernel
theorem dX8_missing_17 : decode cX8_missing 17 = .ok (.aload_n 0, 1) := by decide +kernel
theorem dX8_missing_18 : decode cX8_missing 18 = .ok (.getfield 7, 3) := by decide +kernel
theorem dX8_missing_21 : decode cX8_missing 21 = .ok (.iload 4, 2) := by decide +kernel
theorem dX8_missing_23 : decode cX8_missing 23 = .ok (.iconst 0, 1) := by decide +kernel
theorem dX8_missing_24 : decode cX8_missing 24 = .ok (.iadd, 1) := by decide +kernel
theorem dX8_missing_25 : decode cX8_missing 25 = .ok (.iaload, 1) := by decide +kernel
theorem dX8_missing_26 : decode cX8_missing 26 = .ok (.iload 5, 2) := by decide +kernel
theorem dX8_missing_28 : decode cX8_missing 28 = .ok (.if_icmp .ne 15, 3) := by decide +kernel
theorem dX8_missing_31 : decode cX8_missing 31 = .ok (.aload_n 0, 1) := by decide +kernel
theorem dX8_missing_32 : decode cX8_missing 32 = .ok (.getfield 7, 3) := by decide +kernel
theorem dX8_missing_35 : decode cX8_missing 35 = .ok (.iload 4, 2) := by decide +kernel
theorem dX8_missing_37 : decode cX8_missing 37 = .ok (.iconst 1, 1) := by decide +kernel
theorem dX8_missing_38 : decode cX8_missing 38 = .ok (.iadd, 1) := by decide +kernel
theorem dX8_missing_39 : decode cX8_missing 39 = .ok (.iaload, 1) := by decide +kernel
theorem dX8_missing_40 : decode cX8_missing 40 = .ok (.goto 4, 3) := by decide +kernel
theorem dX8_missing_43 : decode cX8_missing 43 = .ok (.iconst 0, 1) := by decide +kernel
theorem dX8_missing_44 : decode cX8_missing 44 = .ok (.istore 6, 2) := by decide +kernel
theorem dX8_missing_46 : decode cX8_missing 46 = .ok (.iload 5, 2) := by decide +kernel
theorem dX8_missing_48 : decode cX8_missing 48 = .ok (.ifCond .le 14, 3) := by decide +kernel
theorem dX8_missing_51 : decode cX8_missing 51 = .ok (.iload 6, 2) := by decide +kernel
theorem dX8_missing_53 : decode cX8_missing 53 = .ok (.aload_n 0, 1) := by decide +kernel
theorem dX8_missing_54 : decode cX8_missing 54 = .ok (.getfield 7, 3) := by decide +kernel
theorem dX8_missing_57 : decode cX8_missing 57 = .ok (.iconst 0, 1) := by decide +kernel
theorem dX8_missing_58 : decode cX8_missing 58 = .ok (.iaload, 1) := by decide +kernel
theorem dX8_missing_59 : decode cX8_missing 59 = .ok (.if_icmp .lt 7, 3) := by decide +kernel
theorem dX8_missing_62 : decode cX8_missing 62 = .ok (.iconst 0, 1) := by decide +kernel
theorem dX8_missing_63 : decode cX8_missing 63 = .ok (.goto 12, 3) := by decide +kernel
theorem dX8_missing_66 : decode cX8_missing 66 = .ok (.aload_n 0, 1) := by decide +kernel
theorem dX8_missing_67 : decode cX8_missing 67 = .ok (.getfield 7, 3) := by decide +kernel
theorem dX8_missing_70 : decode cX8_missing 70 = .ok (.iconst 0, 1) := by decide +kernel
theorem dX8_missing_71 : decode cX8_missing 71 = .ok (.iaload, 1) := by decide +kernel
theorem dX8_missing_72 : decode cX8_missing 72 = .ok (.iload 6, 2) := by decide +kernel
theorem dX8_missing_74 : decode cX8_missing 74 = .ok (.isub, 1) := by decide +kernel
theorem dX8_missing_75 : decode cX8_missing 75 = .ok (.ireturn, 1) := by decide +kernel
theorem dX8_isWhole_0 : decode cX8_isWhole 0 = .ok (.iconst 1, 1) := by decide +kernel
theorem dX8_isWhole_1 : decode cX8_isWhole 1 = .ok (.istore_n 2, 1) := by decide +kernel
theorem dX8_isWhole_2 : decode cX8_isWhole 2 = .ok (.iconst 0, 1) := by decide +kernel
theorem dX8_isWhole_3 : decode cX8_isWhole 3 = .ok (.istore_n 3, 1) := by decide +kernel
theorem dX8_isWhole_4 : decode cX8_isWhole 4 = .ok (.iload_n 3, 1) := by decide +kernel
theorem dX8_isWhole_5 : decode cX8_isWhole 5 = .ok (.bipush 32, 2) := by decide +kernel
theorem dX8_isWhole_7 : decode cX8_isWhole 7 = .ok (.if_icmp .ge 35, 3) := by decide +kernel
theorem dX8_isWhole_10 : decode cX8_isWhole 10 = .ok (.iload_n 2, 1) := by decide +kernel
theorem dX8_isWhole_11 : decode cX8_isWhole 11 = .ok (.ifCond .eq 23, 3) := by decide +kernel
theorem dX8_isWhole_14 : decode cX8_isWhole 14 = .ok (.aload_n 0, 1) := by decide +kernel
theorem dX8_isWhole_15 : decode cX8_isWhole 15 = .ok (.iload_n 3, 1) := by decide +kernel
theorem dX8_isWhole_16 : decode cX8_isWhole 16 = .ok (.bipush 8, 2) := by decide +kernel
theorem dX8_isWhole_18 : decode cX8_isWhole 18 = .ok (.idiv, 1) := by decide +kernel
theorem dX8_isWhole_19 : decode cX8_isWhole 19 = .ok (.iload_n 1, 1) := by decide +kernel
theorem dX8_isWhole_20 : decode cX8_isWhole 20 = .ok (.iload_n 3, 1) := by decide +kernel
theorem dX8_isWhole_21 : decode cX8_isWhole 21 = .ok (.bipush 8, 2) := by decide +kernel
theorem dX8_isWhole_23 : decode cX8_isWhole 23 = .ok (.irem, 1) := by decide +kernel
theorem dX8_isWhole_24 : decode cX8_isWhole 24 = .ok (.invokevirtual 68, 3) := by decide +kernel
theorem dX8_isWhole_27 : decode cX8_isWhole 27 = .ok (.ifCond .eq 7, 3) := by decide +kernel
theorem dX8_isWhole_30 : decode cX8_isWhole 30 = .ok (.iconst 1, 1) := by decide +kernel
theorem dX8_isWhole_31 : decode cX8_isWhole 31 = .ok (.goto 4, 3) := by decide +kernel
theorem dX8_isWhole_34 : decode cX8_isWhole 34 = .ok (.iconst 0, 1) := by decide +kernel
theorem dX8_isWhole_35 : decode cX8_isWhole 35 = .ok (.istore_n 2, 1) := by decide +kernel
theorem dX8_isWhole_36 : decode cX8_isWhole 36 = .ok (.iinc 3 1, 3) := by decide +kernel
theorem dX8_isWhole_39 : decode cX8_isWhole 39 = .ok (.goto (-35), 3) := by decide +kernel
theorem dX8_isWhole_42 : decode cX8_isWhole 42 = .ok (.iload_n 2, 1) := by decide +kernel
theorem dX8_isWhole_43 : decode cX8_isWhole 43 = .ok (.ireturn, 1) := by decide +kernel
theorem dX8_isOpen_0 : decode cX8_isOpen 0 = .ok (.iload_n 1, 1) := by decide +kernel
theorem dX8_isOpen_1 : decode cX8_isOpen 1 = .ok (.aload_n 0, 1) := by decide +kernel
theorem dX8_isOpen_2 : decode cX8_isOpen 2 = .ok (.getfield 7, 3) := by decide +kernel
theorem dX8_isOpen_5 : decode cX8_isOpen 5 = .ok (.iconst 3, 1) := by decide +kernel
theorem dX8_isOpen_6 : decode cX8_isOpen 6 = .ok (.iaload, 1) := by decide +kernel
theorem dX8_isOpen_7 : decode cX8_isOpen 7 = .ok (.if_icmp .lt 7, 3) := by decide +kernel
theorem dX8_isOpen_10 : decode cX8_isOpen 10 = .ok (.iconst 1, 1) := by decide +kernel
theorem dX8_isOpen_11 : decode cX8_isOpen 11 = .ok (.goto 4, 3) := by decide +kernel
theorem dX8_isOpen_14 : decode cX8_isOpen 14 = .ok (.iconst 0, 1) := by decide +kernel
theorem dX8_isOpen_15 : decode cX8_isOpen 15 = .ok (.ireturn, 1) := by decide +kernel
theorem dX8_puts_0 : decode cX8_puts 0 = .ok (.aload_n 0, 1) := by decide +kernel
theorem dX8_puts_1 : decode cX8_puts 1 = .ok (.getfield 7, 3) := by decide +kernel
theorem dX8_puts_4 : decode cX8_puts 4 = .ok (.iload_n 1, 1) := by decide +kernel
theorem dX8_puts_5 : decode cX8_puts 5 = .ok (.iconst 0, 1) := by decide +kernel
theorem dX8_puts_6 : decode cX8_puts 6 = .ok (.iadd, 1) := by decide +kernel
theorem dX8_puts_7 : decode cX8_puts 7 = .ok (.iload_n 3, 1) := by decide +kernel
theorem dX8_puts_8 : decode cX8_puts 8 = .ok (.ifCond .ne 7, 3) := by decide +kernel
theorem dX8_puts_11 : decode cX8_puts 11 = .ok (.iconst 0, 1) := by decide +kernel
theorem dX8_puts_12 : decode cX8_puts 12 = .ok (.goto 4, 3) := by decide +kernel
theorem dX8_puts_15 : decode cX8_puts 15 = .ok (.iload_n 2, 1) := by decide +kernel
theorem dX8_puts_16 : decode cX8_puts 16 = .ok (.iastore, 1) := by decide +kernel
theorem dX8_puts_17 : decode cX8_puts 17 = .ok (.aload_n 0, 1) := by decide +kernel
theorem dX8_puts_18 : decode cX8_puts 18 = .ok (.getfield 7, 3) := by decide +kernel
theorem dX8_puts_21 : decode cX8_puts 21 = .ok (.iload_n 1, 1) := by decide +kernel
theorem dX8_puts_22 : decode cX8_puts 22 = .ok (.iconst 1, 1) := by decide +kernel
theorem dX8_puts_23 : decode cX8_puts 23 = .ok (.iadd, 1) := by decide +kernel
theorem dX8_puts_24 : decode cX8_puts 24 = .ok (.iload_n 3, 1) := by decide +kernel
theorem dX8_puts_25 : decode cX8_puts 25 = .ok (.iastore, 1) := by decide +kernel
theorem dX8_puts_26 : decode cX8_puts 26 = .ok (.return_, 1) := by decide +kernel
theorem dX8_patterns_0 : decode cX8_patterns 0 = .ok (.iload_n 1, 1) := by decide +kernel
theorem dX8_patterns_1 : decode cX8_patterns 1 = .ok (.invokestatic 47, 3) := by decide +kernel
theorem dX8_patterns_4 : decode cX8_patterns 4 = .ok (.ifCond .ne 5, 3) := by decide +kernel
theorem dX8_patterns_7 : decode cX8_patterns 7 = .ok (.iconst (-1), 1) := by decide +kernel
theorem dX8_patterns_8 : decode cX8_patterns 8 = .ok (.ireturn, 1) := by decide +kernel
theorem dX8_patterns_9 : decode cX8_patterns 9 = .ok (.iload_n 2, 1) := by decide +kernel
theorem dX8_patterns_10 : decode cX8_patterns 10 = .ok (.iconst 0, 1) := by decide +kernel
theorem dX8_patterns_11 : decode cX8_patterns 11 = .ok (.ldc 71, 2) := by decide +kernel
theorem dX8_patterns_13 : decode cX8_patterns 13 = .ok (.invokestatic 39, 3) := by decide +kernel
theorem dX8_patterns_16 : decode cX8_patterns 16 = .ok (.istore_n 3, 1) := by decide +kernel
theorem dX8_patterns_17 : decode cX8_patterns 17 = .ok (.iconst 0, 1) := by decide +kernel
theorem dX8_patterns_18 : decode cX8_patterns 18 = .ok (.istore 4, 2) := by decide +kernel
theorem dX8_patterns_20 : decode cX8_patterns 20 = .ok (.iload 4, 2) := by decide +kernel
theorem dX8_patterns_22 : decode cX8_patterns 22 = .ok (.bipush 8, 2) := by decide +kernel
theorem dX8_patterns_24 : decode cX8_patterns 24 = .ok (.if_icmp .ge 33, 3) := by decide +kernel
theorem dX8_patterns_27 : decode cX8_patterns 27 = .ok (.iload_n 3, 1) := by decide +kernel
theorem dX8_patterns_28 : decode cX8_patterns 28 = .ok (.ifCond .eq 21, 3) := by decide +kernel
theorem dX8_patterns_31 : decode cX8_patterns 31 = .ok (.iload_n 2, 1) := by decide +kernel
theorem dX8_patterns_32 : decode cX8_patterns 32 = .ok (.iconst 3, 1) := by decide +kernel
theorem dX8_patterns_33 : decode cX8_patterns 33 = .ok (.iload 4, 2) := by decide +kernel
theorem dX8_patterns_35 : decode cX8_patterns 35 = .ok (.imul, 1) := by decide +kernel
theorem dX8_patterns_36 : decode cX8_patterns 36 = .ok (.ishr, 1) := by decide +kernel
theorem dX8_patterns_37 : decode cX8_patterns 37 = .ok (.bipush 7, 2) := by decide +kernel
theorem dX8_patterns_39 : decode cX8_patterns 39 = .ok (.iand, 1) := by decide +kernel
theorem dX8_patterns_40 : decode cX8_patterns 40 = .ok (.bipush 6, 2) := by decide +kernel
theorem dX8_patterns_42 : decode cX8_patterns 42 = .ok (.if_icmp .gt 7, 3) := by decide +kernel
theorem dX8_patterns_45 : decode cX8_patterns 45 = .ok (.iconst 1, 1) := by decide +kernel
theorem dX8_patterns_46 : decode cX8_patterns 46 = .ok (.goto 4, 3) := by decide +kernel
theorem dX8_patterns_49 : decode cX8_patterns 49 = .ok (.iconst 0, 1) := by decide +kernel
theorem dX8_patterns_50 : decode cX8_patterns 50 = .ok (.istore_n 3, 1) := by decide +kernel
theorem dX8_patterns_51 : decode cX8_patterns 51 = .ok (.iinc 4 1, 3) := by decide +kernel
theorem dX8_patterns_54 : decode cX8_patterns 54 = .ok (.goto (-34), 3) := by decide +kernel
theorem dX8_patterns_57 : decode cX8_patterns 57 = .ok (.iload_n 3, 1) := by decide +kernel
theorem dX8_patterns_58 : decode cX8_patterns 58 = .ok (.ifCond .ne 6, 3) := by decide +kernel
theorem dX8_patterns_61 : decode cX8_patterns 61 = .ok (.bipush (-2), 2) := by decide +kernel
theorem dX8_patterns_63 : decode cX8_patterns 63 = .ok (.ireturn, 1) := by decide +kernel
theorem dX8_patterns_64 : decode cX8_patterns 64 = .ok (.aload_n 0, 1) := by decide +kernel
theorem dX8_patterns_65 : decode cX8_patterns 65 = .ok (.iload_n 1, 1) := by decide +kernel
theorem dX8_patterns_66 : decode cX8_patterns 66 = .ok (.invokevirtual 72, 3) := by decide +kernel
theorem dX8_patterns_69 : decode cX8_patterns 69 = .ok (.ifCond .ne 6, 3) := by decide +kernel
theorem dX8_patterns_72 : decode cX8_patterns 72 = .ok (.bipush (-5), 2) := by decide +kernel
theorem dX8_patterns_74 : decode cX8_patterns 74 = .ok (.ireturn, 1) := by decide +kernel
theorem dX8_patterns_75 : decode cX8_patterns 75 = .ok (.aload_n 0, 1) := by decide +kernel
theorem dX8_patterns_76 : decode cX8_patterns 76 = .ok (.getfield 7, 3) := by decide +kernel
theorem dX8_patterns_79 : decode cX8_patterns 79 = .ok (.bipush 18, 2) := by decide +kernel
theorem dX8_patterns_81 : decode cX8_patterns 81 = .ok (.iload_n 1, 1) := by decide +kernel
theorem dX8_patterns_82 : decode cX8_patterns 82 = .ok (.iadd, 1) := by decide +kernel
theorem dX8_patterns_83 : decode cX8_patterns 83 = .ok (.iaload, 1) := by decide +kernel
theorem dX8_patterns_84 : decode cX8_patterns 84 = .ok (.istore 4, 2) := by decide +kernel
theorem dX8_patterns_86 : decode cX8_patterns 86 = .ok (.aload_n 0, 1) := by decide +kernel
theorem dX8_patterns_87 : decode cX8_patterns 87 = .ok (.getfield 7, 3) := by decide +kernel
theorem dX8_patterns_90 : decode cX8_patterns 90 = .ok (.bipush 18, 2) := by decide +kernel
theorem dX8_patterns_92 : decode cX8_patterns 92 = .ok (.iload_n 1, 1) := by decide +kernel
theorem dX8_patterns_93 : decode cX8_patterns 93 = .ok (.iadd, 1) := by decide +kernel
theorem dX8_patterns_94 : decode cX8_patterns 94 = .ok (.iconst 1, 1) := by decide +kernel
theorem dX8_patterns_95 : decode cX8_patterns 95 = .ok (.iastore, 1) := by decide +kernel
theorem dX8_patterns_96 : decode cX8_patterns 96 = .ok (.iconst 0, 1) := by decide +kernel
theorem dX8_patterns_97 : decode cX8_patterns 97 = .ok (.istore 5, 2) := by decide +kernel
theorem dX8_patterns_99 : decode cX8_patterns 99 = .ok (.iload 5, 2) := by decide +kernel
theorem dX8_patterns_101 : decode cX8_patterns 101 = .ok (.bipush 8, 2) := by decide +kernel
theorem dX8_patterns_103 : decode cX8_patterns 103 = .ok (.if_icmp .ge 33, 3) := by decide +kernel
theorem dX8_patterns_106 : decode cX8_patterns 106 = .ok (.aload_n 0, 1) := by decide +kernel
theorem dX8_patterns_107 : decode cX8_patterns 107 = .ok (.getfield 7, 3) := by decide +kernel
theorem dX8_patterns_110 : decode cX8_patterns 110 = .ok (.bipush 23, 2) := by decide +kernel
theorem dX8_patterns_112 : decode cX8_patterns 112 = .ok (.bipush 8, 2) := by decide +kernel
theorem dX8_patterns_114 : decode cX8_patterns 114 = .ok (.iload_n 1, 1) := by decide +kernel
theorem dX8_patterns_115 : decode cX8_patterns 115 = .ok (.imul, 1) := by decide +kernel
theorem dX8_patterns_116 : decode cX8_patterns 116 = .ok (.iadd, 1) := by decide +kernel
theorem dX8_patterns_117 : decode cX8_patterns 117 = .ok (.iload 5, 2) := by decide +kernel
theorem dX8_patterns_119 : decode cX8_patterns 119 = .ok (.iadd, 1) := by decide +kernel
theorem dX8_patterns_120 : decode cX8_patterns 120 = .ok (.iload_n 2, 1) := by decide +kernel
theorem dX8_patterns_121 : decode cX8_patterns 121 = .ok (.iconst 3, 1) := by decide +kernel
theorem dX8_patterns_122 : decode cX8_patterns 122 = .ok (.iload 5, 2) := by decide +kernel
theorem dX8_patterns_124 : decode cX8_patterns 124 = .ok (.imul, 1) := by decide +kernel
theorem dX8_patterns_125 : decode cX8_patterns 125 = .ok (.ishr, 1) := by decide +kernel
theorem dX8_patterns_126 : decode cX8_patterns 126 = .ok (.bipush 7, 2) := by decide +kernel
theorem dX8_patterns_128 : decode cX8_patterns 128 = .ok (.iand, 1) := by decide +kernel
theorem dX8_patterns_129 : decode cX8_patterns 129 = .ok (.iastore, 1) := by decide +kernel
theorem dX8_patterns_130 : decode cX8_patterns 130 = .ok (.iinc 5 1, 3) := by decide +kernel
theorem dX8_patterns_133 : decode cX8_patterns 133 = .ok (.goto (-34), 3) := by decide +kernel
theorem dX8_patterns_136 : decode cX8_patterns 136 = .ok (.iload 4, 2) := by decide +kernel
theorem dX8_patterns_138 : decode cX8_patterns 138 = .ok (.ireturn, 1) := by decide +kernel
theorem dX8_holder_0 : decode cX8_holder 0 = .ok (.bipush (-6), 2) := by decide +kernel
theorem dX8_holder_2 : decode cX8_holder 2 = .ok (.istore_n 2, 1) := by decide +kernel
theorem dX8_holder_3 : decode cX8_holder 3 = .ok (.iconst 3, 1) := by decide +kernel
theorem dX8_holder_4 : decode cX8_holder 4 = .ok (.istore_n 3, 1) := by decide +kernel
theorem dX8_holder_5 : decode cX8_holder 5 = .ok (.iload_n 3, 1) := by decide +kernel
theorem dX8_holder_6 : decode cX8_holder 6 = .ok (.ifCond .lt 28, 3) := by decide +kernel
theorem dX8_holder_9 : decode cX8_holder 9 = .ok (.aload_n 0, 1) := by decide +kernel
theorem dX8_holder_10 : decode cX8_holder 10 = .ok (.getfield 7, 3) := by decide +kernel
theorem dX8_holder_13 : decode cX8_holder 13 = .ok (.bipush 8, 2) := by decide +kernel
theorem dX8_holder_15 : decode cX8_holder 15 = .ok (.iload_n 3, 1) := by decide +kernel
theorem dX8_holder_16 : decode cX8_holder 16 = .ok (.iadd, 1) := by decide +kernel
theorem dX8_holder_17 : decode cX8_holder 17 = .ok (.iaload, 1) := by decide +kernel
theorem dX8_holder_18 : decode cX8_holder 18 = .ok (.iload_n 1, 1) := by decide +kernel
theorem dX8_holder_19 : decode cX8_holder 19 = .ok (.if_icmp .ne 7, 3) := by decide +kernel
theorem dX8_holder_22 : decode cX8_holder 22 = .ok (.iload_n 3, 1) := by decide +kernel
theorem dX8_holder_23 : decode cX8_holder 23 = .ok (.goto 4, 3) := by decide +kernel
theorem dX8_holder_26 : decode cX8_holder 26 = .ok (.iload_n 2, 1) := by decide +kernel
theorem dX8_holder_27 : decode cX8_holder 27 = .ok (.istore_n 2, 1) := by decide +kernel
theorem dX8_holder_28 : decode cX8_holder 28 = .ok (.iinc 3 (-1), 3) := by decide +kernel
theorem dX8_holder_31 : decode cX8_holder 31 = .ok (.goto (-26), 3) := by decide +kernel
theorem dX8_holder_34 : decode cX8_holder 34 = .ok (.iload_n 2, 1) := by decide +kernel
theorem dX8_holder_35 : decode cX8_holder 35 = .ok (.ireturn, 1) := by decide +kernel
theorem dX8_takes_0 : decode cX8_takes 0 = .ok (.iload_n 1, 1) := by decide +kernel
theorem dX8_takes_1 : decode cX8_takes 1 = .ok (.invokestatic 43, 3) := by decide +kernel
theorem dX8_takes_4 : decode cX8_takes 4 = .ok (.ifCond .ne 5, 3) := by decide +kernel
theorem dX8_takes_7 : decode cX8_takes 7 = .ok (.iconst (-1), 1) := by decide +kernel
theorem dX8_takes_8 : decode cX8_takes 8 = .ok (.ireturn, 1) := by decide +kernel
theorem dX8_takes_9 : decode cX8_takes 9 = .ok (.iload_n 2, 1) := by decide +kernel
theorem dX8_takes_10 : decode cX8_takes 10 = .ok (.iconst 0, 1) := by decide +kernel
theorem dX8_takes_11 : decode cX8_takes 11 = .ok (.bipush 6, 2) := by decide +kernel
theorem dX8_takes_13 : decode cX8_takes 13 = .ok (.invokestatic 39, 3) := by decide +kernel
theorem dX8_takes_16 : decode cX8_takes 16 = .ok (.ifCond .ne 6, 3) := by decide +kernel
theorem dX8_takes_19 : decode cX8_takes 19 = .ok (.bipush (-2), 2) := by decide +kernel
theorem dX8_takes_21 : decode cX8_takes 21 = .ok (.ireturn, 1) := by decide +kernel
theorem dX8_takes_22 : decode cX8_takes 22 = .ok (.iload_n 2, 1) := by decide +kernel
theorem dX8_takes_23 : decode cX8_takes 23 = .ok (.ifCond .le 25, 3) := by decide +kernel
theorem dX8_takes_26 : decode cX8_takes 26 = .ok (.aload_n 0, 1) := by decide +kernel
theorem dX8_takes_27 : decode cX8_takes 27 = .ok (.iload_n 2, 1) := by decide +kernel
theorem dX8_takes_28 : decode cX8_takes 28 = .ok (.invokevirtual 75, 3) := by decide +kernel
theorem dX8_takes_31 : decode cX8_takes 31 = .ok (.bipush (-6), 2) := by decide +kernel
theorem dX8_takes_33 : decode cX8_takes 33 = .ok (.if_icmp .eq 15, 3) := by decide +kernel
theorem dX8_takes_36 : decode cX8_takes 36 = .ok (.aload_n 0, 1) := by decide +kernel
theorem dX8_takes_37 : decode cX8_takes 37 = .ok (.iload_n 2, 1) := by decide +kernel
theorem dX8_takes_38 : decode cX8_takes 38 = .ok (.invokevirtual 75, 3) := by decide +kernel
theorem dX8_takes_41 : decode cX8_takes 41 = .ok (.iload_n 1, 1) := by decide +kernel
theorem dX8_takes_42 : decode cX8_takes 42 = .ok (.if_icmp .eq 6, 3) := by decide +kernel
theorem dX8_takes_45 : decode cX8_takes 45 = .ok (.bipush (-5), 2) := by decide +kernel
theorem dX8_takes_47 : decode cX8_takes 47 = .ok (.ireturn, 1) := by decide +kernel
theorem dX8_takes_48 : decode cX8_takes 48 = .ok (.aload_n 0, 1) := by decide +kernel
theorem dX8_takes_49 : decode cX8_takes 49 = .ok (.getfield 7, 3) := by decide +kernel
theorem dX8_takes_52 : decode cX8_takes 52 = .ok (.bipush 8, 2) := by decide +kernel
theorem dX8_takes_54 : decode cX8_takes 54 = .ok (.iload_n 1, 1) := by decide +kernel
theorem dX8_takes_55 : decode cX8_takes 55 = .ok (.iadd, 1) := by decide +kernel
theorem dX8_takes_56 : decode cX8_takes 56 = .ok (.iaload, 1) := by decide +kernel
theorem dX8_takes_57 : decode cX8_takes 57 = .ok (.istore_n 3, 1) := by decide +kernel
theorem dX8_takes_58 : decode cX8_takes 58 = .ok (.aload_n 0, 1) := by decide +kernel
theorem dX8_takes_59 : decode cX8_takes 59 = .ok (.getfield 7, 3) := by decide +kernel
theorem dX8_takes_62 : decode cX8_takes 62 = .ok (.bipush 8, 2) := by decide +kernel
theorem dX8_takes_64 : decode cX8_takes 64 = .ok (.iload_n 1, 1) := by decide +kernel
theorem dX8_takes_65 : decode cX8_takes 65 = .ok (.iadd, 1) := by decide +kernel
theorem dX8_takes_66 : decode cX8_takes 66 = .ok (.iload_n 2, 1) := by decide +kernel
theorem dX8_takes_67 : decode cX8_takes 67 = .ok (.iastore, 1) := by decide +kernel
theorem dX8_takes_68 : decode cX8_takes 68 = .ok (.iload_n 3, 1) := by decide +kernel
theorem dX8_takes_69 : decode cX8_takes 69 = .ok (.ireturn, 1) := by decide +kernel
theorem dX8_pours_0 : decode cX8_pours 0 = .ok (.iload_n 1, 1) := by decide +kernel
theorem dX8_pours_1 : decode cX8_pours 1 = .ok (.iload_n 2, 1) := by decide +kernel
theorem dX8_pours_2 : decode cX8_pours 2 = .ok (.iload_n 3, 1) := by decide +kernel
theorem dX8_pours_3 : decode cX8_pours 3 = .ok (.invokestatic 79, 3) := by decide +kernel
theorem dX8_pours_6 : decode cX8_pours 6 = .ok (.ifCond .ne 5, 3) := by decide +kernel
theorem dX8_pours_9 : decode cX8_pours 9 = .ok (.iconst (-1), 1) := by decide +kernel
theorem dX8_pours_10 : decode cX8_pours 10 = .ok (.ireturn, 1) := by decide +kernel
theorem dX8_pours_11 : decode cX8_pours 11 = .ok (.iload 4, 2) := by decide +kernel
theorem dX8_pours_13 : decode cX8_pours 13 = .ok (.iconst 1, 1) := by decide +kernel
theorem dX8_pours_14 : decode cX8_pours 14 = .ok (.bipush 99, 2) := by decide +kernel
theorem dX8_pours_16 : decode cX8_pours 16 = .ok (.invokestatic 39, 3) := by decide +kernel
theorem dX8_pours_19 : decode cX8_pours 19 = .ok (.ifCond .ne 6, 3) := by decide +kernel
theorem dX8_pours_22 : decode cX8_pours 22 = .ok (.bipush (-2), 2) := by decide +kernel
theorem dX8_pours_24 : decode cX8_pours 24 = .ok (.ireturn, 1) := by decide +kernel
theorem dX8_pours_25 : decode cX8_pours 25 = .ok (.iload_n 1, 1) := by decide +kernel
theorem dX8_pours_26 : decode cX8_pours 26 = .ok (.iload_n 2, 1) := by decide +kernel
theorem dX8_pours_27 : decode cX8_pours 27 = .ok (.iload_n 3, 1) := by decide +kernel
theorem dX8_pours_28 : decode cX8_pours 28 = .ok (.invokestatic 61, 3) := by decide +kernel
theorem dX8_pours_31 : decode cX8_pours 31 = .ok (.istore 5, 2) := by decide +kernel
theorem dX8_pours_33 : decode cX8_pours 33 = .ok (.aload_n 0, 1) := by decide +kernel
theorem dX8_pours_34 : decode cX8_pours 34 = .ok (.getfield 7, 3) := by decide +kernel
theorem dX8_pours_37 : decode cX8_pours 37 = .ok (.bipush 8, 2) := by decide +kernel
theorem dX8_pours_39 : decode cX8_pours 39 = .ok (.iload_n 1, 1) := by decide +kernel
theorem dX8_pours_40 : decode cX8_pours 40 = .ok (.iadd, 1) := by decide +kernel
theorem dX8_pours_41 : decode cX8_pours 41 = .ok (.iaload, 1) := by decide +kernel
theorem dX8_pours_42 : decode cX8_pours 42 = .ok (.istore 6, 2) := by decide +kernel
theorem dX8_pours_44 : decode cX8_pours 44 = .ok (.iload 6, 2) := by decide +kernel
theorem dX8_pours_46 : decode cX8_pours 46 = .ok (.ifCond .le 41, 3) := by decide +kernel
theorem dX8_pours_49 : decode cX8_pours 49 = .ok (.aload_n 0, 1) := by decide +kernel
theorem dX8_pours_50 : decode cX8_pours 50 = .ok (.iload_n 2, 1) := by decide +kernel
theorem dX8_pours_51 : decode cX8_pours 51 = .ok (.invokevirtual 72, 3) := by decide +kernel
theorem dX8_pours_54 : decode cX8_pours 54 = .ok (.ifCond .eq 33, 3) := by decide +kernel
theorem dX8_pours_57 : decode cX8_pours 57 = .ok (.aload_n 0, 1) := by decide +kernel
theorem dX8_pours_58 : decode cX8_pours 58 = .ok (.getfield 7, 3) := by decide +kernel
theorem dX8_pours_61 : decode cX8_pours 61 = .ok (.iload 5, 2) := by decide +kernel
theorem dX8_pours_63 : decode cX8_pours 63 = .ok (.iconst 1, 1) := by decide +kernel
theorem dX8_pours_64 : decode cX8_pours 64 = .ok (.iadd, 1) := by decide +kernel
theorem dX8_pours_65 : decode cX8_pours 65 = .ok (.iaload, 1) := by decide +kernel
theorem dX8_pours_66 : decode cX8_pours 66 = .ok (.ifCond .eq 17, 3) := by decide +kernel
theorem dX8_pours_69 : decode cX8_pours 69 = .ok (.aload_n 0, 1) := by decide +kernel
theorem dX8_pours_70 : decode cX8_pours 70 = .ok (.getfield 7, 3) := by decide +kernel
theorem dX8_pours_73 : decode cX8_pours 73 = .ok (.iload 5, 2) := by decide +kernel
theorem dX8_pours_75 : decode cX8_pours 75 = .ok (.iconst 0, 1) := by decide +kernel
theorem dX8_pours_76 : decode cX8_pours 76 = .ok (.iadd, 1) := by decide +kernel
theorem dX8_pours_77 : decode cX8_pours 77 = .ok (.iaload, 1) := by decide +kernel
theorem dX8_pours_78 : decode cX8_pours 78 = .ok (.iload 6, 2) := by decide +kernel
theorem dX8_pours_80 : decode cX8_pours 80 = .ok (.if_icmp .ne 7, 3) := by decide +kernel
theorem dX8_pours_83 : decode cX8_pours 83 = .ok (.iconst 1, 1) := by decide +kernel
theorem dX8_pours_84 : decode cX8_pours 84 = .ok (.goto 4, 3) := by decide +kernel
theorem dX8_pours_87 : decode cX8_pours 87 = .ok (.iconst 0, 1) := by decide +kernel
theorem dX8_pours_88 : decode cX8_pours 88 = .ok (.istore 7, 2) := by decide +kernel
theorem dX8_pours_90 : decode cX8_pours 90 = .ok (.iload 7, 2) := by decide +kernel
theorem dX8_pours_92 : decode cX8_pours 92 = .ok (.ifCond .eq 18, 3) := by decide +kernel
theorem dX8_pours_95 : decode cX8_pours 95 = .ok (.aload_n 0, 1) := by decide +kernel
theorem dX8_pours_96 : decode cX8_pours 96 = .ok (.getfield 7, 3) := by decide +kernel
theorem dX8_pours_99 : decode cX8_pours 99 = .ok (.bipush 11, 2) := by decide +kernel
theorem dX8_pours_101 : decode cX8_pours 101 = .ok (.iload 6, 2) := by decide +kernel
theorem dX8_pours_103 : decode cX8_pours 103 = .ok (.iadd, 1) := by decide +kernel
theorem dX8_pours_104 : decode cX8_pours 104 = .ok (.iaload, 1) := by decide +kernel
theorem dX8_pours_105 : decode cX8_pours 105 = .ok (.iload 4, 2) := by decide +kernel
theorem dX8_pours_107 : decode cX8_pours 107 = .ok (.if_icmp .ge 6, 3) := by decide +kernel
theorem dX8_pours_110 : decode cX8_pours 110 = .ok (.bipush (-5), 2) := by decide +kernel
theorem dX8_pours_112 : decode cX8_pours 112 = .ok (.ireturn, 1) := by decide +kernel
theorem dX8_pours_113 : decode cX8_pours 113 = .ok (.aload_n 0, 1) := by decide +kernel
theorem dX8_pours_114 : decode cX8_pours 114 = .ok (.getfield 7, 3) := by decide +kernel
theorem dX8_pours_117 : decode cX8_pours 117 = .ok (.iload 5, 2) := by decide +kernel
theorem dX8_pours_119 : decode cX8_pours 119 = .ok (.iconst 1, 1) := by decide +kernel
theorem dX8_pours_120 : decode cX8_pours 120 = .ok (.iadd, 1) := by decide +kernel
theorem dX8_pours_121 : decode cX8_pours 121 = .ok (.iaload, 1) := by decide +kernel
theorem dX8_pours_122 : decode cX8_pours 122 = .ok (.iload 4, 2) := by decide +kernel
theorem dX8_pours_124 : decode cX8_pours 124 = .ok (.iadd, 1) := by decide +kernel
theorem dX8_pours_125 : decode cX8_pours 125 = .ok (.bipush 99, 2) := by decide +kernel
theorem dX8_pours_127 : decode cX8_pours 127 = .ok (.if_icmp .le 6, 3) := by decide +kernel
theorem dX8_pours_130 : decode cX8_pours 130 = .ok (.bipush (-4), 2) := by decide +kernel
theorem dX8_pours_132 : decode cX8_pours 132 = .ok (.ireturn, 1) := by decide +kernel
theorem dX8_pours_133 : decode cX8_pours 133 = .ok (.aload_n 0, 1) := by decide +kernel
theorem dX8_pours_134 : decode cX8_pours 134 = .ok (.getfield 7, 3) := by decide +kernel
theorem dX8_pours_137 : decode cX8_pours 137 = .ok (.bipush 11, 2) := by decide +kernel
theorem dX8_pours_139 : decode cX8_pours 139 = .ok (.iload 6, 2) := by decide +kernel
theorem dX8_pours_141 : decode cX8_pours 141 = .ok (.iadd, 1) := by decide +kernel
theorem dX8_pours_142 : decode cX8_pours 142 = .ok (.dup2, 1) := by decide +kernel
theorem dX8_pours_143 : decode cX8_pours 143 = .ok (.iaload, 1) := by decide +kernel
theorem dX8_pours_144 : decode cX8_pours 144 = .ok (.iload 4, 2) := by decide +kernel
theorem dX8_pours_146 : decode cX8_pours 146 = .ok (.isub, 1) := by decide +kernel
theorem dX8_pours_147 : decode cX8_pours 147 = .ok (.iastore, 1) := by decide +kernel
theorem dX8_pours_148 : decode cX8_pours 148 = .ok (.aload_n 0, 1) := by decide +kernel
theorem dX8_pours_149 : decode cX8_pours 149 = .ok (.getfield 7, 3) := by decide +kernel
theorem dX8_pours_152 : decode cX8_pours 152 = .ok (.iconst 5, 1) := by decide +kernel
theorem dX8_pours_153 : decode cX8_pours 153 = .ok (.dup2, 1) := by decide +kernel
theorem dX8_pours_154 : decode cX8_pours 154 = .ok (.iaload, 1) := by decide +kernel
theorem dX8_pours_155 : decode cX8_pours 155 = .ok (.iload 4, 2) := by decide +kernel
theorem dX8_pours_157 : decode cX8_pours 157 = .ok (.iadd, 1) := by decide +kernel
theorem dX8_pours_158 : decode cX8_pours 158 = .ok (.iastore, 1) := by decide +kernel
theorem dX8_pours_159 : decode cX8_pours 159 = .ok (.aload_n 0, 1) := by decide +kernel
theorem dX8_pours_160 : decode cX8_pours 160 = .ok (.iload 5, 2) := by decide +kernel
theorem dX8_pours_162 : decode cX8_pours 162 = .ok (.iload 6, 2) := by decide +kernel
theorem dX8_pours_164 : decode cX8_pours 164 = .ok (.aload_n 0, 1) := by decide +kernel
theorem dX8_pours_165 : decode cX8_pours 165 = .ok (.getfield 7, 3) := by decide +kernel
theorem dX8_pours_168 : decode cX8_pours 168 = .ok (.iload 5, 2) := by decide +kernel
theorem dX8_pours_170 : decode cX8_pours 170 = .ok (.iconst 1, 1) := by decide +kernel
theorem dX8_pours_171 : decode cX8_pours 171 = .ok (.iadd, 1) := by decide +kernel
theorem dX8_pours_172 : decode cX8_pours 172 = .ok (.iaload, 1) := by decide +kernel
theorem dX8_pours_173 : decode cX8_pours 173 = .ok (.iload 4, 2) := by decide +kernel
theorem dX8_pours_175 : decode cX8_pours 175 = .ok (.iadd, 1) := by decide +kernel
theorem dX8_pours_176 : decode cX8_pours 176 = .ok (.invokevirtual 82, 3) := by decide +kernel
theorem dX8_pours_179 : decode cX8_pours 179 = .ok (.aload_n 0, 1) := by decide +kernel
theorem dX8_pours_180 : decode cX8_pours 180 = .ok (.getfield 7, 3) := by decide +kernel
theorem dX8_pours_183 : decode cX8_pours 183 = .ok (.iload 5, 2) := by decide +kernel
theorem dX8_pours_185 : decode cX8_pours 185 = .ok (.iconst 1, 1) := by decide +kernel
theorem dX8_pours_186 : decode cX8_pours 186 = .ok (.iadd, 1) := by decide +kernel
theorem dX8_pours_187 : decode cX8_pours 187 = .ok (.iaload, 1) := by decide +kernel
theorem dX8_pours_188 : decode cX8_pours 188 = .ok (.ireturn, 1) := by decide +kernel
theorem dX8_scrapes_0 : decode cX8_scrapes 0 = .ok (.iload_n 1, 1) := by decide +kernel
theorem dX8_scrapes_1 : decode cX8_scrapes 1 = .ok (.iload_n 2, 1) := by decide +kernel
theorem dX8_scrapes_2 : decode cX8_scrapes 2 = .ok (.iload_n 3, 1) := by decide +kernel
theorem dX8_scrapes_3 : decode cX8_scrapes 3 = .ok (.invokestatic 79, 3) := by decide +kernel
theorem dX8_scrapes_6 : decode cX8_scrapes 6 = .ok (.ifCond .ne 5, 3) := by decide +kernel
theorem dX8_scrapes_9 : decode cX8_scrapes 9 = .ok (.iconst (-1), 1) := by decide +kernel
theorem dX8_scrapes_10 : decode cX8_scrapes 10 = .ok (.ireturn, 1) := by decide +kernel
theorem dX8_scrapes_11 : decode cX8_scrapes 11 = .ok (.iload_n 1, 1) := by decide +kernel
theorem dX8_scrapes_12 : decode cX8_scrapes 12 = .ok (.iload_n 2, 1) := by decide +kernel
theorem dX8_scrapes_13 : decode cX8_scrapes 13 = .ok (.iload_n 3, 1) := by decide +kernel
theorem dX8_scrapes_14 : decode cX8_scrapes 14 = .ok (.invokestatic 61, 3) := by decide +kernel
theorem dX8_scrapes_17 : decode cX8_scrapes 17 = .ok (.istore 4, 2) := by decide +kernel
theorem dX8_scrapes_19 : decode cX8_scrapes 19 = .ok (.aload_n 0, 1) := by decide +kernel
theorem dX8_scrapes_20 : decode cX8_scrapes 20 = .ok (.getfield 7, 3) := by decide +kernel
theorem dX8_scrapes_23 : decode cX8_scrapes 23 = .ok (.iload 4, 2) := by decide +kernel
theorem dX8_scrapes_25 : decode cX8_scrapes 25 = .ok (.iconst 1, 1) := by decide +kernel
theorem dX8_scrapes_26 : decode cX8_scrapes 26 = .ok (.iadd, 1) := by decide +kernel
theorem dX8_scrapes_27 : decode cX8_scrapes 27 = .ok (.iaload, 1) := by decide +kernel
theorem dX8_scrapes_28 : decode cX8_scrapes 28 = .ok (.istore 5, 2) := by decide +kernel
theorem dX8_scrapes_30 : decode cX8_scrapes 30 = .ok (.aload_n 0, 1) := by decide +kernel
theorem dX8_scrapes_31 : decode cX8_scrapes 31 = .ok (.iload_n 2, 1) := by decide +kernel
theorem dX8_scrapes_32 : decode cX8_scrapes 32 = .ok (.invokevirtual 72, 3) := by decide +kernel
theorem dX8_scrapes_35 : decode cX8_scrapes 35 = .ok (.ifCond .eq 8, 3) := by decide +kernel
theorem dX8_scrapes_38 : decode cX8_scrapes 38 = .ok (.iload 5, 2) := by decide +kernel
theorem dX8_scrapes_40 : decode cX8_scrapes 40 = .ok (.ifCond .ne 6, 3) := by decide +kernel
theorem dX8_scrapes_43 : decode cX8_scrapes 43 = .ok (.bipush (-5), 2) := by decide +kernel
theorem dX8_scrapes_45 : decode cX8_scrapes 45 = .ok (.ireturn, 1) := by decide +kernel
theorem dX8_scrapes_46 : decode cX8_scrapes 46 = .ok (.aload_n 0, 1) := by decide +kernel
theorem dX8_scrapes_47 : decode cX8_scrapes 47 = .ok (.getfield 7, 3) := by decide +kernel
theorem dX8_scrapes_50 : decode cX8_scrapes 50 = .ok (.bipush 6, 2) := by decide +kernel
theorem dX8_scrapes_52 : decode cX8_scrapes 52 = .ok (.dup2, 1) := by decide +kernel
theorem dX8_scrapes_53 : decode cX8_scrapes 53 = .ok (.iaload, 1) := by decide +kernel
theorem dX8_scrapes_54 : decode cX8_scrapes 54 = .ok (.iload 5, 2) := by decide +kernel
theorem dX8_scrapes_56 : decode cX8_scrapes 56 = .ok (.iadd, 1) := by decide +kernel
theorem dX8_scrapes_57 : decode cX8_scrapes 57 = .ok (.iastore, 1) := by decide +kernel
theorem dX8_scrapes_58 : decode cX8_scrapes 58 = .ok (.aload_n 0, 1) := by decide +kernel
theorem dX8_scrapes_59 : decode cX8_scrapes 59 = .ok (.iload 4, 2) := by decide +kernel
theorem dX8_scrapes_61 : decode cX8_scrapes 61 = .ok (.iconst 0, 1) := by decide +kernel
theorem dX8_scrapes_62 : decode cX8_scrapes 62 = .ok (.iconst 0, 1) := by decide +kernel
theorem dX8_scrapes_63 : decode cX8_scrapes 63 = .ok (.invokevirtual 82, 3) := by decide +kernel
theorem dX8_scrapes_66 : decode cX8_scrapes 66 = .ok (.iload 5, 2) := by decide +kernel
theorem dX8_scrapes_68 : decode cX8_scrapes 68 = .ok (.ireturn, 1) := by decide +kernel
theorem dX8_spills_0 : decode cX8_spills 0 = .ok (.aload_n 0, 1) := by decide +kernel
theorem dX8_spills_1 : decode cX8_spills 1 = .ok (.getfield 29, 3) := by decide +kernel
theorem dX8_spills_4 : decode cX8_spills 4 = .ok (.iconst 2, 1) := by decide +kernel
theorem dX8_spills_5 : decode cX8_spills 5 = .ok (.iload_n 1, 1) := by decide +kernel
theorem dX8_spills_6 : decode cX8_spills 6 = .ok (.imul, 1) := by decide +kernel
theorem dX8_spills_7 : decode cX8_spills 7 = .ok (.iconst 1, 1) := by decide +kernel
theorem dX8_spills_8 : decode cX8_spills 8 = .ok (.iadd, 1) := by decide +kernel
theorem dX8_spills_9 : decode cX8_spills 9 = .ok (.iaload, 1) := by decide +kernel
theorem dX8_spills_10 : decode cX8_spills 10 = .ok (.aload_n 0, 1) := by decide +kernel
theorem dX8_spills_11 : decode cX8_spills 11 = .ok (.getfield 7, 3) := by decide +kernel
theorem dX8_spills_14 : decode cX8_spills 14 = .ok (.iconst 1, 1) := by decide +kernel
theorem dX8_spills_15 : decode cX8_spills 15 = .ok (.iaload, 1) := by decide +kernel
theorem dX8_spills_16 : decode cX8_spills 16 = .ok (.isub, 1) := by decide +kernel
theorem dX8_spills_17 : decode cX8_spills 17 = .ok (.istore_n 2, 1) := by decide +kernel
theorem dX8_spills_18 : decode cX8_spills 18 = .ok (.iload_n 2, 1) := by decide +kernel
theorem dX8_spills_19 : decode cX8_spills 19 = .ok (.ifCond .le 9, 3) := by decide +kernel
theorem dX8_spills_22 : decode cX8_spills 22 = .ok (.iload_n 2, 1) := by decide +kernel
theorem dX8_spills_23 : decode cX8_spills 23 = .ok (.iconst 2, 1) := by decide +kernel
theorem dX8_spills_24 : decode cX8_spills 24 = .ok (.idiv, 1) := by decide +kernel
theorem dX8_spills_25 : decode cX8_spills 25 = .ok (.goto 4, 3) := by decide +kernel
theorem dX8_spills_28 : decode cX8_spills 28 = .ok (.iconst 0, 1) := by decide +kernel
theorem dX8_spills_29 : decode cX8_spills 29 = .ok (.ireturn, 1) := by decide +kernel
theorem dX8_ringBreath_0 : decode cX8_ringBreath 0 = .ok (.iconst 0, 1) := by decide +kernel
theorem dX8_ringBreath_1 : decode cX8_ringBreath 1 = .ok (.istore 4, 2) := by decide +kernel
theorem dX8_ringBreath_3 : decode cX8_ringBreath 3 = .ok (.iconst 0, 1) := by decide +kernel
theorem dX8_ringBreath_4 : decode cX8_ringBreath 4 = .ok (.istore 5, 2) := by decide +kernel
theorem dX8_ringBreath_6 : decode cX8_ringBreath 6 = .ok (.iload 5, 2) := by decide +kernel
theorem dX8_ringBreath_8 : decode cX8_ringBreath 8 = .ok (.bipush 16, 2) := by decide +kernel
theorem dX8_ringBreath_10 : decode cX8_ringBreath 10 = .ok (.if_icmp .ge 30, 3) := by decide +kernel
theorem dX8_ringBreath_13 : decode cX8_ringBreath 13 = .ok (.aload_n 0, 1) := by decide +kernel
theorem dX8_ringBreath_14 : decode cX8_ringBreath 14 = .ok (.getfield 29, 3) := by decide +kernel
theorem dX8_ringBreath_17 : decode cX8_ringBreath 17 = .ok (.iload 5, 2) := by decide +kernel
theorem dX8_ringBreath_19 : decode cX8_ringBreath 19 = .ok (.aload_n 0, 1) := by decide +kernel
theorem dX8_ringBreath_20 : decode cX8_ringBreath 20 = .ok (.getfield 7, 3) := by decide +kernel
theorem dX8_ringBreath_23 : decode cX8_ringBreath 23 = .ok (.iload_n 1, 1) := by decide +kernel
theorem dX8_ringBreath_24 : decode cX8_ringBreath 24 = .ok (.iload_n 2, 1) := by decide +kernel
theorem dX8_ringBreath_25 : decode cX8_ringBreath 25 = .ok (.iconst 0, 1) := by decide +kernel
theorem dX8_ringBreath_26 : decode cX8_ringBreath 26 = .ok (.invokestatic 61, 3) := by decide +kernel
theorem dX8_ringBreath_29 : decode cX8_ringBreath 29 = .ok (.iload 5, 2) := by decide +kernel
theorem dX8_ringBreath_31 : decode cX8_ringBreath 31 = .ok (.iadd, 1) := by decide +kernel
theorem dX8_ringBreath_32 : decode cX8_ringBreath 32 = .ok (.iaload, 1) := by decide +kernel
theorem dX8_ringBreath_33 : decode cX8_ringBreath 33 = .ok (.iastore, 1) := by decide +kernel
theorem dX8_ringBreath_34 : decode cX8_ringBreath 34 = .ok (.iinc 5 1, 3) := by decide +kernel
theorem dX8_ringBreath_37 : decode cX8_ringBreath 37 = .ok (.goto (-31), 3) := by decide +kernel
theorem dX8_ringBreath_40 : decode cX8_ringBreath 40 = .ok (.iconst 0, 1) := by decide +kernel
theorem dX8_ringBreath_41 : decode cX8_ringBreath 41 = .ok (.istore 5, 2) := by decide +kernel
theorem dX8_ringBreath_43 : decode cX8_ringBreath 43 = .ok (.iload 5, 2) := by decide +kernel
theorem dX8_ringBreath_45 : decode cX8_ringBreath 45 = .ok (.bipush 8, 2) := by decide +kernel
theorem dX8_ringBreath_47 : decode cX8_ringBreath 47 = .ok (.if_icmp .ge 183, 3) := by decide +kernel
theorem dX8_ringBreath_50 : decode cX8_ringBreath 50 = .ok (.iload 5, 2) := by decide +kernel
theorem dX8_ringBreath_52 : decode cX8_ringBreath 52 = .ok (.iload_n 3, 1) := by decide +kernel
theorem dX8_ringBreath_53 : decode cX8_ringBreath 53 = .ok (.iconst 1, 1) := by decide +kernel
theorem dX8_ringBreath_54 : decode cX8_ringBreath 54 = .ok (.if_icmp .ne 7, 3) := by decide +kernel
theorem dX8_ringBreath_57 : decode cX8_ringBreath 57 = .ok (.iconst 1, 1) := by decide +kernel
theorem dX8_ringBreath_58 : decode cX8_ringBreath 58 = .ok (.goto 5, 3) := by decide +kernel
theorem dX8_ringBreath_61 : decode cX8_ringBreath 61 = .ok (.bipush 7, 2) := by decide +kernel
theorem dX8_ringBreath_63 : decode cX8_ringBreath 63 = .ok (.iadd, 1) := by decide +kernel
theorem dX8_ringBreath_64 : decode cX8_ringBreath 64 = .ok (.bipush 8, 2) := by decide +kernel
theorem dX8_ringBreath_66 : decode cX8_ringBreath 66 = .ok (.irem, 1) := by decide +kernel
theorem dX8_ringBreath_67 : decode cX8_ringBreath 67 = .ok (.istore 6, 2) := by decide +kernel
theorem dX8_ringBreath_69 : decode cX8_ringBreath 69 = .ok (.aload_n 0, 1) := by decide +kernel
theorem dX8_ringBreath_70 : decode cX8_ringBreath 70 = .ok (.iload 6, 2) := by decide +kernel
theorem dX8_ringBreath_72 : decode cX8_ringBreath 72 = .ok (.invokevirtual 86, 3) := by decide +kernel
theorem dX8_ringBreath_75 : decode cX8_ringBreath 75 = .ok (.istore 7, 2) := by decide +kernel
theorem dX8_ringBreath_77 : decode cX8_ringBreath 77 = .ok (.aload_n 0, 1) := by decide +kernel
theorem dX8_ringBreath_78 : decode cX8_ringBreath 78 = .ok (.getfield 29, 3) := by decide +kernel
theorem dX8_ringBreath_81 : decode cX8_ringBreath 81 = .ok (.iconst 2, 1) := by decide +kernel
theorem dX8_ringBreath_82 : decode cX8_ringBreath 82 = .ok (.iload 5, 2) := by decide +kernel
theorem dX8_ringBreath_84 : decode cX8_ringBreath 84 = .ok (.imul, 1) := by decide +kernel
theorem dX8_ringBreath_85 : decode cX8_ringBreath 85 = .ok (.iconst 0, 1) := by decide +kernel
theorem dX8_ringBreath_86 : decode cX8_ringBreath 86 = .ok (.iadd, 1) := by decide +kernel
theorem dX8_ringBreath_87 : decode cX8_ringBreath 87 = .ok (.iaload, 1) := by decide +kernel
theorem dX8_ringBreath_88 : decode cX8_ringBreath 88 = .ok (.istore 8, 2) := by decide +kernel
theorem dX8_ringBreath_90 : decode cX8_ringBreath 90 = .ok (.iload 8, 2) := by decide +kernel
theorem dX8_ringBreath_92 : decode cX8_ringBreath 92 = .ok (.ifCond .eq 19, 3) := by decide +kernel
theorem dX8_ringBreath_95 : decode cX8_ringBreath 95 = .ok (.iload 8, 2) := by decide +kernel
theorem dX8_ringBreath_97 : decode cX8_ringBreath 97 = .ok (.aload_n 0, 1) := by decide +kernel
theorem dX8_ringBreath_98 : decode cX8_ringBreath 98 = .ok (.getfield 29, 3) := by decide +kernel
theorem dX8_ringBreath_101 : decode cX8_ringBreath 101 = .ok (.iconst 2, 1) := by decide +kernel
theorem dX8_ringBreath_102 : decode cX8_ringBreath 102 = .ok (.iload 6, 2) := by decide +kernel
theorem dX8_ringBreath_104 : decode cX8_ringBreath 104 = .ok (.imul, 1) := by decide +kernel
theorem dX8_ringBreath_105 : decode cX8_ringBreath 105 = .ok (.iconst 0, 1) := by decide +kernel
theorem dX8_ringBreath_106 : decode cX8_ringBreath 106 = .ok (.iadd, 1) := by decide +kernel
theorem dX8_ringBreath_107 : decode cX8_ringBreath 107 = .ok (.iaload, 1) := by decide +kernel
theorem dX8_ringBreath_108 : decode cX8_ringBreath 108 = .ok (.if_icmp .ne 7, 3) := by decide +kernel
theorem dX8_ringBreath_111 : decode cX8_ringBreath 111 = .ok (.iconst 1, 1) := by decide +kernel
theorem dX8_ringBreath_112 : decode cX8_ringBreath 112 = .ok (.goto 4, 3) := by decide +kernel
theorem dX8_ringBreath_115 : decode cX8_ringBreath 115 = .ok (.iconst 0, 1) := by decide +kernel
theorem dX8_ringBreath_116 : decode cX8_ringBreath 116 = .ok (.istore 9, 2) := by decide +kernel
theorem dX8_ringBreath_118 : decode cX8_ringBreath 118 = .ok (.aload_n 0, 1) := by decide +kernel
theorem dX8_ringBreath_119 : decode cX8_ringBreath 119 = .ok (.getfield 29, 3) := by decide +kernel
theorem dX8_ringBreath_122 : decode cX8_ringBreath 122 = .ok (.iconst 2, 1) := by decide +kernel
theorem dX8_ringBreath_123 : decode cX8_ringBreath 123 = .ok (.iload 5, 2) := by decide +kernel
theorem dX8_ringBreath_125 : decode cX8_ringBreath 125 = .ok (.imul, 1) := by decide +kernel
theorem dX8_ringBreath_126 : decode cX8_ringBreath 126 = .ok (.iconst 1, 1) := by decide +kernel
theorem dX8_ringBreath_127 : decode cX8_ringBreath 127 = .ok (.iadd, 1) := by decide +kernel
theorem dX8_ringBreath_128 : decode cX8_ringBreath 128 = .ok (.iaload, 1) := by decide +kernel
theorem dX8_ringBreath_129 : decode cX8_ringBreath 129 = .ok (.aload_n 0, 1) := by decide +kernel
theorem dX8_ringBreath_130 : decode cX8_ringBreath 130 = .ok (.iload 5, 2) := by decide +kernel
theorem dX8_ringBreath_132 : decode cX8_ringBreath 132 = .ok (.invokevirtual 86, 3) := by decide +kernel
theorem dX8_ringBreath_135 : decode cX8_ringBreath 135 = .ok (.isub, 1) := by decide +kernel
theorem dX8_ringBreath_136 : decode cX8_ringBreath 136 = .ok (.iload 9, 2) := by decide +kernel
theorem dX8_ringBreath_138 : decode cX8_ringBreath 138 = .ok (.ifCond .eq 8, 3) := by decide +kernel
theorem dX8_ringBreath_141 : decode cX8_ringBreath 141 = .ok (.iload 7, 2) := by decide +kernel
theorem dX8_ringBreath_143 : decode cX8_ringBreath 143 = .ok (.goto 4, 3) := by decide +kernel
theorem dX8_ringBreath_146 : decode cX8_ringBreath 146 = .ok (.iconst 0, 1) := by decide +kernel
theorem dX8_ringBreath_147 : decode cX8_ringBreath 147 = .ok (.iadd, 1) := by decide +kernel
theorem dX8_ringBreath_148 : decode cX8_ringBreath 148 = .ok (.istore 10, 2) := by decide +kernel
theorem dX8_ringBreath_150 : decode cX8_ringBreath 150 = .ok (.iload 10, 2) := by decide +kernel
theorem dX8_ringBreath_152 : decode cX8_ringBreath 152 = .ok (.bipush 99, 2) := by decide +kernel
theorem dX8_ringBreath_154 : decode cX8_ringBreath 154 = .ok (.if_icmp .le 11, 3) := by decide +kernel
theorem dX8_ringBreath_157 : decode cX8_ringBreath 157 = .ok (.iload 10, 2) := by decide +kernel
theorem dX8_ringBreath_159 : decode cX8_ringBreath 159 = .ok (.bipush 99, 2) := by decide +kernel
theorem dX8_ringBreath_161 : decode cX8_ringBreath 161 = .ok (.isub, 1) := by decide +kernel
theorem dX8_ringBreath_162 : decode cX8_ringBreath 162 = .ok (.goto 4, 3) := by decide +kernel
theorem dX8_ringBreath_165 : decode cX8_ringBreath 165 = .ok (.iconst 0, 1) := by decide +kernel
theorem dX8_ringBreath_166 : decode cX8_ringBreath 166 = .ok (.istore 11, 2) := by decide +kernel
theorem dX8_ringBreath_168 : decode cX8_ringBreath 168 = .ok (.iload 4, 2) := by decide +kernel
theorem dX8_ringBreath_170 : decode cX8_ringBreath 170 = .ok (.iload 9, 2) := by decide +kernel
theorem dX8_ringBreath_172 : decode cX8_ringBreath 172 = .ok (.ifCond .eq 7, 3) := by decide +kernel
theorem dX8_ringBreath_175 : decode cX8_ringBreath 175 = .ok (.iconst 0, 1) := by decide +kernel
theorem dX8_ringBreath_176 : decode cX8_ringBreath 176 = .ok (.goto 5, 3) := by decide +kernel
theorem dX8_ringBreath_179 : decode cX8_ringBreath 179 = .ok (.iload 7, 2) := by decide +kernel
theorem dX8_ringBreath_181 : decode cX8_ringBreath 181 = .ok (.iload 11, 2) := by decide +kernel
theorem dX8_ringBreath_183 : decode cX8_ringBreath 183 = .ok (.iadd, 1) := by decide +kernel
theorem dX8_ringBreath_184 : decode cX8_ringBreath 184 = .ok (.iadd, 1) := by decide +kernel
theorem dX8_ringBreath_185 : decode cX8_ringBreath 185 = .ok (.istore 4, 2) := by decide +kernel
theorem dX8_ringBreath_187 : decode cX8_ringBreath 187 = .ok (.aload_n 0, 1) := by decide +kernel
theorem dX8_ringBreath_188 : decode cX8_ringBreath 188 = .ok (.iload_n 1, 1) := by decide +kernel
theorem dX8_ringBreath_189 : decode cX8_ringBreath 189 = .ok (.iload_n 2, 1) := by decide +kernel
theorem dX8_ringBreath_190 : decode cX8_ringBreath 190 = .ok (.iload 5, 2) := by decide +kernel
theorem dX8_ringBreath_192 : decode cX8_ringBreath 192 = .ok (.invokestatic 61, 3) := by decide +kernel
theorem dX8_ringBreath_195 : decode cX8_ringBreath 195 = .ok (.iload 8, 2) := by decide +kernel
theorem dX8_ringBreath_197 : decode cX8_ringBreath 197 = .ok (.ifCond .ne 17, 3) := by decide +kernel
theorem dX8_ringBreath_200 : decode cX8_ringBreath 200 = .ok (.aload_n 0, 1) := by decide +kernel
theorem dX8_ringBreath_201 : decode cX8_ringBreath 201 = .ok (.getfield 29, 3) := by decide +kernel
theorem dX8_ringBreath_204 : decode cX8_ringBreath 204 = .ok (.iconst 2, 1) := by decide +kernel
theorem dX8_ringBreath_205 : decode cX8_ringBreath 205 = .ok (.iload 6, 2) := by decide +kernel
theorem dX8_ringBreath_207 : decode cX8_ringBreath 207 = .ok (.imul, 1) := by decide +kernel
theorem dX8_ringBreath_208 : decode cX8_ringBreath 208 = .ok (.iconst 0, 1) := by decide +kernel
theorem dX8_ringBreath_209 : decode cX8_ringBreath 209 = .ok (.iadd, 1) := by decide +kernel
theorem dX8_ringBreath_210 : decode cX8_ringBreath 210 = .ok (.iaload, 1) := by decide +kernel
theorem dX8_ringBreath_211 : decode cX8_ringBreath 211 = .ok (.goto 5, 3) := by decide +kernel
theorem dX8_ringBreath_214 : decode cX8_ringBreath 214 = .ok (.iload 8, 2) := by decide +kernel
theorem dX8_ringBreath_216 : decode cX8_ringBreath 216 = .ok (.iload 10, 2) := by decide +kernel
theorem dX8_ringBreath_218 : decode cX8_ringBreath 218 = .ok (.iload 11, 2) := by decide +kernel
theorem dX8_ringBreath_220 : decode cX8_ringBreath 220 = .ok (.isub, 1) := by decide +kernel
theorem dX8_ringBreath_221 : decode cX8_ringBreath 221 = .ok (.invokevirtual 82, 3) := by decide +kernel
theorem dX8_ringBreath_224 : decode cX8_ringBreath 224 = .ok (.iinc 5 1, 3) := by decide +kernel
theorem dX8_ringBreath_227 : decode cX8_ringBreath 227 = .ok (.goto (-184), 3) := by decide +kernel
theorem dX8_ringBreath_230 : decode cX8_ringBreath 230 = .ok (.iload 4, 2) := by decide +kernel
theorem dX8_ringBreath_232 : decode cX8_ringBreath 232 = .ok (.ireturn, 1) := by decide +kernel
theorem dX8_breathes_0 : decode cX8_breathes 0 = .ok (.iload_n 1, 1) := by decide +kernel
theorem dX8_breathes_1 : decode cX8_breathes 1 = .ok (.invokestatic 43, 3) := by decide +kernel
theorem dX8_breathes_4 : decode cX8_breathes 4 = .ok (.ifCond .ne 5, 3) := by decide +kernel
theorem dX8_breathes_7 : decode cX8_breathes 7 = .ok (.iconst (-1), 1) := by decide +kernel
theorem dX8_breathes_8 : decode cX8_breathes 8 = .ok (.ireturn, 1) := by decide +kernel
theorem dX8_breathes_9 : decode cX8_breathes 9 = .ok (.iload_n 2, 1) := by decide +kernel
theorem dX8_breathes_10 : decode cX8_breathes 10 = .ok (.iconst 0, 1) := by decide +kernel
theorem dX8_breathes_11 : decode cX8_breathes 11 = .ok (.iconst 1, 1) := by decide +kernel
theorem dX8_breathes_12 : decode cX8_breathes 12 = .ok (.invokestatic 39, 3) := by decide +kernel
theorem dX8_breathes_15 : decode cX8_breathes 15 = .ok (.ifCond .ne 6, 3) := by decide +kernel
theorem dX8_breathes_18 : decode cX8_breathes 18 = .ok (.bipush (-2), 2) := by decide +kernel
theorem dX8_breathes_20 : decode cX8_breathes 20 = .ok (.ireturn, 1) := by decide +kernel
theorem dX8_breathes_21 : decode cX8_breathes 21 = .ok (.iconst 0, 1) := by decide +kernel
theorem dX8_breathes_22 : decode cX8_breathes 22 = .ok (.istore_n 3, 1) := by decide +kernel
theorem dX8_breathes_23 : decode cX8_breathes 23 = .ok (.aload_n 0, 1) := by decide +kernel
theorem dX8_breathes_24 : decode cX8_breathes 24 = .ok (.getfield 7, 3) := by decide +kernel
theorem dX8_breathes_27 : decode cX8_breathes 27 = .ok (.iconst 3, 1) := by decide +kernel
theorem dX8_breathes_28 : decode cX8_breathes 28 = .ok (.iaload, 1) := by decide +kernel
theorem dX8_breathes_29 : decode cX8_breathes 29 = .ok (.istore 4, 2) := by decide +kernel
theorem dX8_breathes_31 : decode cX8_breathes 31 = .ok (.iload 4, 2) := by decide +kernel
theorem dX8_breathes_33 : decode cX8_breathes 33 = .ok (.iconst 5, 1) := by decide +kernel
theorem dX8_breathes_34 : decode cX8_breathes 34 = .ok (.if_icmp .ge 20, 3) := by decide +kernel
theorem dX8_breathes_37 : decode cX8_breathes 37 = .ok (.iload_n 3, 1) := by decide +kernel
theorem dX8_breathes_38 : decode cX8_breathes 38 = .ok (.aload_n 0, 1) := by decide +kernel
theorem dX8_breathes_39 : decode cX8_breathes 39 = .ok (.iload_n 1, 1) := by decide +kernel
theorem dX8_breathes_40 : decode cX8_breathes 40 = .ok (.iload 4, 2) := by decide +kernel
theorem dX8_breathes_42 : decode cX8_breathes 42 = .ok (.iload_n 2, 1) := by decide +kernel
theorem dX8_breathes_43 : decode cX8_breathes 43 = .ok (.invokevirtual 89, 3) := by decide +kernel
theorem dX8_breathes_46 : decode cX8_breathes 46 = .ok (.iadd, 1) := by decide +kernel
theorem dX8_breathes_47 : decode cX8_breathes 47 = .ok (.istore_n 3, 1) := by decide +kernel
theorem dX8_breathes_48 : decode cX8_breathes 48 = .ok (.iinc 4 1, 3) := by decide +kernel
theorem dX8_breathes_51 : decode cX8_breathes 51 = .ok (.goto (-20), 3) := by decide +kernel
theorem dX8_breathes_54 : decode cX8_breathes 54 = .ok (.aload_n 0, 1) := by decide +kernel
theorem dX8_breathes_55 : decode cX8_breathes 55 = .ok (.getfield 7, 3) := by decide +kernel
theorem dX8_breathes_58 : decode cX8_breathes 58 = .ok (.bipush 6, 2) := by decide +kernel
theorem dX8_breathes_60 : decode cX8_breathes 60 = .ok (.dup2, 1) := by decide +kernel
theorem dX8_breathes_61 : decode cX8_breathes 61 = .ok (.iaload, 1) := by decide +kernel
theorem dX8_breathes_62 : decode cX8_breathes 62 = .ok (.iload_n 3, 1) := by decide +kernel
theorem dX8_breathes_63 : decode cX8_breathes 63 = .ok (.iadd, 1) := by decide +kernel
theorem dX8_breathes_64 : decode cX8_breathes 64 = .ok (.iastore, 1) := by decide +kernel
theorem dX8_breathes_65 : decode cX8_breathes 65 = .ok (.iload_n 3, 1) := by decide +kernel
theorem dX8_breathes_66 : decode cX8_breathes 66 = .ok (.ireturn, 1) := by decide +kernel
theorem dX8_closes_0 : decode cX8_closes 0 = .ok (.aload_n 0, 1) := by decide +kernel
theorem dX8_closes_1 : decode cX8_closes 1 = .ok (.getfield 7, 3) := by decide +kernel
theorem dX8_closes_4 : decode cX8_closes 4 = .ok (.iconst 3, 1) := by decide +kernel
theorem dX8_closes_5 : decode cX8_closes 5 = .ok (.iaload, 1) := by decide +kernel
theorem dX8_closes_6 : decode cX8_closes 6 = .ok (.iconst 5, 1) := by decide +kernel
theorem dX8_closes_7 : decode cX8_closes 7 = .ok (.if_icmp .eq 16, 3) := by decide +kernel
theorem dX8_closes_10 : decode cX8_closes 10 = .ok (.aload_n 0, 1) := by decide +kernel
theorem dX8_closes_11 : decode cX8_closes 11 = .ok (.aload_n 0, 1) := by decide +kernel
theorem dX8_closes_12 : decode cX8_closes 12 = .ok (.getfield 7, 3) := by decide +kernel
theorem dX8_closes_15 : decode cX8_closes 15 = .ok (.iconst 3, 1) := by decide +kernel
theorem dX8_closes_16 : decode cX8_closes 16 = .ok (.iaload, 1) := by decide +kernel
theorem dX8_closes_17 : decode cX8_closes 17 = .ok (.invokevirtual 92, 3) := by decide +kernel
theorem dX8_closes_20 : decode cX8_closes 20 = .ok (.ifCond .ne 6, 3) := by decide +kernel
theorem dX8_closes_23 : decode cX8_closes 23 = .ok (.bipush (-5), 2) := by decide +kernel
theorem dX8_closes_25 : decode cX8_closes 25 = .ok (.ireturn, 1) := by decide +kernel
theorem dX8_closes_26 : decode cX8_closes 26 = .ok (.aload_n 0, 1) := by decide +kernel
theorem dX8_closes_27 : decode cX8_closes 27 = .ok (.getfield 7, 3) := by decide +kernel
theorem dX8_closes_30 : decode cX8_closes 30 = .ok (.iconst 3, 1) := by decide +kernel
theorem dX8_closes_31 : decode cX8_closes 31 = .ok (.dup2, 1) := by decide +kernel
theorem dX8_closes_32 : decode cX8_closes 32 = .ok (.iaload, 1) := by decide +kernel
theorem dX8_closes_33 : decode cX8_closes 33 = .ok (.iconst 1, 1) := by decide +kernel
theorem dX8_closes_34 : decode cX8_closes 34 = .ok (.iadd, 1) := by decide +kernel
theorem dX8_closes_35 : decode cX8_closes 35 = .ok (.iastore, 1) := by decide +kernel
theorem dX8_closes_36 : decode cX8_closes 36 = .ok (.aload_n 0, 1) := by decide +kernel
theorem dX8_closes_37 : decode cX8_closes 37 = .ok (.getfield 7, 3) := by decide +kernel
theorem dX8_closes_40 : decode cX8_closes 40 = .ok (.iconst 3, 1) := by decide +kernel
theorem dX8_closes_41 : decode cX8_closes 41 = .ok (.iaload, 1) := by decide +kernel
theorem dX8_closes_42 : decode cX8_closes 42 = .ok (.iconst 1, 1) := by decide +kernel
theorem dX8_closes_43 : decode cX8_closes 43 = .ok (.isub, 1) := by decide +kernel
theorem dX8_closes_44 : decode cX8_closes 44 = .ok (.ireturn, 1) := by decide +kernel
theorem dX8_swept_0 : decode cX8_swept 0 = .ok (.iload_n 0, 1) := by decide +kernel
theorem dX8_swept_1 : decode cX8_swept 1 = .ok (.iconst 1, 1) := by decide +kernel
theorem dX8_swept_2 : decode cX8_swept 2 = .ok (.if_icmp .ne 7, 3) := by decide +kernel
theorem dX8_swept_5 : decode cX8_swept 5 = .ok (.iconst 2, 1) := by decide +kernel
theorem dX8_swept_6 : decode cX8_swept 6 = .ok (.goto 13, 3) := by decide +kernel
theorem dX8_swept_9 : decode cX8_swept 9 = .ok (.iload_n 0, 1) := by decide +kernel
theorem dX8_swept_10 : decode cX8_swept 10 = .ok (.iconst 2, 1) := by decide +kernel
theorem dX8_swept_11 : decode cX8_swept 11 = .ok (.if_icmp .ne 7, 3) := by decide +kernel
theorem dX8_swept_14 : decode cX8_swept 14 = .ok (.iconst 1, 1) := by decide +kernel
theorem dX8_swept_15 : decode cX8_swept 15 = .ok (.goto 4, 3) := by decide +kernel
theorem dX8_swept_18 : decode cX8_swept 18 = .ok (.iload_n 0, 1) := by decide +kernel
theorem dX8_swept_19 : decode cX8_swept 19 = .ok (.ireturn, 1) := by decide +kernel
theorem dX8_sweeps_0 : decode cX8_sweeps 0 = .ok (.aload_n 0, 1) := by decide +kernel
theorem dX8_sweeps_1 : decode cX8_sweeps 1 = .ok (.getfield 7, 3) := by decide +kernel
theorem dX8_sweeps_4 : decode cX8_sweeps 4 = .ok (.iconst 3, 1) := by decide +kernel
theorem dX8_sweeps_5 : decode cX8_sweeps 5 = .ok (.iaload, 1) := by decide +kernel
theorem dX8_sweeps_6 : decode cX8_sweeps 6 = .ok (.iconst 5, 1) := by decide +kernel
theorem dX8_sweeps_7 : decode cX8_sweeps 7 = .ok (.if_icmp .ge 6, 3) := by decide +kernel
theorem dX8_sweeps_10 : decode cX8_sweeps 10 = .ok (.bipush (-5), 2) := by decide +kernel
theorem dX8_sweeps_12 : decode cX8_sweeps 12 = .ok (.ireturn, 1) := by decide +kernel
theorem dX8_sweeps_13 : decode cX8_sweeps 13 = .ok (.aload_n 0, 1) := by decide +kernel
theorem dX8_sweeps_14 : decode cX8_sweeps 14 = .ok (.getfield 7, 3) := by decide +kernel
theorem dX8_sweeps_17 : decode cX8_sweeps 17 = .ok (.bipush 7, 2) := by decide +kernel
theorem dX8_sweeps_19 : decode cX8_sweeps 19 = .ok (.iaload, 1) := by decide +kernel
theorem dX8_sweeps_20 : decode cX8_sweeps 20 = .ok (.invokestatic 95, 3) := by decide +kernel
theorem dX8_sweeps_23 : decode cX8_sweeps 23 = .ok (.istore_n 1, 1) := by decide +kernel
theorem dX8_sweeps_24 : decode cX8_sweeps 24 = .ok (.iconst 0, 1) := by decide +kernel
theorem dX8_sweeps_25 : decode cX8_sweeps 25 = .ok (.istore_n 2, 1) := by decide +kernel
theorem dX8_sweeps_26 : decode cX8_sweeps 26 = .ok (.iload_n 2, 1) := by decide +kernel
theorem dX8_sweeps_27 : decode cX8_sweeps 27 = .ok (.bipush 40, 2) := by decide +kernel
theorem dX8_sweeps_29 : decode cX8_sweeps 29 = .ok (.if_icmp .ge 47, 3) := by decide +kernel
theorem dX8_sweeps_32 : decode cX8_sweeps 32 = .ok (.iload_n 1, 1) := by decide +kernel
theorem dX8_sweeps_33 : decode cX8_sweeps 33 = .ok (.iload_n 2, 1) := by decide +kernel
theorem dX8_sweeps_34 : decode cX8_sweeps 34 = .ok (.bipush 8, 2) := by decide +kernel
theorem dX8_sweeps_36 : decode cX8_sweeps 36 = .ok (.idiv, 1) := by decide +kernel
theorem dX8_sweeps_37 : decode cX8_sweeps 37 = .ok (.iload_n 2, 1) := by decide +kernel
theorem dX8_sweeps_38 : decode cX8_sweeps 38 = .ok (.bipush 8, 2) := by decide +kernel
theorem dX8_sweeps_40 : decode cX8_sweeps 40 = .ok (.irem, 1) := by decide +kernel
theorem dX8_sweeps_41 : decode cX8_sweeps 41 = .ok (.invokestatic 61, 3) := by decide +kernel
theorem dX8_sweeps_44 : decode cX8_sweeps 44 = .ok (.istore_n 3, 1) := by decide +kernel
theorem dX8_sweeps_45 : decode cX8_sweeps 45 = .ok (.aload_n 0, 1) := by decide +kernel
theorem dX8_sweeps_46 : decode cX8_sweeps 46 = .ok (.getfield 7, 3) := by decide +kernel
theorem dX8_sweeps_49 : decode cX8_sweeps 49 = .ok (.bipush 6, 2) := by decide +kernel
theorem dX8_sweeps_51 : decode cX8_sweeps 51 = .ok (.dup2, 1) := by decide +kernel
theorem dX8_sweeps_52 : decode cX8_sweeps 52 = .ok (.iaload, 1) := by decide +kernel
theorem dX8_sweeps_53 : decode cX8_sweeps 53 = .ok (.aload_n 0, 1) := by decide +kernel
theorem dX8_sweeps_54 : decode cX8_sweeps 54 = .ok (.getfield 7, 3) := by decide +kernel
theorem dX8_sweeps_57 : decode cX8_sweeps 57 = .ok (.iload_n 3, 1) := by decide +kernel
theorem dX8_sweeps_58 : decode cX8_sweeps 58 = .ok (.iconst 1, 1) := by decide +kernel
theorem dX8_sweeps_59 : decode cX8_sweeps 59 = .ok (.iadd, 1) := by decide +kernel
theorem dX8_sweeps_60 : decode cX8_sweeps 60 = .ok (.iaload, 1) := by decide +kernel
theorem dX8_sweeps_61 : decode cX8_sweeps 61 = .ok (.iadd, 1) := by decide +kernel
theorem dX8_sweeps_62 : decode cX8_sweeps 62 = .ok (.iastore, 1) := by decide +kernel
theorem dX8_sweeps_63 : decode cX8_sweeps 63 = .ok (.aload_n 0, 1) := by decide +kernel
theorem dX8_sweeps_64 : decode cX8_sweeps 64 = .ok (.iload_n 3, 1) := by decide +kernel
theorem dX8_sweeps_65 : decode cX8_sweeps 65 = .ok (.iconst 0, 1) := by decide +kernel
theorem dX8_sweeps_66 : decode cX8_sweeps 66 = .ok (.iconst 0, 1) := by decide +kernel
theorem dX8_sweeps_67 : decode cX8_sweeps 67 = .ok (.invokevirtual 82, 3) := by decide +kernel
theorem dX8_sweeps_70 : decode cX8_sweeps 70 = .ok (.iinc 2 1, 3) := by decide +kernel
theorem dX8_sweeps_73 : decode cX8_sweeps 73 = .ok (.goto (-47), 3) := by decide +kernel
theorem dX8_sweeps_76 : decode cX8_sweeps 76 = .ok (.aload_n 0, 1) := by decide +kernel
theorem dX8_sweeps_77 : decode cX8_sweeps 77 = .ok (.getfield 7, 3) := by decide +kernel
theorem dX8_sweeps_80 : decode cX8_sweeps 80 = .ok (.bipush 7, 2) := by decide +kernel
theorem dX8_sweeps_82 : decode cX8_sweeps 82 = .ok (.dup2, 1) := by decide +kernel
theorem dX8_sweeps_83 : decode cX8_sweeps 83 = .ok (.iaload, 1) := by decide +kernel
theorem dX8_sweeps_84 : decode cX8_sweeps 84 = .ok (.iconst 1, 1) := by decide +kernel
theorem dX8_sweeps_85 : decode cX8_sweeps 85 = .ok (.iadd, 1) := by decide +kernel
theorem dX8_sweeps_86 : decode cX8_sweeps 86 = .ok (.iastore, 1) := by decide +kernel
theorem dX8_sweeps_87 : decode cX8_sweeps 87 = .ok (.aload_n 0, 1) := by decide +kernel
theorem dX8_sweeps_88 : decode cX8_sweeps 88 = .ok (.getfield 7, 3) := by decide +kernel
theorem dX8_sweeps_91 : decode cX8_sweeps 91 = .ok (.bipush 7, 2) := by decide +kernel
theorem dX8_sweeps_93 : decode cX8_sweeps 93 = .ok (.iaload, 1) := by decide +kernel
theorem dX8_sweeps_94 : decode cX8_sweeps 94 = .ok (.iconst 4, 1) := by decide +kernel
theorem dX8_sweeps_95 : decode cX8_sweeps 95 = .ok (.if_icmp .ne 52, 3) := by decide +kernel
theorem dX8_sweeps_98 : decode cX8_sweeps 98 = .ok (.aload_n 0, 1) := by decide +kernel
theorem dX8_sweeps_99 : decode cX8_sweeps 99 = .ok (.getfield 7, 3) := by decide +kernel
theorem dX8_sweeps_102 : decode cX8_sweeps 102 = .ok (.bipush 7, 2) := by decide +kernel
theorem dX8_sweeps_104 : decode cX8_sweeps 104 = .ok (.iconst 0, 1) := by decide +kernel
theorem dX8_sweeps_105 : decode cX8_sweeps 105 = .ok (.iastore, 1) := by decide +kernel
theorem dX8_sweeps_106 : decode cX8_sweeps 106 = .ok (.aload_n 0, 1) := by decide +kernel
theorem dX8_sweeps_107 : decode cX8_sweeps 107 = .ok (.getfield 7, 3) := by decide +kernel
theorem dX8_sweeps_110 : decode cX8_sweeps 110 = .ok (.iconst 3, 1) := by decide +kernel
theorem dX8_sweeps_111 : decode cX8_sweeps 111 = .ok (.iconst 0, 1) := by decide +kernel
theorem dX8_sweeps_112 : decode cX8_sweeps 112 = .ok (.iastore, 1) := by decide +kernel
theorem dX8_sweeps_113 : decode cX8_sweeps 113 = .ok (.aload_n 0, 1) := by decide +kernel
theorem dX8_sweeps_114 : decode cX8_sweeps 114 = .ok (.getfield 7, 3) := by decide +kernel
theorem dX8_sweeps_117 : decode cX8_sweeps 117 = .ok (.iconst 4, 1) := by decide +kernel
theorem dX8_sweeps_118 : decode cX8_sweeps 118 = .ok (.dup2, 1) := by decide +kernel
theorem dX8_sweeps_119 : decode cX8_sweeps 119 = .ok (.iaload, 1) := by decide +kernel
theorem dX8_sweeps_120 : decode cX8_sweeps 120 = .ok (.iconst 1, 1) := by decide +kernel
theorem dX8_sweeps_121 : decode cX8_sweeps 121 = .ok (.iadd, 1) := by decide +kernel
theorem dX8_sweeps_122 : decode cX8_sweeps 122 = .ok (.iastore, 1) := by decide +kernel
theorem dX8_sweeps_123 : decode cX8_sweeps 123 = .ok (.iconst 0, 1) := by decide +kernel
theorem dX8_sweeps_124 : decode cX8_sweeps 124 = .ok (.istore_n 2, 1) := by decide +kernel
theorem dX8_sweeps_125 : decode cX8_sweeps 125 = .ok (.iload_n 2, 1) := by decide +kernel
theorem dX8_sweeps_126 : decode cX8_sweeps 126 = .ok (.bipush 45, 2) := by decide +kernel
theorem dX8_sweeps_128 : decode cX8_sweeps 128 = .ok (.if_icmp .ge 19, 3) := by decide +kernel
theorem dX8_sweeps_131 : decode cX8_sweeps 131 = .ok (.aload_n 0, 1) := by decide +kernel
theorem dX8_sweeps_132 : decode cX8_sweeps 132 = .ok (.getfield 7, 3) := by decide +kernel
theorem dX8_sweeps_135 : decode cX8_sweeps 135 = .ok (.bipush 18, 2) := by decide +kernel
theorem dX8_sweeps_137 : decode cX8_sweeps 137 = .ok (.iload_n 2, 1) := by decide +kernel
theorem dX8_sweeps_138 : decode cX8_sweeps 138 = .ok (.iadd, 1) := by decide +kernel
theorem dX8_sweeps_139 : decode cX8_sweeps 139 = .ok (.iconst 0, 1) := by decide +kernel
theorem dX8_sweeps_140 : decode cX8_sweeps 140 = .ok (.iastore, 1) := by decide +kernel
theorem dX8_sweeps_141 : decode cX8_sweeps 141 = .ok (.iinc 2 1, 3) := by decide +kernel
theorem dX8_sweeps_144 : decode cX8_sweeps 144 = .ok (.goto (-19), 3) := by decide +kernel
theorem dX8_sweeps_147 : decode cX8_sweeps 147 = .ok (.iload_n 1, 1) := by decide +kernel
theorem dX8_sweeps_148 : decode cX8_sweeps 148 = .ok (.ireturn, 1) := by decide +kernel
theorem dX8_set_0 : decode cX8_set 0 = .ok (.iload_n 1, 1) := by decide +kernel
theorem dX8_set_1 : decode cX8_set 1 = .ok (.ifCond .ne 13, 3) := by decide +kernel
theorem dX8_set_4 : decode cX8_set 4 = .ok (.iload_n 2, 1) := by decide +kernel
theorem dX8_set_5 : decode cX8_set 5 = .ok (.iconst 1, 1) := by decide +kernel
theorem dX8_set_6 : decode cX8_set 6 = .ok (.bipush 50, 2) := by decide +kernel
theorem dX8_set_8 : decode cX8_set 8 = .ok (.invokestatic 39, 3) := by decide +kernel
theorem dX8_set_11 : decode cX8_set 11 = .ok (.goto 37, 3) := by decide +kernel
theorem dX8_set_14 : decode cX8_set 14 = .ok (.iload_n 1, 1) := by decide +kernel
theorem dX8_set_15 : decode cX8_set 15 = .ok (.iconst 1, 1) := by decide +kernel
theorem dX8_set_16 : decode cX8_set 16 = .ok (.if_icmp .ne 13, 3) := by decide +kernel
theorem dX8_set_19 : decode cX8_set 19 = .ok (.iload_n 2, 1) := by decide +kernel
theorem dX8_set_20 : decode cX8_set 20 = .ok (.iconst 1, 1) := by decide +kernel
theorem dX8_set_21 : decode cX8_set 21 = .ok (.bipush 99, 2) := by decide +kernel
theorem dX8_set_23 : decode cX8_set 23 = .ok (.invokestatic 39, 3) := by decide +kernel
theorem dX8_set_26 : decode cX8_set 26 = .ok (.goto 22, 3) := by decide +kernel
theorem dX8_set_29 : decode cX8_set 29 = .ok (.iload_n 1, 1) := by decide +kernel
theorem dX8_set_30 : decode cX8_set 30 = .ok (.iconst 2, 1) := by decide +kernel
theorem dX8_set_31 : decode cX8_set 31 = .ok (.if_icmp .ne 16, 3) := by decide +kernel
theorem dX8_set_34 : decode cX8_set 34 = .ok (.iload_n 2, 1) := by decide +kernel
theorem dX8_set_35 : decode cX8_set 35 = .ok (.iconst 0, 1) := by decide +kernel
theorem dX8_set_36 : decode cX8_set 36 = .ok (.iconst 1, 1) := by decide +kernel
theorem dX8_set_37 : decode cX8_set 37 = .ok (.invokestatic 39, 3) := by decide +kernel
theorem dX8_set_40 : decode cX8_set 40 = .ok (.ifCond .eq 7, 3) := by decide +kernel
theorem dX8_set_43 : decode cX8_set 43 = .ok (.iconst 1, 1) := by decide +kernel
theorem dX8_set_44 : decode cX8_set 44 = .ok (.goto 4, 3) := by decide +kernel
theorem dX8_set_47 : decode cX8_set 47 = .ok (.iconst 0, 1) := by decide +kernel
theorem dX8_set_48 : decode cX8_set 48 = .ok (.istore_n 3, 1) := by decide +kernel
theorem dX8_set_49 : decode cX8_set 49 = .ok (.iload_n 3, 1) := by decide +kernel
theorem dX8_set_50 : decode cX8_set 50 = .ok (.ifCond .ne 6, 3) := by decide +kernel
theorem dX8_set_53 : decode cX8_set 53 = .ok (.bipush (-2), 2) := by decide +kernel
theorem dX8_set_55 : decode cX8_set 55 = .ok (.ireturn, 1) := by decide +kernel
theorem dX8_set_56 : decode cX8_set 56 = .ok (.aload_n 0, 1) := by decide +kernel
theorem dX8_set_57 : decode cX8_set 57 = .ok (.invokevirtual 98, 3) := by decide +kernel
theorem dX8_set_60 : decode cX8_set 60 = .ok (.aload_n 0, 1) := by decide +kernel
theorem dX8_set_61 : decode cX8_set 61 = .ok (.getfield 7, 3) := by decide +kernel
theorem dX8_set_64 : decode cX8_set 64 = .ok (.iload_n 1, 1) := by decide +kernel
theorem dX8_set_65 : decode cX8_set 65 = .ok (.iaload, 1) := by decide +kernel
theorem dX8_set_66 : decode cX8_set 66 = .ok (.istore 4, 2) := by decide +kernel
theorem dX8_set_68 : decode cX8_set 68 = .ok (.aload_n 0, 1) := by decide +kernel
theorem dX8_set_69 : decode cX8_set 69 = .ok (.getfield 7, 3) := by decide +kernel
theorem dX8_set_72 : decode cX8_set 72 = .ok (.iload_n 1, 1) := by decide +kernel
theorem dX8_set_73 : decode cX8_set 73 = .ok (.iload_n 2, 1) := by decide +kernel
theorem dX8_set_74 : decode cX8_set 74 = .ok (.iastore, 1) := by decide +kernel
theorem dX8_set_75 : decode cX8_set 75 = .ok (.aload_n 0, 1) := by decide +kernel
theorem dX8_set_76 : decode cX8_set 76 = .ok (.iload 4, 2) := by decide +kernel
theorem dX8_set_78 : decode cX8_set 78 = .ok (.invokevirtual 101, 3) := by decide +kernel
theorem dX8_set_81 : decode cX8_set 81 = .ok (.ireturn, 1) := by decide +kernel
theorem dX8_pattern_0 : decode cX8_pattern 0 = .ok (.aload_n 0, 1) := by decide +kernel
theorem dX8_pattern_1 : decode cX8_pattern 1 = .ok (.invokevirtual 98, 3) := by decide +kernel
theorem dX8_pattern_4 : decode cX8_pattern 4 = .ok (.aload_n 0, 1) := by decide +kernel
theorem dX8_pattern_5 : decode cX8_pattern 5 = .ok (.aload_n 0, 1) := by decide +kernel
theorem dX8_pattern_6 : decode cX8_pattern 6 = .ok (.iload_n 1, 1) := by decide +kernel
theorem dX8_pattern_7 : decode cX8_pattern 7 = .ok (.iload_n 2, 1) := by decide +kernel
theorem dX8_pattern_8 : decode cX8_pattern 8 = .ok (.invokevirtual 104, 3) := by decide +kernel
theorem dX8_pattern_11 : decode cX8_pattern 11 = .ok (.invokevirtual 101, 3) := by decide +kernel
theorem dX8_pattern_14 : decode cX8_pattern 14 = .ok (.ireturn, 1) := by decide +kernel
theorem dX8_take_0 : decode cX8_take 0 = .ok (.aload_n 0, 1) := by decide +kernel
theorem dX8_take_1 : decode cX8_take 1 = .ok (.invokevirtual 98, 3) := by decide +kernel
theorem dX8_take_4 : decode cX8_take 4 = .ok (.aload_n 0, 1) := by decide +kernel
theorem dX8_take_5 : decode cX8_take 5 = .ok (.aload_n 0, 1) := by decide +kernel
theorem dX8_take_6 : decode cX8_take 6 = .ok (.iload_n 1, 1) := by decide +kernel
theorem dX8_take_7 : decode cX8_take 7 = .ok (.iload_n 2, 1) := by decide +kernel
theorem dX8_take_8 : decode cX8_take 8 = .ok (.invokevirtual 107, 3) := by decide +kernel
theorem dX8_take_11 : decode cX8_take 11 = .ok (.invokevirtual 101, 3) := by decide +kernel
theorem dX8_take_14 : decode cX8_take 14 = .ok (.ireturn, 1) := by decide +kernel
theorem dX8_fill_0 : decode cX8_fill 0 = .ok (.iload_n 1, 1) := by decide +kernel
theorem dX8_fill_1 : decode cX8_fill 1 = .ok (.invokestatic 110, 3) := by decide +kernel
theorem dX8_fill_4 : decode cX8_fill 4 = .ok (.ifCond .ne 5, 3) := by decide +kernel
theorem dX8_fill_7 : decode cX8_fill 7 = .ok (.iconst (-1), 1) := by decide +kernel
theorem dX8_fill_8 : decode cX8_fill 8 = .ok (.ireturn, 1) := by decide +kernel
theorem dX8_fill_9 : decode cX8_fill 9 = .ok (.iload_n 2, 1) := by decide +kernel
theorem dX8_fill_10 : decode cX8_fill 10 = .ok (.iconst 1, 1) := by decide +kernel
theorem dX8_fill_11 : decode cX8_fill 11 = .ok (.sipush 9999, 3) := by decide +kernel
theorem dX8_fill_14 : decode cX8_fill 14 = .ok (.invokestatic 39, 3) := by decide +kernel
theorem dX8_fill_17 : decode cX8_fill 17 = .ok (.ifCond .ne 6, 3) := by decide +kernel
theorem dX8_fill_20 : decode cX8_fill 20 = .ok (.bipush (-2), 2) := by decide +kernel
theorem dX8_fill_22 : decode cX8_fill 22 = .ok (.ireturn, 1) := by decide +kernel
theorem dX8_fill_23 : decode cX8_fill 23 = .ok (.aload_n 0, 1) := by decide +kernel
theorem dX8_fill_24 : decode cX8_fill 24 = .ok (.invokevirtual 98, 3) := by decide +kernel
theorem dX8_fill_27 : decode cX8_fill 27 = .ok (.aload_n 0, 1) := by decide +kernel
theorem dX8_fill_28 : decode cX8_fill 28 = .ok (.getfield 7, 3) := by decide +kernel
theorem dX8_fill_31 : decode cX8_fill 31 = .ok (.bipush 11, 2) := by decide +kernel
theorem dX8_fill_33 : decode cX8_fill 33 = .ok (.iload_n 1, 1) := by decide +kernel
theorem dX8_fill_34 : decode cX8_fill 34 = .ok (.iadd, 1) := by decide +kernel
theorem dX8_fill_35 : decode cX8_fill 35 = .ok (.iaload, 1) := by decide +kernel
theorem dX8_fill_36 : decode cX8_fill 36 = .ok (.iload_n 2, 1) := by decide +kernel
theorem dX8_fill_37 : decode cX8_fill 37 = .ok (.iadd, 1) := by decide +kernel
theorem dX8_fill_38 : decode cX8_fill 38 = .ok (.istore_n 3, 1) := by decide +kernel
theorem dX8_fill_39 : decode cX8_fill 39 = .ok (.aload_n 0, 1) := by decide +kernel
theorem dX8_fill_40 : decode cX8_fill 40 = .ok (.getfield 7, 3) := by decide +kernel
theorem dX8_fill_43 : decode cX8_fill 43 = .ok (.bipush 11, 2) := by decide +kernel
theorem dX8_fill_45 : decode cX8_fill 45 = .ok (.iload_n 1, 1) := by decide +kernel
theorem dX8_fill_46 : decode cX8_fill 46 = .ok (.iadd, 1) := by decide +kernel
theorem dX8_fill_47 : decode cX8_fill 47 = .ok (.iload_n 3, 1) := by decide +kernel
theorem dX8_fill_48 : decode cX8_fill 48 = .ok (.sipush 9999, 3) := by decide +kernel
theorem dX8_fill_51 : decode cX8_fill 51 = .ok (.if_icmp .le 9, 3) := by decide +kernel
theorem dX8_fill_54 : decode cX8_fill 54 = .ok (.sipush 9999, 3) := by decide +kernel
theorem dX8_fill_57 : decode cX8_fill 57 = .ok (.goto 4, 3) := by decide +kernel
theorem dX8_fill_60 : decode cX8_fill 60 = .ok (.iload_n 3, 1) := by decide +kernel
theorem dX8_fill_61 : decode cX8_fill 61 = .ok (.iastore, 1) := by decide +kernel
theorem dX8_fill_62 : decode cX8_fill 62 = .ok (.aload_n 0, 1) := by decide +kernel
theorem dX8_fill_63 : decode cX8_fill 63 = .ok (.aload_n 0, 1) := by decide +kernel
theorem dX8_fill_64 : decode cX8_fill 64 = .ok (.getfield 7, 3) := by decide +kernel
theorem dX8_fill_67 : decode cX8_fill 67 = .ok (.bipush 11, 2) := by decide +kernel
theorem dX8_fill_69 : decode cX8_fill 69 = .ok (.iload_n 1, 1) := by decide +kernel
theorem dX8_fill_70 : decode cX8_fill 70 = .ok (.iadd, 1) := by decide +kernel
theorem dX8_fill_71 : decode cX8_fill 71 = .ok (.iaload, 1) := by decide +kernel
theorem dX8_fill_72 : decode cX8_fill 72 = .ok (.invokevirtual 101, 3) := by decide +kernel
theorem dX8_fill_75 : decode cX8_fill 75 = .ok (.ireturn, 1) := by decide +kernel
theorem dX8_pour_0 : decode cX8_pour 0 = .ok (.aload_n 0, 1) := by decide +kernel
theorem dX8_pour_1 : decode cX8_pour 1 = .ok (.invokevirtual 98, 3) := by decide +kernel
theorem dX8_pour_4 : decode cX8_pour 4 = .ok (.aload_n 0, 1) := by decide +kernel
theorem dX8_pour_5 : decode cX8_pour 5 = .ok (.aload_n 0, 1) := by decide +kernel
theorem dX8_pour_6 : decode cX8_pour 6 = .ok (.iload_n 1, 1) := by decide +kernel
theorem dX8_pour_7 : decode cX8_pour 7 = .ok (.iload_n 2, 1) := by decide +kernel
theorem dX8_pour_8 : decode cX8_pour 8 = .ok (.iload_n 3, 1) := by decide +kernel
theorem dX8_pour_9 : decode cX8_pour 9 = .ok (.iload 4, 2) := by decide +kernel
theorem dX8_pour_11 : decode cX8_pour 11 = .ok (.invokevirtual 113, 3) := by decide +kernel
theorem dX8_pour_14 : decode cX8_pour 14 = .ok (.invokevirtual 101, 3) := by decide +kernel
theorem dX8_pour_17 : decode cX8_pour 17 = .ok (.ireturn, 1) := by decide +kernel
theorem dX8_scrape_0 : decode cX8_scrape 0 = .ok (.aload_n 0, 1) := by decide +kernel
theorem dX8_scrape_1 : decode cX8_scrape 1 = .ok (.invokevirtual 98, 3) := by decide +kernel
theorem dX8_scrape_4 : decode cX8_scrape 4 = .ok (.aload_n 0, 1) := by decide +kernel
theorem dX8_scrape_5 : decode cX8_scrape 5 = .ok (.aload_n 0, 1) := by decide +kernel
theorem dX8_scrape_6 : decode cX8_scrape 6 = .ok (.iload_n 1, 1) := by decide +kernel
theorem dX8_scrape_7 : decode cX8_scrape 7 = .ok (.iload_n 2, 1) := by decide +kernel
theorem dX8_scrape_8 : decode cX8_scrape 8 = .ok (.iload_n 3, 1) := by decide +kernel
theorem dX8_scrape_9 : decode cX8_scrape 9 = .ok (.invokevirtual 117, 3) := by decide +kernel
theorem dX8_scrape_12 : decode cX8_scrape 12 = .ok (.invokevirtual 101, 3) := by decide +kernel
theorem dX8_scrape_15 : decode cX8_scrape 15 = .ok (.ireturn, 1) := by decide +kernel
theorem dX8_breathe_0 : decode cX8_breathe 0 = .ok (.aload_n 0, 1) := by decide +kernel
theorem dX8_breathe_1 : decode cX8_breathe 1 = .ok (.invokevirtual 98, 3) := by decide +kernel
theorem dX8_breathe_4 : decode cX8_breathe 4 = .ok (.aload_n 0, 1) := by decide +kernel
theorem dX8_breathe_5 : decode cX8_breathe 5 = .ok (.aload_n 0, 1) := by decide +kernel
theorem dX8_breathe_6 : decode cX8_breathe 6 = .ok (.iload_n 1, 1) := by decide +kernel
theorem dX8_breathe_7 : decode cX8_breathe 7 = .ok (.iload_n 2, 1) := by decide +kernel
theorem dX8_breathe_8 : decode cX8_breathe 8 = .ok (.invokevirtual 120, 3) := by decide +kernel
theorem dX8_breathe_11 : decode cX8_breathe 11 = .ok (.invokevirtual 101, 3) := by decide +kernel
theorem dX8_breathe_14 : decode cX8_breathe 14 = .ok (.ireturn, 1) := by decide +kernel
theorem dX8_close_0 : decode cX8_close 0 = .ok (.aload_n 0, 1) := by decide +kernel
theorem dX8_close_1 : decode cX8_close 1 = .ok (.invokevirtual 98, 3) := by decide +kernel
theorem dX8_close_4 : decode cX8_close 4 = .ok (.aload_n 0, 1) := by decide +kernel
theorem dX8_close_5 : decode cX8_close 5 = .ok (.aload_n 0, 1) := by decide +kernel
theorem dX8_close_6 : decode cX8_close 6 = .ok (.invokevirtual 123, 3) := by decide +kernel
theorem dX8_close_9 : decode cX8_close 9 = .ok (.invokevirtual 101, 3) := by decide +kernel
theorem dX8_close_12 : decode cX8_close 12 = .ok (.ireturn, 1) := by decide +kernel
theorem dX8_sweep_0 : decode cX8_sweep 0 = .ok (.aload_n 0, 1) := by decide +kernel
theorem dX8_sweep_1 : decode cX8_sweep 1 = .ok (.invokevirtual 98, 3) := by decide +kernel
theorem dX8_sweep_4 : decode cX8_sweep 4 = .ok (.aload_n 0, 1) := by decide +kernel
theorem dX8_sweep_5 : decode cX8_sweep 5 = .ok (.aload_n 0, 1) := by decide +kernel
theorem dX8_sweep_6 : decode cX8_sweep 6 = .ok (.invokevirtual 127, 3) := by decide +kernel
theorem dX8_sweep_9 : decode cX8_sweep 9 = .ok (.invokevirtual 101, 3) := by decide +kernel
theorem dX8_sweep_12 : decode cX8_sweep 12 = .ok (.ireturn, 1) := by decide +kernel
theorem dX8_at_0 : decode cX8_at 0 = .ok (.iload_n 1, 1) := by decide +kernel
theorem dX8_at_1 : decode cX8_at 1 = .ok (.iload_n 2, 1) := by decide +kernel
theorem dX8_at_2 : decode cX8_at 2 = .ok (.iload_n 3, 1) := by decide +kernel
theorem dX8_at_3 : decode cX8_at 3 = .ok (.invokestatic 79, 3) := by decide +kernel
theorem dX8_at_6 : decode cX8_at 6 = .ok (.ifCond .ne 5, 3) := by decide +kernel
theorem dX8_at_9 : decode cX8_at 9 = .ok (.iconst (-1), 1) := by decide +kernel
theorem dX8_at_10 : decode cX8_at 10 = .ok (.ireturn, 1) := by decide +kernel
theorem dX8_at_11 : decode cX8_at 11 = .ok (.iload 4, 2) := by decide +kernel
theorem dX8_at_13 : decode cX8_at 13 = .ok (.tableswitch 81 0 4 #[35, 35, 50, 58, 74], 35) := by decide +kernel
theorem dX8_at_48 : decode cX8_at 48 = .ok (.aload_n 0, 1) := by decide +kernel
theorem dX8_at_49 : decode cX8_at 49 = .ok (.getfield 7, 3) := by decide +kernel
theorem dX8_at_52 : decode cX8_at 52 = .ok (.iload_n 1, 1) := by decide +kernel
theorem dX8_at_53 : decode cX8_at 53 = .ok (.iload_n 2, 1) := by decide +kernel
theorem dX8_at_54 : decode cX8_at 54 = .ok (.iload_n 3, 1) := by decide +kernel
theorem dX8_at_55 : decode cX8_at 55 = .ok (.invokestatic 61, 3) := by decide +kernel
theorem dX8_at_58 : decode cX8_at 58 = .ok (.iload 4, 2) := by decide +kernel
theorem dX8_at_60 : decode cX8_at 60 = .ok (.iadd, 1) := by decide +kernel
theorem dX8_at_61 : decode cX8_at 61 = .ok (.iaload, 1) := by decide +kernel
theorem dX8_at_62 : decode cX8_at 62 = .ok (.ireturn, 1) := by decide +kernel
theorem dX8_at_63 : decode cX8_at 63 = .ok (.aload_n 0, 1) := by decide +kernel
theorem dX8_at_64 : decode cX8_at 64 = .ok (.iload_n 1, 1) := by decide +kernel
theorem dX8_at_65 : decode cX8_at 65 = .ok (.iload_n 2, 1) := by decide +kernel
theorem dX8_at_66 : decode cX8_at 66 = .ok (.iload_n 3, 1) := by decide +kernel
theorem dX8_at_67 : decode cX8_at 67 = .ok (.invokevirtual 65, 3) := by decide +kernel
theorem dX8_at_70 : decode cX8_at 70 = .ok (.ireturn, 1) := by decide +kernel
theorem dX8_at_71 : decode cX8_at 71 = .ok (.aload_n 0, 1) := by decide +kernel
theorem dX8_at_72 : decode cX8_at 72 = .ok (.iload_n 1, 1) := by decide +kernel
theorem dX8_at_73 : decode cX8_at 73 = .ok (.iload_n 2, 1) := by decide +kernel
theorem dX8_at_74 : decode cX8_at 74 = .ok (.iload_n 3, 1) := by decide +kernel
theorem dX8_at_75 : decode cX8_at 75 = .ok (.invokevirtual 68, 3) := by decide +kernel
theorem dX8_at_78 : decode cX8_at 78 = .ok (.ifCond .eq 7, 3) := by decide +kernel
theorem dX8_at_81 : decode cX8_at 81 = .ok (.iconst 1, 1) := by decide +kernel
theorem dX8_at_82 : decode cX8_at 82 = .ok (.goto 4, 3) := by decide +kernel
theorem dX8_at_85 : decode cX8_at 85 = .ok (.iconst 0, 1) := by decide +kernel
theorem dX8_at_86 : decode cX8_at 86 = .ok (.ireturn, 1) := by decide +kernel
theorem dX8_at_87 : decode cX8_at 87 = .ok (.aload_n 0, 1) := by decide +kernel
theorem dX8_at_88 : decode cX8_at 88 = .ok (.iload_n 1, 1) := by decide +kernel
theorem dX8_at_89 : decode cX8_at 89 = .ok (.iload_n 3, 1) := by decide +kernel
theorem dX8_at_90 : decode cX8_at 90 = .ok (.invokevirtual 57, 3) := by decide +kernel
theorem dX8_at_93 : decode cX8_at 93 = .ok (.ireturn, 1) := by decide +kernel
theorem dX8_at_94 : decode cX8_at 94 = .ok (.bipush (-2), 2) := by decide +kernel
theorem dX8_at_96 : decode cX8_at 96 = .ok (.ireturn, 1) := by decide +kernel
theorem dX8_unlike_0 : decode cX8_unlike 0 = .ok (.iconst 0, 1) := by decide +kernel
theorem dX8_unlike_1 : decode cX8_unlike 1 = .ok (.istore_n 2, 1) := by decide +kernel
theorem dX8_unlike_2 : decode cX8_unlike 2 = .ok (.iconst 0, 1) := by decide +kernel
theorem dX8_unlike_3 : decode cX8_unlike 3 = .ok (.istore_n 3, 1) := by decide +kernel
theorem dX8_unlike_4 : decode cX8_unlike 4 = .ok (.iload_n 3, 1) := by decide +kernel
theorem dX8_unlike_5 : decode cX8_unlike 5 = .ok (.bipush 8, 2) := by decide +kernel
theorem dX8_unlike_7 : decode cX8_unlike 7 = .ok (.if_icmp .ge 79, 3) := by decide +kernel
theorem dX8_unlike_10 : decode cX8_unlike 10 = .ok (.aload_n 0, 1) := by decide +kernel
theorem dX8_unlike_11 : decode cX8_unlike 11 = .ok (.getfield 7, 3) := by decide +kernel
theorem dX8_unlike_14 : decode cX8_unlike 14 = .ok (.iconst 0, 1) := by decide +kernel
theorem dX8_unlike_15 : decode cX8_unlike 15 = .ok (.iload_n 1, 1) := by decide +kernel
theorem dX8_unlike_16 : decode cX8_unlike 16 = .ok (.aload_n 0, 1) := by decide +kernel
theorem dX8_unlike_17 : decode cX8_unlike 17 = .ok (.iconst 0, 1) := by decide +kernel
theorem dX8_unlike_18 : decode cX8_unlike 18 = .ok (.iload_n 3, 1) := by decide +kernel
theorem dX8_unlike_19 : decode cX8_unlike 19 = .ok (.invokevirtual 57, 3) := by decide +kernel
theorem dX8_unlike_22 : decode cX8_unlike 22 = .ok (.invokestatic 61, 3) := by decide +kernel
theorem dX8_unlike_25 : decode cX8_unlike 25 = .ok (.iconst 0, 1) := by decide +kernel
theorem dX8_unlike_26 : decode cX8_unlike 26 = .ok (.iadd, 1) := by decide +kernel
theorem dX8_unlike_27 : decode cX8_unlike 27 = .ok (.iaload, 1) := by decide +kernel
theorem dX8_unlike_28 : decode cX8_unlike 28 = .ok (.istore 4, 2) := by decide +kernel
theorem dX8_unlike_30 : decode cX8_unlike 30 = .ok (.iconst 1, 1) := by decide +kernel
theorem dX8_unlike_31 : decode cX8_unlike 31 = .ok (.istore 5, 2) := by decide +kernel
theorem dX8_unlike_33 : decode cX8_unlike 33 = .ok (.iload 5, 2) := by decide +kernel
theorem dX8_unlike_35 : decode cX8_unlike 35 = .ok (.iconst 4, 1) := by decide +kernel
theorem dX8_unlike_36 : decode cX8_unlike 36 = .ok (.if_icmp .ge 44, 3) := by decide +kernel
theorem dX8_unlike_39 : decode cX8_unlike 39 = .ok (.iload_n 2, 1) := by decide +kernel
theorem dX8_unlike_40 : decode cX8_unlike 40 = .ok (.aload_n 0, 1) := by decide +kernel
theorem dX8_unlike_41 : decode cX8_unlike 41 = .ok (.getfield 7, 3) := by decide +kernel
theorem dX8_unlike_44 : decode cX8_unlike 44 = .ok (.iload 5, 2) := by decide +kernel
theorem dX8_unlike_46 : decode cX8_unlike 46 = .ok (.iload_n 1, 1) := by decide +kernel
theorem dX8_unlike_47 : decode cX8_unlike 47 = .ok (.aload_n 0, 1) := by decide +kernel
theorem dX8_unlike_48 : decode cX8_unlike 48 = .ok (.iload 5, 2) := by decide +kernel
theorem dX8_unlike_50 : decode cX8_unlike 50 = .ok (.iload_n 3, 1) := by decide +kernel
theorem dX8_unlike_51 : decode cX8_unlike 51 = .ok (.invokevirtual 57, 3) := by decide +kernel
theorem dX8_unlike_54 : decode cX8_unlike 54 = .ok (.invokestatic 61, 3) := by decide +kernel
theorem dX8_unlike_57 : decode cX8_unlike 57 = .ok (.iconst 0, 1) := by decide +kernel
theorem dX8_unlike_58 : decode cX8_unlike 58 = .ok (.iadd, 1) := by decide +kernel
theorem dX8_unlike_59 : decode cX8_unlike 59 = .ok (.iaload, 1) := by decide +kernel
theorem dX8_unlike_60 : decode cX8_unlike 60 = .ok (.iload 4, 2) := by decide +kernel
theorem dX8_unlike_62 : decode cX8_unlike 62 = .ok (.if_icmp .ne 7, 3) := by decide +kernel
theorem dX8_unlike_65 : decode cX8_unlike 65 = .ok (.iconst 0, 1) := by decide +kernel
theorem dX8_unlike_66 : decode cX8_unlike 66 = .ok (.goto 6, 3) := by decide +kernel
theorem dX8_unlike_69 : decode cX8_unlike 69 = .ok (.iconst 1, 1) := by decide +kernel
theorem dX8_unlike_70 : decode cX8_unlike 70 = .ok (.iload_n 3, 1) := by decide +kernel
theorem dX8_unlike_71 : decode cX8_unlike 71 = .ok (.ishl, 1) := by decide +kernel
theorem dX8_unlike_72 : decode cX8_unlike 72 = .ok (.ior, 1) := by decide +kernel
theorem dX8_unlike_73 : decode cX8_unlike 73 = .ok (.istore_n 2, 1) := by decide +kernel
theorem dX8_unlike_74 : decode cX8_unlike 74 = .ok (.iinc 5 1, 3) := by decide +kernel
theorem dX8_unlike_77 : decode cX8_unlike 77 = .ok (.goto (-44), 3) := by decide +kernel
theorem dX8_unlike_80 : decode cX8_unlike 80 = .ok (.iinc 3 1, 3) := by decide +kernel
theorem dX8_unlike_83 : decode cX8_unlike 83 = .ok (.goto (-79), 3) := by decide +kernel
theorem dX8_unlike_86 : decode cX8_unlike 86 = .ok (.iload_n 2, 1) := by decide +kernel
theorem dX8_unlike_87 : decode cX8_unlike 87 = .ok (.ireturn, 1) := by decide +kernel
theorem dX8_ofPlaces_0 : decode cX8_ofPlaces 0 = .ok (.iconst 0, 1) := by decide +kernel
theorem dX8_ofPlaces_1 : decode cX8_ofPlaces 1 = .ok (.istore_n 3, 1) := by decide +kernel
theorem dX8_ofPlaces_2 : decode cX8_ofPlaces 2 = .ok (.iconst 0, 1) := by decide +kernel
theorem dX8_ofPlaces_3 : decode cX8_ofPlaces 3 = .ok (.istore 4, 2) := by decide +kernel
theorem dX8_ofPlaces_5 : decode cX8_ofPlaces 5 = .ok (.iload 4, 2) := by decide +kernel
theorem dX8_ofPlaces_7 : decode cX8_ofPlaces 7 = .ok (.bipush 32, 2) := by decide +kernel
theorem dX8_ofPlaces_9 : decode cX8_ofPlaces 9 = .ok (.if_icmp .ge 91, 3) := by decide +kernel
theorem dX8_ofPlaces_12 : decode cX8_ofPlaces 12 = .ok (.aload_n 0, 1) := by decide +kernel
theorem dX8_ofPlaces_13 : decode cX8_ofPlaces 13 = .ok (.iload 4, 2) := by decide +kernel
theorem dX8_ofPlaces_15 : decode cX8_ofPlaces 15 = .ok (.bipush 8, 2) := by decide +kernel
theorem dX8_ofPlaces_17 : decode cX8_ofPlaces 17 = .ok (.idiv, 1) := by decide +kernel
theorem dX8_ofPlaces_18 : decode cX8_ofPlaces 18 = .ok (.iload_n 1, 1) := by decide +kernel
theorem dX8_ofPlaces_19 : decode cX8_ofPlaces 19 = .ok (.iload 4, 2) := by decide +kernel
theorem dX8_ofPlaces_21 : decode cX8_ofPlaces 21 = .ok (.bipush 8, 2) := by decide +kernel
theorem dX8_ofPlaces_23 : decode cX8_ofPlaces 23 = .ok (.irem, 1) := by decide +kernel
theorem dX8_ofPlaces_24 : decode cX8_ofPlaces 24 = .ok (.invokevirtual 68, 3) := by decide +kernel
theorem dX8_ofPlaces_27 : decode cX8_ofPlaces 27 = .ok (.istore 5, 2) := by decide +kernel
theorem dX8_ofPlaces_29 : decode cX8_ofPlaces 29 = .ok (.iload_n 3, 1) := by decide +kernel
theorem dX8_ofPlaces_30 : decode cX8_ofPlaces 30 = .ok (.iload_n 2, 1) := by decide +kernel
theorem dX8_ofPlaces_31 : decode cX8_ofPlaces 31 = .ok (.iconst 4, 1) := by decide +kernel
theorem dX8_ofPlaces_32 : decode cX8_ofPlaces 32 = .ok (.if_icmp .ne 16, 3) := by decide +kernel
theorem dX8_ofPlaces_35 : decode cX8_ofPlaces 35 = .ok (.iload 5, 2) := by decide +kernel
theorem dX8_ofPlaces_37 : decode cX8_ofPlaces 37 = .ok (.ifCond .eq 7, 3) := by decide +kernel
theorem dX8_ofPlaces_40 : decode cX8_ofPlaces 40 = .ok (.iconst 0, 1) := by decide +kernel
theorem dX8_ofPlaces_41 : decode cX8_ofPlaces 41 = .ok (.goto 51, 3) := by decide +kernel
theorem dX8_ofPlaces_44 : decode cX8_ofPlaces 44 = .ok (.iconst 1, 1) := by decide +kernel
theorem dX8_ofPlaces_45 : decode cX8_ofPlaces 45 = .ok (.goto 47, 3) := by decide +kernel
theorem dX8_ofPlaces_48 : decode cX8_ofPlaces 48 = .ok (.iload_n 2, 1) := by decide +kernel
theorem dX8_ofPlaces_49 : decode cX8_ofPlaces 49 = .ok (.iconst 5, 1) := by decide +kernel
theorem dX8_ofPlaces_50 : decode cX8_ofPlaces 50 = .ok (.if_icmp .ne 27, 3) := by decide +kernel
theorem dX8_ofPlaces_53 : decode cX8_ofPlaces 53 = .ok (.aload_n 0, 1) := by decide +kernel
theorem dX8_ofPlaces_54 : decode cX8_ofPlaces 54 = .ok (.getfield 7, 3) := by decide +kernel
theorem dX8_ofPlaces_57 : decode cX8_ofPlaces 57 = .ok (.iload 4, 2) := by decide +kernel
theorem dX8_ofPlaces_59 : decode cX8_ofPlaces 59 = .ok (.bipush 8, 2) := by decide +kernel
theorem dX8_ofPlaces_61 : decode cX8_ofPlaces 61 = .ok (.idiv, 1) := by decide +kernel
theorem dX8_ofPlaces_62 : decode cX8_ofPlaces 62 = .ok (.iload_n 1, 1) := by decide +kernel
theorem dX8_ofPlaces_63 : decode cX8_ofPlaces 63 = .ok (.iload 4, 2) := by decide +kernel
theorem dX8_ofPlaces_65 : decode cX8_ofPlaces 65 = .ok (.bipush 8, 2) := by decide +kernel
theorem dX8_ofPlaces_67 : decode cX8_ofPlaces 67 = .ok (.irem, 1) := by decide +kernel
theorem dX8_ofPlaces_68 : decode cX8_ofPlaces 68 = .ok (.invokestatic 61, 3) := by decide +kernel
theorem dX8_ofPlaces_71 : decode cX8_ofPlaces 71 = .ok (.iconst 1, 1) := by decide +kernel
theorem dX8_ofPlaces_72 : decode cX8_ofPlaces 72 = .ok (.iadd, 1) := by decide +kernel
theorem dX8_ofPlaces_73 : decode cX8_ofPlaces 73 = .ok (.iaload, 1) := by decide +kernel
theorem dX8_ofPlaces_74 : decode cX8_ofPlaces 74 = .ok (.goto 18, 3) := by decide +kernel
theorem dX8_ofPlaces_77 : decode cX8_ofPlaces 77 = .ok (.aload_n 0, 1) := by decide +kernel
theorem dX8_ofPlaces_78 : decode cX8_ofPlaces 78 = .ok (.iload 4, 2) := by decide +kernel
theorem dX8_ofPlaces_80 : decode cX8_ofPlaces 80 = .ok (.bipush 8, 2) := by decide +kernel
theorem dX8_ofPlaces_82 : decode cX8_ofPlaces 82 = .ok (.idiv, 1) := by decide +kernel
theorem dX8_ofPlaces_83 : decode cX8_ofPlaces 83 = .ok (.iload_n 1, 1) := by decide +kernel
theorem dX8_ofPlaces_84 : decode cX8_ofPlaces 84 = .ok (.iload 4, 2) := by decide +kernel
theorem dX8_ofPlaces_86 : decode cX8_ofPlaces 86 = .ok (.bipush 8, 2) := by decide +kernel
theorem dX8_ofPlaces_88 : decode cX8_ofPlaces 88 = .ok (.irem, 1) := by decide +kernel
theorem dX8_ofPlaces_89 : decode cX8_ofPlaces 89 = .ok (.invokevirtual 130, 3) := by decide +kernel
theorem dX8_ofPlaces_92 : decode cX8_ofPlaces 92 = .ok (.iadd, 1) := by decide +kernel
theorem dX8_ofPlaces_93 : decode cX8_ofPlaces 93 = .ok (.istore_n 3, 1) := by decide +kernel
theorem dX8_ofPlaces_94 : decode cX8_ofPlaces 94 = .ok (.iinc 4 1, 3) := by decide +kernel
theorem dX8_ofPlaces_97 : decode cX8_ofPlaces 97 = .ok (.goto (-92), 3) := by decide +kernel
theorem dX8_ofPlaces_100 : decode cX8_ofPlaces 100 = .ok (.iload_n 3, 1) := by decide +kernel
theorem dX8_ofPlaces_101 : decode cX8_ofPlaces 101 = .ok (.ireturn, 1) := by decide +kernel
theorem dX8_ofRing_0 : decode cX8_ofRing 0 = .ok (.iload_n 1, 1) := by decide +kernel
theorem dX8_ofRing_1 : decode cX8_ofRing 1 = .ok (.invokestatic 47, 3) := by decide +kernel
theorem dX8_ofRing_4 : decode cX8_ofRing 4 = .ok (.ifCond .ne 5, 3) := by decide +kernel
theorem dX8_ofRing_7 : decode cX8_ofRing 7 = .ok (.iconst (-1), 1) := by decide +kernel
theorem dX8_ofRing_8 : decode cX8_ofRing 8 = .ok (.ireturn, 1) := by decide +kernel
theorem dX8_ofRing_9 : decode cX8_ofRing 9 = .ok (.iload_n 2, 1) := by decide +kernel
theorem dX8_ofRing_10 : decode cX8_ofRing 10 = .ok (.tableswitch 93 0 6 #[42, 56, 66, 80, 86, 86, 86], 42) := by decide +kernel
theorem dX8_ofRing_52 : decode cX8_ofRing 52 = .ok (.aload_n 0, 1) := by decide +kernel
theorem dX8_ofRing_53 : decode cX8_ofRing 53 = .ok (.iload_n 1, 1) := by decide +kernel
theorem dX8_ofRing_54 : decode cX8_ofRing 54 = .ok (.invokevirtual 72, 3) := by decide +kernel
theorem dX8_ofRing_57 : decode cX8_ofRing 57 = .ok (.ifCond .eq 7, 3) := by decide +kernel
theorem dX8_ofRing_60 : decode cX8_ofRing 60 = .ok (.iconst 0, 1) := by decide +kernel
theorem dX8_ofRing_61 : decode cX8_ofRing 61 = .ok (.goto 4, 3) := by decide +kernel
theorem dX8_ofRing_64 : decode cX8_ofRing 64 = .ok (.iconst 1, 1) := by decide +kernel
theorem dX8_ofRing_65 : decode cX8_ofRing 65 = .ok (.ireturn, 1) := by decide +kernel
theorem dX8_ofRing_66 : decode cX8_ofRing 66 = .ok (.aload_n 0, 1) := by decide +kernel
theorem dX8_ofRing_67 : decode cX8_ofRing 67 = .ok (.getfield 7, 3) := by decide +kernel
theorem dX8_ofRing_70 : decode cX8_ofRing 70 = .ok (.bipush 18, 2) := by decide +kernel
theorem dX8_ofRing_72 : decode cX8_ofRing 72 = .ok (.iload_n 1, 1) := by decide +kernel
theorem dX8_ofRing_73 : decode cX8_ofRing 73 = .ok (.iadd, 1) := by decide +kernel
theorem dX8_ofRing_74 : decode cX8_ofRing 74 = .ok (.iaload, 1) := by decide +kernel
theorem dX8_ofRing_75 : decode cX8_ofRing 75 = .ok (.ireturn, 1) := by decide +kernel
theorem dX8_ofRing_76 : decode cX8_ofRing 76 = .ok (.aload_n 0, 1) := by decide +kernel
theorem dX8_ofRing_77 : decode cX8_ofRing 77 = .ok (.iload_n 1, 1) := by decide +kernel
theorem dX8_ofRing_78 : decode cX8_ofRing 78 = .ok (.invokevirtual 92, 3) := by decide +kernel
theorem dX8_ofRing_81 : decode cX8_ofRing 81 = .ok (.ifCond .eq 7, 3) := by decide +kernel
theorem dX8_ofRing_84 : decode cX8_ofRing 84 = .ok (.iconst 1, 1) := by decide +kernel
theorem dX8_ofRing_85 : decode cX8_ofRing 85 = .ok (.goto 4, 3) := by decide +kernel
theorem dX8_ofRing_88 : decode cX8_ofRing 88 = .ok (.iconst 0, 1) := by decide +kernel
theorem dX8_ofRing_89 : decode cX8_ofRing 89 = .ok (.ireturn, 1) := by decide +kernel
theorem dX8_ofRing_90 : decode cX8_ofRing 90 = .ok (.aload_n 0, 1) := by decide +kernel
theorem dX8_ofRing_91 : decode cX8_ofRing 91 = .ok (.iload_n 1, 1) := by decide +kernel
theorem dX8_ofRing_92 : decode cX8_ofRing 92 = .ok (.invokevirtual 133, 3) := by decide +kernel
theorem dX8_ofRing_95 : decode cX8_ofRing 95 = .ok (.ireturn, 1) := by decide +kernel
theorem dX8_ofRing_96 : decode cX8_ofRing 96 = .ok (.aload_n 0, 1) := by decide +kernel
theorem dX8_ofRing_97 : decode cX8_ofRing 97 = .ok (.iload_n 1, 1) := by decide +kernel
theorem dX8_ofRing_98 : decode cX8_ofRing 98 = .ok (.iload_n 2, 1) := by decide +kernel
theorem dX8_ofRing_99 : decode cX8_ofRing 99 = .ok (.invokevirtual 136, 3) := by decide +kernel
theorem dX8_ofRing_102 : decode cX8_ofRing 102 = .ok (.ireturn, 1) := by decide +kernel
theorem dX8_ofRing_103 : decode cX8_ofRing 103 = .ok (.bipush (-2), 2) := by decide +kernel
theorem dX8_ofRing_105 : decode cX8_ofRing 105 = .ok (.ireturn, 1) := by decide +kernel
theorem dX8_ofPlacesIn_0 : decode cX8_ofPlacesIn 0 = .ok (.iconst 0, 1) := by decide +kernel
theorem dX8_ofPlacesIn_1 : decode cX8_ofPlacesIn 1 = .ok (.istore_n 3, 1) := by decide +kernel
theorem dX8_ofPlacesIn_2 : decode cX8_ofPlacesIn 2 = .ok (.iconst 0, 1) := by decide +kernel
theorem dX8_ofPlacesIn_3 : decode cX8_ofPlacesIn 3 = .ok (.istore 4, 2) := by decide +kernel
theorem dX8_ofPlacesIn_5 : decode cX8_ofPlacesIn 5 = .ok (.iload 4, 2) := by decide +kernel
theorem dX8_ofPlacesIn_7 : decode cX8_ofPlacesIn 7 = .ok (.bipush 40, 2) := by decide +kernel
theorem dX8_ofPlacesIn_9 : decode cX8_ofPlacesIn 9 = .ok (.if_icmp .ge 159, 3) := by decide +kernel
theorem dX8_ofPlacesIn_12 : decode cX8_ofPlacesIn 12 = .ok (.iload_n 1, 1) := by decide +kernel
theorem dX8_ofPlacesIn_13 : decode cX8_ofPlacesIn 13 = .ok (.iload 4, 2) := by decide +kernel
theorem dX8_ofPlacesIn_15 : decode cX8_ofPlacesIn 15 = .ok (.bipush 8, 2) := by decide +kernel
theorem dX8_ofPlacesIn_17 : decode cX8_ofPlacesIn 17 = .ok (.idiv, 1) := by decide +kernel
theorem dX8_ofPlacesIn_18 : decode cX8_ofPlacesIn 18 = .ok (.iload 4, 2) := by decide +kernel
theorem dX8_ofPlacesIn_20 : decode cX8_ofPlacesIn 20 = .ok (.bipush 8, 2) := by decide +kernel
theorem dX8_ofPlacesIn_22 : decode cX8_ofPlacesIn 22 = .ok (.irem, 1) := by decide +kernel
theorem dX8_ofPlacesIn_23 : decode cX8_ofPlacesIn 23 = .ok (.invokestatic 61, 3) := by decide +kernel
theorem dX8_ofPlacesIn_26 : decode cX8_ofPlacesIn 26 = .ok (.istore 5, 2) := by decide +kernel
theorem dX8_ofPlacesIn_28 : decode cX8_ofPlacesIn 28 = .ok (.aload_n 0, 1) := by decide +kernel
theorem dX8_ofPlacesIn_29 : decode cX8_ofPlacesIn 29 = .ok (.iload_n 1, 1) := by decide +kernel
theorem dX8_ofPlacesIn_30 : decode cX8_ofPlacesIn 30 = .ok (.iload 4, 2) := by decide +kernel
theorem dX8_ofPlacesIn_32 : decode cX8_ofPlacesIn 32 = .ok (.bipush 8, 2) := by decide +kernel
theorem dX8_ofPlacesIn_34 : decode cX8_ofPlacesIn 34 = .ok (.idiv, 1) := by decide +kernel
theorem dX8_ofPlacesIn_35 : decode cX8_ofPlacesIn 35 = .ok (.iload 4, 2) := by decide +kernel
theorem dX8_ofPlacesIn_37 : decode cX8_ofPlacesIn 37 = .ok (.bipush 8, 2) := by decide +kernel
theorem dX8_ofPlacesIn_39 : decode cX8_ofPlacesIn 39 = .ok (.irem, 1) := by decide +kernel
theorem dX8_ofPlacesIn_40 : decode cX8_ofPlacesIn 40 = .ok (.invokevirtual 68, 3) := by decide +kernel
theorem dX8_ofPlacesIn_43 : decode cX8_ofPlacesIn 43 = .ok (.istore 6, 2) := by decide +kernel
theorem dX8_ofPlacesIn_45 : decode cX8_ofPlacesIn 45 = .ok (.aload_n 0, 1) := by decide +kernel
theorem dX8_ofPlacesIn_46 : decode cX8_ofPlacesIn 46 = .ok (.getfield 7, 3) := by decide +kernel
theorem dX8_ofPlacesIn_49 : decode cX8_ofPlacesIn 49 = .ok (.bipush 18, 2) := by decide +kernel
theorem dX8_ofPlacesIn_51 : decode cX8_ofPlacesIn 51 = .ok (.iload 4, 2) := by decide +kernel
theorem dX8_ofPlacesIn_53 : decode cX8_ofPlacesIn 53 = .ok (.bipush 8, 2) := by decide +kernel
theorem dX8_ofPlacesIn_55 : decode cX8_ofPlacesIn 55 = .ok (.idiv, 1) := by decide +kernel
theorem dX8_ofPlacesIn_56 : decode cX8_ofPlacesIn 56 = .ok (.iadd, 1) := by decide +kernel
theorem dX8_ofPlacesIn_57 : decode cX8_ofPlacesIn 57 = .ok (.iaload, 1) := by decide +kernel
theorem dX8_ofPlacesIn_58 : decode cX8_ofPlacesIn 58 = .ok (.iconst 1, 1) := by decide +kernel
theorem dX8_ofPlacesIn_59 : decode cX8_ofPlacesIn 59 = .ok (.if_icmp .ne 12, 3) := by decide +kernel
theorem dX8_ofPlacesIn_62 : decode cX8_ofPlacesIn 62 = .ok (.iload 6, 2) := by decide +kernel
theorem dX8_ofPlacesIn_64 : decode cX8_ofPlacesIn 64 = .ok (.ifCond .ne 7, 3) := by decide +kernel
theorem dX8_ofPlacesIn_67 : decode cX8_ofPlacesIn 67 = .ok (.iconst 1, 1) := by decide +kernel
theorem dX8_ofPlacesIn_68 : decode cX8_ofPlacesIn 68 = .ok (.goto 4, 3) := by decide +kernel
theorem dX8_ofPlacesIn_71 : decode cX8_ofPlacesIn 71 = .ok (.iconst 0, 1) := by decide +kernel
theorem dX8_ofPlacesIn_72 : decode cX8_ofPlacesIn 72 = .ok (.istore 7, 2) := by decide +kernel
theorem dX8_ofPlacesIn_74 : decode cX8_ofPlacesIn 74 = .ok (.aload_n 0, 1) := by decide +kernel
theorem dX8_ofPlacesIn_75 : decode cX8_ofPlacesIn 75 = .ok (.getfield 7, 3) := by decide +kernel
theorem dX8_ofPlacesIn_78 : decode cX8_ofPlacesIn 78 = .ok (.iload 5, 2) := by decide +kernel
theorem dX8_ofPlacesIn_80 : decode cX8_ofPlacesIn 80 = .ok (.iconst 0, 1) := by decide +kernel
theorem dX8_ofPlacesIn_81 : decode cX8_ofPlacesIn 81 = .ok (.iadd, 1) := by decide +kernel
theorem dX8_ofPlacesIn_82 : decode cX8_ofPlacesIn 82 = .ok (.iaload, 1) := by decide +kernel
theorem dX8_ofPlacesIn_83 : decode cX8_ofPlacesIn 83 = .ok (.iload_n 2, 1) := by decide +kernel
theorem dX8_ofPlacesIn_84 : decode cX8_ofPlacesIn 84 = .ok (.iconst 4, 1) := by decide +kernel
theorem dX8_ofPlacesIn_85 : decode cX8_ofPlacesIn 85 = .ok (.isub, 1) := by decide +kernel
theorem dX8_ofPlacesIn_86 : decode cX8_ofPlacesIn 86 = .ok (.if_icmp .ne 15, 3) := by decide +kernel
theorem dX8_ofPlacesIn_89 : decode cX8_ofPlacesIn 89 = .ok (.aload_n 0, 1) := by decide +kernel
theorem dX8_ofPlacesIn_90 : decode cX8_ofPlacesIn 90 = .ok (.getfield 7, 3) := by decide +kernel
theorem dX8_ofPlacesIn_93 : decode cX8_ofPlacesIn 93 = .ok (.iload 5, 2) := by decide +kernel
theorem dX8_ofPlacesIn_95 : decode cX8_ofPlacesIn 95 = .ok (.iconst 1, 1) := by decide +kernel
theorem dX8_ofPlacesIn_96 : decode cX8_ofPlacesIn 96 = .ok (.iadd, 1) := by decide +kernel
theorem dX8_ofPlacesIn_97 : decode cX8_ofPlacesIn 97 = .ok (.iaload, 1) := by decide +kernel
theorem dX8_ofPlacesIn_98 : decode cX8_ofPlacesIn 98 = .ok (.goto 4, 3) := by decide +kernel
theorem dX8_ofPlacesIn_101 : decode cX8_ofPlacesIn 101 = .ok (.iconst 0, 1) := by decide +kernel
theorem dX8_ofPlacesIn_102 : decode cX8_ofPlacesIn 102 = .ok (.istore 8, 2) := by decide +kernel
theorem dX8_ofPlacesIn_104 : decode cX8_ofPlacesIn 104 = .ok (.iload_n 3, 1) := by decide +kernel
theorem dX8_ofPlacesIn_105 : decode cX8_ofPlacesIn 105 = .ok (.iload_n 2, 1) := by decide +kernel
theorem dX8_ofPlacesIn_106 : decode cX8_ofPlacesIn 106 = .ok (.ifCond .ne 15, 3) := by decide +kernel
theorem dX8_ofPlacesIn_109 : decode cX8_ofPlacesIn 109 = .ok (.aload_n 0, 1) := by decide +kernel
theorem dX8_ofPlacesIn_110 : decode cX8_ofPlacesIn 110 = .ok (.getfield 7, 3) := by decide +kernel
theorem dX8_ofPlacesIn_113 : decode cX8_ofPlacesIn 113 = .ok (.iload 5, 2) := by decide +kernel
theorem dX8_ofPlacesIn_115 : decode cX8_ofPlacesIn 115 = .ok (.iconst 1, 1) := by decide +kernel
theorem dX8_ofPlacesIn_116 : decode cX8_ofPlacesIn 116 = .ok (.iadd, 1) := by decide +kernel
theorem dX8_ofPlacesIn_117 : decode cX8_ofPlacesIn 117 = .ok (.iaload, 1) := by decide +kernel
theorem dX8_ofPlacesIn_118 : decode cX8_ofPlacesIn 118 = .ok (.goto 42, 3) := by decide +kernel
theorem dX8_ofPlacesIn_121 : decode cX8_ofPlacesIn 121 = .ok (.iload_n 2, 1) := by decide +kernel
theorem dX8_ofPlacesIn_122 : decode cX8_ofPlacesIn 122 = .ok (.iconst 1, 1) := by decide +kernel
theorem dX8_ofPlacesIn_123 : decode cX8_ofPlacesIn 123 = .ok (.if_icmp .ne 16, 3) := by decide +kernel
theorem dX8_ofPlacesIn_126 : decode cX8_ofPlacesIn 126 = .ok (.iload 7, 2) := by decide +kernel
theorem dX8_ofPlacesIn_128 : decode cX8_ofPlacesIn 128 = .ok (.ifCond .eq 7, 3) := by decide +kernel
theorem dX8_ofPlacesIn_131 : decode cX8_ofPlacesIn 131 = .ok (.iconst 1, 1) := by decide +kernel
theorem dX8_ofPlacesIn_132 : decode cX8_ofPlacesIn 132 = .ok (.goto 28, 3) := by decide +kernel
theorem dX8_ofPlacesIn_135 : decode cX8_ofPlacesIn 135 = .ok (.iconst 0, 1) := by decide +kernel
theorem dX8_ofPlacesIn_136 : decode cX8_ofPlacesIn 136 = .ok (.goto 24, 3) := by decide +kernel
theorem dX8_ofPlacesIn_139 : decode cX8_ofPlacesIn 139 = .ok (.iload_n 2, 1) := by decide +kernel
theorem dX8_ofPlacesIn_140 : decode cX8_ofPlacesIn 140 = .ok (.bipush 11, 2) := by decide +kernel
theorem dX8_ofPlacesIn_142 : decode cX8_ofPlacesIn 142 = .ok (.if_icmp .ne 16, 3) := by decide +kernel
theorem dX8_ofPlacesIn_145 : decode cX8_ofPlacesIn 145 = .ok (.iload 6, 2) := by decide +kernel
theorem dX8_ofPlacesIn_147 : decode cX8_ofPlacesIn 147 = .ok (.ifCond .eq 7, 3) := by decide +kernel
theorem dX8_ofPlacesIn_150 : decode cX8_ofPlacesIn 150 = .ok (.iconst 1, 1) := by decide +kernel
theorem dX8_ofPlacesIn_151 : decode cX8_ofPlacesIn 151 = .ok (.goto 9, 3) := by decide +kernel
theorem dX8_ofPlacesIn_154 : decode cX8_ofPlacesIn 154 = .ok (.iconst 0, 1) := by decide +kernel
theorem dX8_ofPlacesIn_155 : decode cX8_ofPlacesIn 155 = .ok (.goto 5, 3) := by decide +kernel
theorem dX8_ofPlacesIn_158 : decode cX8_ofPlacesIn 158 = .ok (.iload 8, 2) := by decide +kernel
theorem dX8_ofPlacesIn_160 : decode cX8_ofPlacesIn 160 = .ok (.iadd, 1) := by decide +kernel
theorem dX8_ofPlacesIn_161 : decode cX8_ofPlacesIn 161 = .ok (.istore_n 3, 1) := by decide +kernel
theorem dX8_ofPlacesIn_162 : decode cX8_ofPlacesIn 162 = .ok (.iinc 4 1, 3) := by decide +kernel
theorem dX8_ofPlacesIn_165 : decode cX8_ofPlacesIn 165 = .ok (.goto (-160), 3) := by decide +kernel
theorem dX8_ofPlacesIn_168 : decode cX8_ofPlacesIn 168 = .ok (.iload_n 3, 1) := by decide +kernel
theorem dX8_ofPlacesIn_169 : decode cX8_ofPlacesIn 169 = .ok (.ireturn, 1) := by decide +kernel
theorem dX8_isSwept_0 : decode cX8_isSwept 0 = .ok (.iconst 0, 1) := by decide +kernel
theorem dX8_isSwept_1 : decode cX8_isSwept 1 = .ok (.istore_n 2, 1) := by decide +kernel
theorem dX8_isSwept_2 : decode cX8_isSwept 2 = .ok (.iconst 0, 1) := by decide +kernel
theorem dX8_isSwept_3 : decode cX8_isSwept 3 = .ok (.istore_n 3, 1) := by decide +kernel
theorem dX8_isSwept_4 : decode cX8_isSwept 4 = .ok (.iload_n 3, 1) := by decide +kernel
theorem dX8_isSwept_5 : decode cX8_isSwept 5 = .ok (.aload_n 0, 1) := by decide +kernel
theorem dX8_isSwept_6 : decode cX8_isSwept 6 = .ok (.getfield 7, 3) := by decide +kernel
theorem dX8_isSwept_9 : decode cX8_isSwept 9 = .ok (.bipush 7, 2) := by decide +kernel
theorem dX8_isSwept_11 : decode cX8_isSwept 11 = .ok (.iaload, 1) := by decide +kernel
theorem dX8_isSwept_12 : decode cX8_isSwept 12 = .ok (.if_icmp .ge 27, 3) := by decide +kernel
theorem dX8_isSwept_15 : decode cX8_isSwept 15 = .ok (.iload_n 2, 1) := by decide +kernel
theorem dX8_isSwept_16 : decode cX8_isSwept 16 = .ok (.ifCond .ne 11, 3) := by decide +kernel
theorem dX8_isSwept_19 : decode cX8_isSwept 19 = .ok (.iload_n 3, 1) := by decide +kernel
theorem dX8_isSwept_20 : decode cX8_isSwept 20 = .ok (.invokestatic 95, 3) := by decide +kernel
theorem dX8_isSwept_23 : decode cX8_isSwept 23 = .ok (.iload_n 1, 1) := by decide +kernel
theorem dX8_isSwept_24 : decode cX8_isSwept 24 = .ok (.if_icmp .ne 7, 3) := by decide +kernel
theorem dX8_isSwept_27 : decode cX8_isSwept 27 = .ok (.iconst 1, 1) := by decide +kernel
theorem dX8_isSwept_28 : decode cX8_isSwept 28 = .ok (.goto 4, 3) := by decide +kernel
theorem dX8_isSwept_31 : decode cX8_isSwept 31 = .ok (.iconst 0, 1) := by decide +kernel
theorem dX8_isSwept_32 : decode cX8_isSwept 32 = .ok (.istore_n 2, 1) := by decide +kernel
theorem dX8_isSwept_33 : decode cX8_isSwept 33 = .ok (.iinc 3 1, 3) := by decide +kernel
theorem dX8_isSwept_36 : decode cX8_isSwept 36 = .ok (.goto (-32), 3) := by decide +kernel
theorem dX8_isSwept_39 : decode cX8_isSwept 39 = .ok (.iload_n 2, 1) := by decide +kernel
theorem dX8_isSwept_40 : decode cX8_isSwept 40 = .ok (.ireturn, 1) := by decide +kernel
theorem dX8_ofQuarter_0 : decode cX8_ofQuarter 0 = .ok (.iload_n 1, 1) := by decide +kernel
theorem dX8_ofQuarter_1 : decode cX8_ofQuarter 1 = .ok (.invokestatic 43, 3) := by decide +kernel
theorem dX8_ofQuarter_4 : decode cX8_ofQuarter 4 = .ok (.ifCond .ne 5, 3) := by decide +kernel
theorem dX8_ofQuarter_7 : decode cX8_ofQuarter 7 = .ok (.iconst (-1), 1) := by decide +kernel
theorem dX8_ofQuarter_8 : decode cX8_ofQuarter 8 = .ok (.ireturn, 1) := by decide +kernel
theorem dX8_ofQuarter_9 : decode cX8_ofQuarter 9 = .ok (.iload_n 2, 1) := by decide +kernel
theorem dX8_ofQuarter_10 : decode cX8_ofQuarter 10 = .ok (.tableswitch 103 0 10 #[58, 58, 65, 75, 89, 58, 58, 58, 58, 58, 58], 58) := by decide +kernel
theorem dX8_ofQuarter_68 : decode cX8_ofQuarter 68 = .ok (.aload_n 0, 1) := by decide +kernel
theorem dX8_ofQuarter_69 : decode cX8_ofQuarter 69 = .ok (.iload_n 1, 1) := by decide +kernel
theorem dX8_ofQuarter_70 : decode cX8_ofQuarter 70 = .ok (.iload_n 2, 1) := by decide +kernel
theorem dX8_ofQuarter_71 : decode cX8_ofQuarter 71 = .ok (.invokevirtual 139, 3) := by decide +kernel
theorem dX8_ofQuarter_74 : decode cX8_ofQuarter 74 = .ok (.ireturn, 1) := by decide +kernel
theorem dX8_ofQuarter_75 : decode cX8_ofQuarter 75 = .ok (.aload_n 0, 1) := by decide +kernel
theorem dX8_ofQuarter_76 : decode cX8_ofQuarter 76 = .ok (.getfield 7, 3) := by decide +kernel
theorem dX8_ofQuarter_79 : decode cX8_ofQuarter 79 = .ok (.bipush 8, 2) := by decide +kernel
theorem dX8_ofQuarter_81 : decode cX8_ofQuarter 81 = .ok (.iload_n 1, 1) := by decide +kernel
theorem dX8_ofQuarter_82 : decode cX8_ofQuarter 82 = .ok (.iadd, 1) := by decide +kernel
theorem dX8_ofQuarter_83 : decode cX8_ofQuarter 83 = .ok (.iaload, 1) := by decide +kernel
theorem dX8_ofQuarter_84 : decode cX8_ofQuarter 84 = .ok (.ireturn, 1) := by decide +kernel
theorem dX8_ofQuarter_85 : decode cX8_ofQuarter 85 = .ok (.aload_n 0, 1) := by decide +kernel
theorem dX8_ofQuarter_86 : decode cX8_ofQuarter 86 = .ok (.iload_n 1, 1) := by decide +kernel
theorem dX8_ofQuarter_87 : decode cX8_ofQuarter 87 = .ok (.invokevirtual 54, 3) := by decide +kernel
theorem dX8_ofQuarter_90 : decode cX8_ofQuarter 90 = .ok (.ifCond .eq 7, 3) := by decide +kernel
theorem dX8_ofQuarter_93 : decode cX8_ofQuarter 93 = .ok (.iconst 1, 1) := by decide +kernel
theorem dX8_ofQuarter_94 : decode cX8_ofQuarter 94 = .ok (.goto 4, 3) := by decide +kernel
theorem dX8_ofQuarter_97 : decode cX8_ofQuarter 97 = .ok (.iconst 0, 1) := by decide +kernel
theorem dX8_ofQuarter_98 : decode cX8_ofQuarter 98 = .ok (.ireturn, 1) := by decide +kernel
theorem dX8_ofQuarter_99 : decode cX8_ofQuarter 99 = .ok (.aload_n 0, 1) := by decide +kernel
theorem dX8_ofQuarter_100 : decode cX8_ofQuarter 100 = .ok (.iload_n 1, 1) := by decide +kernel
theorem dX8_ofQuarter_101 : decode cX8_ofQuarter 101 = .ok (.invokevirtual 142, 3) := by decide +kernel
theorem dX8_ofQuarter_104 : decode cX8_ofQuarter 104 = .ok (.ifCond .eq 7, 3) := by decide +kernel
theorem dX8_ofQuarter_107 : decode cX8_ofQuarter 107 = .ok (.iconst 1, 1) := by decide +kernel
theorem dX8_ofQuarter_108 : decode cX8_ofQuarter 108 = .ok (.goto 4, 3) := by decide +kernel
theorem dX8_ofQuarter_111 : decode cX8_ofQuarter 111 = .ok (.iconst 0, 1) := by decide +kernel
theorem dX8_ofQuarter_112 : decode cX8_ofQuarter 112 = .ok (.ireturn, 1) := by decide +kernel
theorem dX8_ofQuarter_113 : decode cX8_ofQuarter 113 = .ok (.bipush (-2), 2) := by decide +kernel
theorem dX8_ofQuarter_115 : decode cX8_ofQuarter 115 = .ok (.ireturn, 1) := by decide +kernel
theorem dX8_ofAll_0 : decode cX8_ofAll 0 = .ok (.iconst 0, 1) := by decide +kernel
theorem dX8_ofAll_1 : decode cX8_ofAll 1 = .ok (.istore_n 3, 1) := by decide +kernel
theorem dX8_ofAll_2 : decode cX8_ofAll 2 = .ok (.iconst 0, 1) := by decide +kernel
theorem dX8_ofAll_3 : decode cX8_ofAll 3 = .ok (.istore 4, 2) := by decide +kernel
theorem dX8_ofAll_5 : decode cX8_ofAll 5 = .ok (.iload 4, 2) := by decide +kernel
theorem dX8_ofAll_7 : decode cX8_ofAll 7 = .ok (.sipush 160, 3) := by decide +kernel
theorem dX8_ofAll_10 : decode cX8_ofAll 10 = .ok (.if_icmp .ge 132, 3) := by decide +kernel
theorem dX8_ofAll_13 : decode cX8_ofAll 13 = .ok (.bipush 63, 2) := by decide +kernel
theorem dX8_ofAll_15 : decode cX8_ofAll 15 = .ok (.iconst 2, 1) := by decide +kernel
theorem dX8_ofAll_16 : decode cX8_ofAll 16 = .ok (.iload 4, 2) := by decide +kernel
theorem dX8_ofAll_18 : decode cX8_ofAll 18 = .ok (.imul, 1) := by decide +kernel
theorem dX8_ofAll_19 : decode cX8_ofAll 19 = .ok (.iadd, 1) := by decide +kernel
theorem dX8_ofAll_20 : decode cX8_ofAll 20 = .ok (.istore 5, 2) := by decide +kernel
theorem dX8_ofAll_22 : decode cX8_ofAll 22 = .ok (.aload_n 0, 1) := by decide +kernel
theorem dX8_ofAll_23 : decode cX8_ofAll 23 = .ok (.iload 4, 2) := by decide +kernel
theorem dX8_ofAll_25 : decode cX8_ofAll 25 = .ok (.bipush 40, 2) := by decide +kernel
theorem dX8_ofAll_27 : decode cX8_ofAll 27 = .ok (.idiv, 1) := by decide +kernel
theorem dX8_ofAll_28 : decode cX8_ofAll 28 = .ok (.iload 4, 2) := by decide +kernel
theorem dX8_ofAll_30 : decode cX8_ofAll 30 = .ok (.bipush 40, 2) := by decide +kernel
theorem dX8_ofAll_32 : decode cX8_ofAll 32 = .ok (.irem, 1) := by decide +kernel
theorem dX8_ofAll_33 : decode cX8_ofAll 33 = .ok (.bipush 8, 2) := by decide +kernel
theorem dX8_ofAll_35 : decode cX8_ofAll 35 = .ok (.idiv, 1) := by decide +kernel
theorem dX8_ofAll_36 : decode cX8_ofAll 36 = .ok (.iload 4, 2) := by decide +kernel
theorem dX8_ofAll_38 : decode cX8_ofAll 38 = .ok (.bipush 8, 2) := by decide +kernel
theorem dX8_ofAll_40 : decode cX8_ofAll 40 = .ok (.irem, 1) := by decide +kernel
theorem dX8_ofAll_41 : decode cX8_ofAll 41 = .ok (.invokevirtual 65, 3) := by decide +kernel
theorem dX8_ofAll_44 : decode cX8_ofAll 44 = .ok (.iload_n 1, 1) := by decide +kernel
theorem dX8_ofAll_45 : decode cX8_ofAll 45 = .ok (.if_icmp .ne 7, 3) := by decide +kernel
theorem dX8_ofAll_48 : decode cX8_ofAll 48 = .ok (.iconst 1, 1) := by decide +kernel
theorem dX8_ofAll_49 : decode cX8_ofAll 49 = .ok (.goto 4, 3) := by decide +kernel
theorem dX8_ofAll_52 : decode cX8_ofAll 52 = .ok (.iconst 0, 1) := by decide +kernel
theorem dX8_ofAll_53 : decode cX8_ofAll 53 = .ok (.istore 6, 2) := by decide +kernel
theorem dX8_ofAll_55 : decode cX8_ofAll 55 = .ok (.aload_n 0, 1) := by decide +kernel
theorem dX8_ofAll_56 : decode cX8_ofAll 56 = .ok (.getfield 7, 3) := by decide +kernel
theorem dX8_ofAll_59 : decode cX8_ofAll 59 = .ok (.iload 5, 2) := by decide +kernel
theorem dX8_ofAll_61 : decode cX8_ofAll 61 = .ok (.iconst 0, 1) := by decide +kernel
theorem dX8_ofAll_62 : decode cX8_ofAll 62 = .ok (.iadd, 1) := by decide +kernel
theorem dX8_ofAll_63 : decode cX8_ofAll 63 = .ok (.iaload, 1) := by decide +kernel
theorem dX8_ofAll_64 : decode cX8_ofAll 64 = .ok (.iload_n 1, 1) := by decide +kernel
theorem dX8_ofAll_65 : decode cX8_ofAll 65 = .ok (.if_icmp .ne 15, 3) := by decide +kernel
theorem dX8_ofAll_68 : decode cX8_ofAll 68 = .ok (.aload_n 0, 1) := by decide +kernel
theorem dX8_ofAll_69 : decode cX8_ofAll 69 = .ok (.getfield 7, 3) := by decide +kernel
theorem dX8_ofAll_72 : decode cX8_ofAll 72 = .ok (.iload 5, 2) := by decide +kernel
theorem dX8_ofAll_74 : decode cX8_ofAll 74 = .ok (.iconst 1, 1) := by decide +kernel
theorem dX8_ofAll_75 : decode cX8_ofAll 75 = .ok (.iadd, 1) := by decide +kernel
theorem dX8_ofAll_76 : decode cX8_ofAll 76 = .ok (.iaload, 1) := by decide +kernel
theorem dX8_ofAll_77 : decode cX8_ofAll 77 = .ok (.goto 4, 3) := by decide +kernel
theorem dX8_ofAll_80 : decode cX8_ofAll 80 = .ok (.iconst 0, 1) := by decide +kernel
theorem dX8_ofAll_81 : decode cX8_ofAll 81 = .ok (.istore 7, 2) := by decide +kernel
theorem dX8_ofAll_83 : decode cX8_ofAll 83 = .ok (.iload_n 3, 1) := by decide +kernel
theorem dX8_ofAll_84 : decode cX8_ofAll 84 = .ok (.iload_n 2, 1) := by decide +kernel
theorem dX8_ofAll_85 : decode cX8_ofAll 85 = .ok (.iconst 2, 1) := by decide +kernel
theorem dX8_ofAll_86 : decode cX8_ofAll 86 = .ok (.if_icmp .ne 8, 3) := by decide +kernel
theorem dX8_ofAll_89 : decode cX8_ofAll 89 = .ok (.iload 7, 2) := by decide +kernel
theorem dX8_ofAll_91 : decode cX8_ofAll 91 = .ok (.goto 43, 3) := by decide +kernel
theorem dX8_ofAll_94 : decode cX8_ofAll 94 = .ok (.iload 6, 2) := by decide +kernel
theorem dX8_ofAll_96 : decode cX8_ofAll 96 = .ok (.ifCond .ne 7, 3) := by decide +kernel
theorem dX8_ofAll_99 : decode cX8_ofAll 99 = .ok (.iconst 0, 1) := by decide +kernel
theorem dX8_ofAll_100 : decode cX8_ofAll 100 = .ok (.goto 34, 3) := by decide +kernel
theorem dX8_ofAll_103 : decode cX8_ofAll 103 = .ok (.iload_n 2, 1) := by decide +kernel
theorem dX8_ofAll_104 : decode cX8_ofAll 104 = .ok (.iconst 3, 1) := by decide +kernel
theorem dX8_ofAll_105 : decode cX8_ofAll 105 = .ok (.if_icmp .ne 7, 3) := by decide +kernel
theorem dX8_ofAll_108 : decode cX8_ofAll 108 = .ok (.iconst 1, 1) := by decide +kernel
theorem dX8_ofAll_109 : decode cX8_ofAll 109 = .ok (.goto 25, 3) := by decide +kernel
theorem dX8_ofAll_112 : decode cX8_ofAll 112 = .ok (.aload_n 0, 1) := by decide +kernel
theorem dX8_ofAll_113 : decode cX8_ofAll 113 = .ok (.iload 4, 2) := by decide +kernel
theorem dX8_ofAll_115 : decode cX8_ofAll 115 = .ok (.bipush 40, 2) := by decide +kernel
theorem dX8_ofAll_117 : decode cX8_ofAll 117 = .ok (.idiv, 1) := by decide +kernel
theorem dX8_ofAll_118 : decode cX8_ofAll 118 = .ok (.iload 4, 2) := by decide +kernel
theorem dX8_ofAll_120 : decode cX8_ofAll 120 = .ok (.bipush 40, 2) := by decide +kernel
theorem dX8_ofAll_122 : decode cX8_ofAll 122 = .ok (.irem, 1) := by decide +kernel
theorem dX8_ofAll_123 : decode cX8_ofAll 123 = .ok (.bipush 8, 2) := by decide +kernel
theorem dX8_ofAll_125 : decode cX8_ofAll 125 = .ok (.idiv, 1) := by decide +kernel
theorem dX8_ofAll_126 : decode cX8_ofAll 126 = .ok (.iload 4, 2) := by decide +kernel
theorem dX8_ofAll_128 : decode cX8_ofAll 128 = .ok (.bipush 8, 2) := by decide +kernel
theorem dX8_ofAll_130 : decode cX8_ofAll 130 = .ok (.irem, 1) := by decide +kernel
theorem dX8_ofAll_131 : decode cX8_ofAll 131 = .ok (.invokevirtual 130, 3) := by decide +kernel
theorem dX8_ofAll_134 : decode cX8_ofAll 134 = .ok (.iadd, 1) := by decide +kernel
theorem dX8_ofAll_135 : decode cX8_ofAll 135 = .ok (.istore_n 3, 1) := by decide +kernel
theorem dX8_ofAll_136 : decode cX8_ofAll 136 = .ok (.iinc 4 1, 3) := by decide +kernel
theorem dX8_ofAll_139 : decode cX8_ofAll 139 = .ok (.goto (-134), 3) := by decide +kernel
theorem dX8_ofAll_142 : decode cX8_ofAll 142 = .ok (.iload_n 3, 1) := by decide +kernel
theorem dX8_ofAll_143 : decode cX8_ofAll 143 = .ok (.ireturn, 1) := by decide +kernel
theorem dX8_ofColour_0 : decode cX8_ofColour 0 = .ok (.iload_n 1, 1) := by decide +kernel
theorem dX8_ofColour_1 : decode cX8_ofColour 1 = .ok (.invokestatic 110, 3) := by decide +kernel
theorem dX8_ofColour_4 : decode cX8_ofColour 4 = .ok (.ifCond .ne 5, 3) := by decide +kernel
theorem dX8_ofColour_7 : decode cX8_ofColour 7 = .ok (.iconst (-1), 1) := by decide +kernel
theorem dX8_ofColour_8 : decode cX8_ofColour 8 = .ok (.ireturn, 1) := by decide +kernel
theorem dX8_ofColour_9 : decode cX8_ofColour 9 = .ok (.iload_n 2, 1) := by decide +kernel
theorem dX8_ofColour_10 : decode cX8_ofColour 10 = .ok (.tableswitch 57 0 4 #[34, 44, 50, 50, 50], 34) := by decide +kernel
theorem dX8_ofColour_44 : decode cX8_ofColour 44 = .ok (.aload_n 0, 1) := by decide +kernel
theorem dX8_ofColour_45 : decode cX8_ofColour 45 = .ok (.getfield 7, 3) := by decide +kernel
theorem dX8_ofColour_48 : decode cX8_ofColour 48 = .ok (.bipush 11, 2) := by decide +kernel
theorem dX8_ofColour_50 : decode cX8_ofColour 50 = .ok (.iload_n 1, 1) := by decide +kernel
theorem dX8_ofColour_51 : decode cX8_ofColour 51 = .ok (.iadd, 1) := by decide +kernel
theorem dX8_ofColour_52 : decode cX8_ofColour 52 = .ok (.iaload, 1) := by decide +kernel
theorem dX8_ofColour_53 : decode cX8_ofColour 53 = .ok (.ireturn, 1) := by decide +kernel
theorem dX8_ofColour_54 : decode cX8_ofColour 54 = .ok (.aload_n 0, 1) := by decide +kernel
theorem dX8_ofColour_55 : decode cX8_ofColour 55 = .ok (.iload_n 1, 1) := by decide +kernel
theorem dX8_ofColour_56 : decode cX8_ofColour 56 = .ok (.invokevirtual 75, 3) := by decide +kernel
theorem dX8_ofColour_59 : decode cX8_ofColour 59 = .ok (.ireturn, 1) := by decide +kernel
theorem dX8_ofColour_60 : decode cX8_ofColour 60 = .ok (.aload_n 0, 1) := by decide +kernel
theorem dX8_ofColour_61 : decode cX8_ofColour 61 = .ok (.iload_n 1, 1) := by decide +kernel
theorem dX8_ofColour_62 : decode cX8_ofColour 62 = .ok (.iload_n 2, 1) := by decide +kernel
theorem dX8_ofColour_63 : decode cX8_ofColour 63 = .ok (.invokevirtual 145, 3) := by decide +kernel
theorem dX8_ofColour_66 : decode cX8_ofColour 66 = .ok (.ireturn, 1) := by decide +kernel
theorem dX8_ofColour_67 : decode cX8_ofColour 67 = .ok (.bipush (-2), 2) := by decide +kernel
theorem dX8_ofColour_69 : decode cX8_ofColour 69 = .ok (.ireturn, 1) := by decide +kernel
theorem dX8_grains_0 : decode cX8_grains 0 = .ok (.iconst 0, 1) := by decide +kernel
theorem dX8_grains_1 : decode cX8_grains 1 = .ok (.istore_n 1, 1) := by decide +kernel
theorem dX8_grains_2 : decode cX8_grains 2 = .ok (.iconst 0, 1) := by decide +kernel
theorem dX8_grains_3 : decode cX8_grains 3 = .ok (.istore_n 2, 1) := by decide +kernel
theorem dX8_grains_4 : decode cX8_grains 4 = .ok (.iload_n 2, 1) := by decide +kernel
theorem dX8_grains_5 : decode cX8_grains 5 = .ok (.iconst 4, 1) := by decide +kernel
theorem dX8_grains_6 : decode cX8_grains 6 = .ok (.if_icmp .ge 18, 3) := by decide +kernel
theorem dX8_grains_9 : decode cX8_grains 9 = .ok (.iload_n 1, 1) := by decide +kernel
theorem dX8_grains_10 : decode cX8_grains 10 = .ok (.aload_n 0, 1) := by decide +kernel
theorem dX8_grains_11 : decode cX8_grains 11 = .ok (.iload_n 2, 1) := by decide +kernel
theorem dX8_grains_12 : decode cX8_grains 12 = .ok (.iconst 0, 1) := by decide +kernel
theorem dX8_grains_13 : decode cX8_grains 13 = .ok (.invokevirtual 139, 3) := by decide +kernel
theorem dX8_grains_16 : decode cX8_grains 16 = .ok (.iadd, 1) := by decide +kernel
theorem dX8_grains_17 : decode cX8_grains 17 = .ok (.istore_n 1, 1) := by decide +kernel
theorem dX8_grains_18 : decode cX8_grains 18 = .ok (.iinc 2 1, 3) := by decide +kernel
theorem dX8_grains_21 : decode cX8_grains 21 = .ok (.goto (-17), 3) := by decide +kernel
theorem dX8_grains_24 : decode cX8_grains 24 = .ok (.iload_n 1, 1) := by decide +kernel
theorem dX8_grains_25 : decode cX8_grains 25 = .ok (.ireturn, 1) := by decide +kernel
theorem dX8_whole_0 : decode cX8_whole 0 = .ok (.iconst 0, 1) := by decide +kernel
theorem dX8_whole_1 : decode cX8_whole 1 = .ok (.istore_n 1, 1) := by decide +kernel
theorem dX8_whole_2 : decode cX8_whole 2 = .ok (.iconst 0, 1) := by decide +kernel
theorem dX8_whole_3 : decode cX8_whole 3 = .ok (.istore_n 2, 1) := by decide +kernel
theorem dX8_whole_4 : decode cX8_whole 4 = .ok (.iload_n 2, 1) := by decide +kernel
theorem dX8_whole_5 : decode cX8_whole 5 = .ok (.iconst 5, 1) := by decide +kernel
theorem dX8_whole_6 : decode cX8_whole 6 = .ok (.if_icmp .ge 27, 3) := by decide +kernel
theorem dX8_whole_9 : decode cX8_whole 9 = .ok (.iload_n 1, 1) := by decide +kernel
theorem dX8_whole_10 : decode cX8_whole 10 = .ok (.aload_n 0, 1) := by decide +kernel
theorem dX8_whole_11 : decode cX8_whole 11 = .ok (.iload_n 2, 1) := by decide +kernel
theorem dX8_whole_12 : decode cX8_whole 12 = .ok (.invokevirtual 92, 3) := by decide +kernel
theorem dX8_whole_15 : decode cX8_whole 15 = .ok (.ifCond .eq 9, 3) := by decide +kernel
theorem dX8_whole_18 : decode cX8_whole 18 = .ok (.iconst 1, 1) := by decide +kernel
theorem dX8_whole_19 : decode cX8_whole 19 = .ok (.iload_n 2, 1) := by decide +kernel
theorem dX8_whole_20 : decode cX8_whole 20 = .ok (.ishl, 1) := by decide +kernel
theorem dX8_whole_21 : decode cX8_whole 21 = .ok (.goto 4, 3) := by decide +kernel
theorem dX8_whole_24 : decode cX8_whole 24 = .ok (.iconst 0, 1) := by decide +kernel
theorem dX8_whole_25 : decode cX8_whole 25 = .ok (.ior, 1) := by decide +kernel
theorem dX8_whole_26 : decode cX8_whole 26 = .ok (.istore_n 1, 1) := by decide +kernel
theorem dX8_whole_27 : decode cX8_whole 27 = .ok (.iinc 2 1, 3) := by decide +kernel
theorem dX8_whole_30 : decode cX8_whole 30 = .ok (.goto (-26), 3) := by decide +kernel
theorem dX8_whole_33 : decode cX8_whole 33 = .ok (.iload_n 1, 1) := by decide +kernel
theorem dX8_whole_34 : decode cX8_whole 34 = .ok (.ireturn, 1) := by decide +kernel
theorem dX8_count_0 : decode cX8_count 0 = .ok (.iload_n 1, 1) := by decide +kernel
theorem dX8_count_1 : decode cX8_count 1 = .ok (.tableswitch 130 0 11 #[63, 70, 77, 84, 92, 97, 102, 110, 110, 110, 120, 125], 63) := by decide +kernel
theorem dX8_count_64 : decode cX8_count 64 = .ok (.aload_n 0, 1) := by decide +kernel
theorem dX8_count_65 : decode cX8_count 65 = .ok (.getfield 7, 3) := by decide +kernel
theorem dX8_count_68 : decode cX8_count 68 = .ok (.iconst 3, 1) := by decide +kernel
theorem dX8_count_69 : decode cX8_count 69 = .ok (.iaload, 1) := by decide +kernel
theorem dX8_count_70 : decode cX8_count 70 = .ok (.ireturn, 1) := by decide +kernel
theorem dX8_count_71 : decode cX8_count 71 = .ok (.aload_n 0, 1) := by decide +kernel
theorem dX8_count_72 : decode cX8_count 72 = .ok (.getfield 7, 3) := by decide +kernel
theorem dX8_count_75 : decode cX8_count 75 = .ok (.iconst 4, 1) := by decide +kernel
theorem dX8_count_76 : decode cX8_count 76 = .ok (.iaload, 1) := by decide +kernel
theorem dX8_count_77 : decode cX8_count 77 = .ok (.ireturn, 1) := by decide +kernel
theorem dX8_count_78 : decode cX8_count 78 = .ok (.aload_n 0, 1) := by decide +kernel
theorem dX8_count_79 : decode cX8_count 79 = .ok (.getfield 7, 3) := by decide +kernel
theorem dX8_count_82 : decode cX8_count 82 = .ok (.iconst 5, 1) := by decide +kernel
theorem dX8_count_83 : decode cX8_count 83 = .ok (.iaload, 1) := by decide +kernel
theorem dX8_count_84 : decode cX8_count 84 = .ok (.ireturn, 1) := by decide +kernel
theorem dX8_count_85 : decode cX8_count 85 = .ok (.aload_n 0, 1) := by decide +kernel
theorem dX8_count_86 : decode cX8_count 86 = .ok (.getfield 7, 3) := by decide +kernel
theorem dX8_count_89 : decode cX8_count 89 = .ok (.bipush 6, 2) := by decide +kernel
theorem dX8_count_91 : decode cX8_count 91 = .ok (.iaload, 1) := by decide +kernel
theorem dX8_count_92 : decode cX8_count 92 = .ok (.ireturn, 1) := by decide +kernel
theorem dX8_count_93 : decode cX8_count 93 = .ok (.aload_n 0, 1) := by decide +kernel
theorem dX8_count_94 : decode cX8_count 94 = .ok (.invokevirtual 148, 3) := by decide +kernel
theorem dX8_count_97 : decode cX8_count 97 = .ok (.ireturn, 1) := by decide +kernel
theorem dX8_count_98 : decode cX8_count 98 = .ok (.aload_n 0, 1) := by decide +kernel
theorem dX8_count_99 : decode cX8_count 99 = .ok (.invokevirtual 151, 3) := by decide +kernel
theorem dX8_count_102 : decode cX8_count 102 = .ok (.ireturn, 1) := by decide +kernel
theorem dX8_count_103 : decode cX8_count 103 = .ok (.aload_n 0, 1) := by decide +kernel
theorem dX8_count_104 : decode cX8_count 104 = .ok (.getfield 7, 3) := by decide +kernel
theorem dX8_count_107 : decode cX8_count 107 = .ok (.bipush 7, 2) := by decide +kernel
theorem dX8_count_109 : decode cX8_count 109 = .ok (.iaload, 1) := by decide +kernel
theorem dX8_count_110 : decode cX8_count 110 = .ok (.ireturn, 1) := by decide +kernel
theorem dX8_count_111 : decode cX8_count 111 = .ok (.aload_n 0, 1) := by decide +kernel
theorem dX8_count_112 : decode cX8_count 112 = .ok (.getfield 7, 3) := by decide +kernel
theorem dX8_count_115 : decode cX8_count 115 = .ok (.iload_n 1, 1) := by decide +kernel
theorem dX8_count_116 : decode cX8_count 116 = .ok (.bipush 7, 2) := by decide +kernel
theorem dX8_count_118 : decode cX8_count 118 = .ok (.isub, 1) := by decide +kernel
theorem dX8_count_119 : decode cX8_count 119 = .ok (.iaload, 1) := by decide +kernel
theorem dX8_count_120 : decode cX8_count 120 = .ok (.ireturn, 1) := by decide +kernel
theorem dX8_count_121 : decode cX8_count 121 = .ok (.aload_n 0, 1) := by decide +kernel
theorem dX8_count_122 : decode cX8_count 122 = .ok (.getfield 154, 3) := by decide +kernel
theorem dX8_count_125 : decode cX8_count 125 = .ok (.ireturn, 1) := by decide +kernel
theorem dX8_count_126 : decode cX8_count 126 = .ok (.aload_n 0, 1) := by decide +kernel
theorem dX8_count_127 : decode cX8_count 127 = .ok (.getfield 50, 3) := by decide +kernel
theorem dX8_count_130 : decode cX8_count 130 = .ok (.ireturn, 1) := by decide +kernel
theorem dX8_count_131 : decode cX8_count 131 = .ok (.bipush (-2), 2) := by decide +kernel
theorem dX8_count_133 : decode cX8_count 133 = .ok (.ireturn, 1) := by decide +kernel
theorem dX8_needed_0 : decode cX8_needed 0 = .ok (.iload_n 1, 1) := by decide +kernel
theorem dX8_needed_1 : decode cX8_needed 1 = .ok (.iconst 0, 1) := by decide +kernel
theorem dX8_needed_2 : decode cX8_needed 2 = .ok (.iconst 4, 1) := by decide +kernel
theorem dX8_needed_3 : decode cX8_needed 3 = .ok (.invokestatic 39, 3) := by decide +kernel
theorem dX8_needed_6 : decode cX8_needed 6 = .ok (.ifCond .ne 6, 3) := by decide +kernel
theorem dX8_needed_9 : decode cX8_needed 9 = .ok (.bipush (-2), 2) := by decide +kernel
theorem dX8_needed_11 : decode cX8_needed 11 = .ok (.ireturn, 1) := by decide +kernel
theorem dX8_needed_12 : decode cX8_needed 12 = .ok (.bipush (-6), 2) := by decide +kernel
theorem dX8_needed_14 : decode cX8_needed 14 = .ok (.istore_n 2, 1) := by decide +kernel
theorem dX8_needed_15 : decode cX8_needed 15 = .ok (.aload_n 0, 1) := by decide +kernel
theorem dX8_needed_16 : decode cX8_needed 16 = .ok (.getfield 7, 3) := by decide +kernel
theorem dX8_needed_19 : decode cX8_needed 19 = .ok (.iconst 0, 1) := by decide +kernel
theorem dX8_needed_20 : decode cX8_needed 20 = .ok (.iaload, 1) := by decide +kernel
theorem dX8_needed_21 : decode cX8_needed 21 = .ok (.istore_n 3, 1) := by decide +kernel
theorem dX8_needed_22 : decode cX8_needed 22 = .ok (.bipush 32, 2) := by decide +kernel
theorem dX8_needed_24 : decode cX8_needed 24 = .ok (.aload_n 0, 1) := by decide +kernel
theorem dX8_needed_25 : decode cX8_needed 25 = .ok (.getfield 7, 3) := by decide +kernel
theorem dX8_needed_28 : decode cX8_needed 28 = .ok (.iconst 3, 1) := by decide +kernel
theorem dX8_needed_29 : decode cX8_needed 29 = .ok (.iaload, 1) := by decide +kernel
theorem dX8_needed_30 : decode cX8_needed 30 = .ok (.imul, 1) := by decide +kernel
theorem dX8_needed_31 : decode cX8_needed 31 = .ok (.istore 4, 2) := by decide +kernel
theorem dX8_needed_33 : decode cX8_needed 33 = .ok (.iload 4, 2) := by decide +kernel
theorem dX8_needed_35 : decode cX8_needed 35 = .ok (.sipush 160, 3) := by decide +kernel
theorem dX8_needed_38 : decode cX8_needed 38 = .ok (.if_icmp .ge 137, 3) := by decide +kernel
theorem dX8_needed_41 : decode cX8_needed 41 = .ok (.iload 4, 2) := by decide +kernel
theorem dX8_needed_43 : decode cX8_needed 43 = .ok (.bipush 32, 2) := by decide +kernel
theorem dX8_needed_45 : decode cX8_needed 45 = .ok (.idiv, 1) := by decide +kernel
theorem dX8_needed_46 : decode cX8_needed 46 = .ok (.istore 5, 2) := by decide +kernel
theorem dX8_needed_48 : decode cX8_needed 48 = .ok (.iload 4, 2) := by decide +kernel
theorem dX8_needed_50 : decode cX8_needed 50 = .ok (.bipush 32, 2) := by decide +kernel
theorem dX8_needed_52 : decode cX8_needed 52 = .ok (.irem, 1) := by decide +kernel
theorem dX8_needed_53 : decode cX8_needed 53 = .ok (.bipush 8, 2) := by decide +kernel
theorem dX8_needed_55 : decode cX8_needed 55 = .ok (.idiv, 1) := by decide +kernel
theorem dX8_needed_56 : decode cX8_needed 56 = .ok (.istore 6, 2) := by decide +kernel
theorem dX8_needed_58 : decode cX8_needed 58 = .ok (.iload 6, 2) := by decide +kernel
theorem dX8_needed_60 : decode cX8_needed 60 = .ok (.iload 5, 2) := by decide +kernel
theorem dX8_needed_62 : decode cX8_needed 62 = .ok (.iload 4, 2) := by decide +kernel
theorem dX8_needed_64 : decode cX8_needed 64 = .ok (.bipush 8, 2) := by decide +kernel
theorem dX8_needed_66 : decode cX8_needed 66 = .ok (.irem, 1) := by decide +kernel
theorem dX8_needed_67 : decode cX8_needed 67 = .ok (.invokestatic 61, 3) := by decide +kernel
theorem dX8_needed_70 : decode cX8_needed 70 = .ok (.istore 7, 2) := by decide +kernel
theorem dX8_needed_72 : decode cX8_needed 72 = .ok (.aload_n 0, 1) := by decide +kernel
theorem dX8_needed_73 : decode cX8_needed 73 = .ok (.iload 6, 2) := by decide +kernel
theorem dX8_needed_75 : decode cX8_needed 75 = .ok (.iload 5, 2) := by decide +kernel
theorem dX8_needed_77 : decode cX8_needed 77 = .ok (.iload 4, 2) := by decide +kernel
theorem dX8_needed_79 : decode cX8_needed 79 = .ok (.bipush 8, 2) := by decide +kernel
theorem dX8_needed_81 : decode cX8_needed 81 = .ok (.irem, 1) := by decide +kernel
theorem dX8_needed_82 : decode cX8_needed 82 = .ok (.invokevirtual 65, 3) := by decide +kernel
theorem dX8_needed_85 : decode cX8_needed 85 = .ok (.istore 8, 2) := by decide +kernel
theorem dX8_needed_87 : decode cX8_needed 87 = .ok (.iload 8, 2) := by decide +kernel
theorem dX8_needed_89 : decode cX8_needed 89 = .ok (.ifCond .le 46, 3) := by decide +kernel
theorem dX8_needed_92 : decode cX8_needed 92 = .ok (.aload_n 0, 1) := by decide +kernel
theorem dX8_needed_93 : decode cX8_needed 93 = .ok (.getfield 7, 3) := by decide +kernel
theorem dX8_needed_96 : decode cX8_needed 96 = .ok (.iload 7, 2) := by decide +kernel
theorem dX8_needed_98 : decode cX8_needed 98 = .ok (.iconst 1, 1) := by decide +kernel
theorem dX8_needed_99 : decode cX8_needed 99 = .ok (.iadd, 1) := by decide +kernel
theorem dX8_needed_100 : decode cX8_needed 100 = .ok (.iaload, 1) := by decide +kernel
theorem dX8_needed_101 : decode cX8_needed 101 = .ok (.ifCond .eq 17, 3) := by decide +kernel
theorem dX8_needed_104 : decode cX8_needed 104 = .ok (.aload_n 0, 1) := by decide +kernel
theorem dX8_needed_105 : decode cX8_needed 105 = .ok (.getfield 7, 3) := by decide +kernel
theorem dX8_needed_108 : decode cX8_needed 108 = .ok (.iload 7, 2) := by decide +kernel
theorem dX8_needed_110 : decode cX8_needed 110 = .ok (.iconst 0, 1) := by decide +kernel
theorem dX8_needed_111 : decode cX8_needed 111 = .ok (.iadd, 1) := by decide +kernel
theorem dX8_needed_112 : decode cX8_needed 112 = .ok (.iaload, 1) := by decide +kernel
theorem dX8_needed_113 : decode cX8_needed 113 = .ok (.iload 8, 2) := by decide +kernel
theorem dX8_needed_115 : decode cX8_needed 115 = .ok (.if_icmp .ne 20, 3) := by decide +kernel
theorem dX8_needed_118 : decode cX8_needed 118 = .ok (.aload_n 0, 1) := by decide +kernel
theorem dX8_needed_119 : decode cX8_needed 119 = .ok (.getfield 7, 3) := by decide +kernel
theorem dX8_needed_122 : decode cX8_needed 122 = .ok (.iload 7, 2) := by decide +kernel
theorem dX8_needed_124 : decode cX8_needed 124 = .ok (.iconst 1, 1) := by decide +kernel
theorem dX8_needed_125 : decode cX8_needed 125 = .ok (.iadd, 1) := by decide +kernel
theorem dX8_needed_126 : decode cX8_needed 126 = .ok (.iaload, 1) := by decide +kernel
theorem dX8_needed_127 : decode cX8_needed 127 = .ok (.iload_n 3, 1) := by decide +kernel
theorem dX8_needed_128 : decode cX8_needed 128 = .ok (.if_icmp .ge 7, 3) := by decide +kernel
theorem dX8_needed_131 : decode cX8_needed 131 = .ok (.iconst 1, 1) := by decide +kernel
theorem dX8_needed_132 : decode cX8_needed 132 = .ok (.goto 4, 3) := by decide +kernel
theorem dX8_needed_135 : decode cX8_needed 135 = .ok (.iconst 0, 1) := by decide +kernel
theorem dX8_needed_136 : decode cX8_needed 136 = .ok (.istore 9, 2) := by decide +kernel
theorem dX8_needed_138 : decode cX8_needed 138 = .ok (.iload 9, 2) := by decide +kernel
theorem dX8_needed_140 : decode cX8_needed 140 = .ok (.ifCond .eq 8, 3) := by decide +kernel
theorem dX8_needed_143 : decode cX8_needed 143 = .ok (.iload 4, 2) := by decide +kernel
theorem dX8_needed_145 : decode cX8_needed 145 = .ok (.goto 4, 3) := by decide +kernel
theorem dX8_needed_148 : decode cX8_needed 148 = .ok (.iload_n 2, 1) := by decide +kernel
theorem dX8_needed_149 : decode cX8_needed 149 = .ok (.istore_n 2, 1) := by decide +kernel
theorem dX8_needed_150 : decode cX8_needed 150 = .ok (.iload 9, 2) := by decide +kernel
theorem dX8_needed_152 : decode cX8_needed 152 = .ok (.ifCond .eq 15, 3) := by decide +kernel
theorem dX8_needed_155 : decode cX8_needed 155 = .ok (.aload_n 0, 1) := by decide +kernel
theorem dX8_needed_156 : decode cX8_needed 156 = .ok (.getfield 7, 3) := by decide +kernel
theorem dX8_needed_159 : decode cX8_needed 159 = .ok (.iload 7, 2) := by decide +kernel
theorem dX8_needed_161 : decode cX8_needed 161 = .ok (.iconst 1, 1) := by decide +kernel
theorem dX8_needed_162 : decode cX8_needed 162 = .ok (.iadd, 1) := by decide +kernel
theorem dX8_needed_163 : decode cX8_needed 163 = .ok (.iaload, 1) := by decide +kernel
theorem dX8_needed_164 : decode cX8_needed 164 = .ok (.goto 4, 3) := by decide +kernel
theorem dX8_needed_167 : decode cX8_needed 167 = .ok (.iload_n 3, 1) := by decide +kernel
theorem dX8_needed_168 : decode cX8_needed 168 = .ok (.istore_n 3, 1) := by decide +kernel
theorem dX8_needed_169 : decode cX8_needed 169 = .ok (.iinc 4 1, 3) := by decide +kernel
theorem dX8_needed_172 : decode cX8_needed 172 = .ok (.goto (-139), 3) := by decide +kernel
theorem dX8_needed_175 : decode cX8_needed 175 = .ok (.iload_n 2, 1) := by decide +kernel
theorem dX8_needed_176 : decode cX8_needed 176 = .ok (.bipush (-6), 2) := by decide +kernel
theorem dX8_needed_178 : decode cX8_needed 178 = .ok (.if_icmp .ne 6, 3) := by decide +kernel
theorem dX8_needed_181 : decode cX8_needed 181 = .ok (.bipush (-6), 2) := by decide +kernel
theorem dX8_needed_183 : decode cX8_needed 183 = .ok (.ireturn, 1) := by decide +kernel
theorem dX8_needed_184 : decode cX8_needed 184 = .ok (.iload_n 2, 1) := by decide +kernel
theorem dX8_needed_185 : decode cX8_needed 185 = .ok (.bipush 32, 2) := by decide +kernel
theorem dX8_needed_187 : decode cX8_needed 187 = .ok (.idiv, 1) := by decide +kernel
theorem dX8_needed_188 : decode cX8_needed 188 = .ok (.istore 4, 2) := by decide +kernel
theorem dX8_needed_190 : decode cX8_needed 190 = .ok (.iload_n 2, 1) := by decide +kernel
theorem dX8_needed_191 : decode cX8_needed 191 = .ok (.bipush 32, 2) := by decide +kernel
theorem dX8_needed_193 : decode cX8_needed 193 = .ok (.irem, 1) := by decide +kernel
theorem dX8_needed_194 : decode cX8_needed 194 = .ok (.bipush 8, 2) := by decide +kernel
theorem dX8_needed_196 : decode cX8_needed 196 = .ok (.idiv, 1) := by decide +kernel
theorem dX8_needed_197 : decode cX8_needed 197 = .ok (.istore 5, 2) := by decide +kernel
theorem dX8_needed_199 : decode cX8_needed 199 = .ok (.iload_n 1, 1) := by decide +kernel
theorem dX8_needed_200 : decode cX8_needed 200 = .ok (.ifCond .ne 8, 3) := by decide +kernel
theorem dX8_needed_203 : decode cX8_needed 203 = .ok (.iload 5, 2) := by decide +kernel
theorem dX8_needed_205 : decode cX8_needed 205 = .ok (.goto 53, 3) := by decide +kernel
theorem dX8_needed_208 : decode cX8_needed 208 = .ok (.iload_n 1, 1) := by decide +kernel
theorem dX8_needed_209 : decode cX8_needed 209 = .ok (.iconst 1, 1) := by decide +kernel
theorem dX8_needed_210 : decode cX8_needed 210 = .ok (.if_icmp .ne 8, 3) := by decide +kernel
theorem dX8_needed_213 : decode cX8_needed 213 = .ok (.iload 4, 2) := by decide +kernel
theorem dX8_needed_215 : decode cX8_needed 215 = .ok (.goto 43, 3) := by decide +kernel
theorem dX8_needed_218 : decode cX8_needed 218 = .ok (.iload_n 1, 1) := by decide +kernel
theorem dX8_needed_219 : decode cX8_needed 219 = .ok (.iconst 2, 1) := by decide +kernel
theorem dX8_needed_220 : decode cX8_needed 220 = .ok (.if_icmp .ne 10, 3) := by decide +kernel
theorem dX8_needed_223 : decode cX8_needed 223 = .ok (.iload_n 2, 1) := by decide +kernel
theorem dX8_needed_224 : decode cX8_needed 224 = .ok (.bipush 8, 2) := by decide +kernel
theorem dX8_needed_226 : decode cX8_needed 226 = .ok (.irem, 1) := by decide +kernel
theorem dX8_needed_227 : decode cX8_needed 227 = .ok (.goto 31, 3) := by decide +kernel
theorem dX8_needed_230 : decode cX8_needed 230 = .ok (.iload_n 1, 1) := by decide +kernel
theorem dX8_needed_231 : decode cX8_needed 231 = .ok (.iconst 3, 1) := by decide +kernel
theorem dX8_needed_232 : decode cX8_needed 232 = .ok (.if_icmp .ne 18, 3) := by decide +kernel
theorem dX8_needed_235 : decode cX8_needed 235 = .ok (.aload_n 0, 1) := by decide +kernel
theorem dX8_needed_236 : decode cX8_needed 236 = .ok (.iload 5, 2) := by decide +kernel
theorem dX8_needed_238 : decode cX8_needed 238 = .ok (.iload 4, 2) := by decide +kernel
theorem dX8_needed_240 : decode cX8_needed 240 = .ok (.iload_n 2, 1) := by decide +kernel
theorem dX8_needed_241 : decode cX8_needed 241 = .ok (.bipush 8, 2) := by decide +kernel
theorem dX8_needed_243 : decode cX8_needed 243 = .ok (.irem, 1) := by decide +kernel
theorem dX8_needed_244 : decode cX8_needed 244 = .ok (.invokevirtual 65, 3) := by decide +kernel
theorem dX8_needed_247 : decode cX8_needed 247 = .ok (.goto 11, 3) := by decide +kernel
theorem dX8_needed_250 : decode cX8_needed 250 = .ok (.aload_n 0, 1) := by decide +kernel
theorem dX8_needed_251 : decode cX8_needed 251 = .ok (.getfield 7, 3) := by decide +kernel
theorem dX8_needed_254 : decode cX8_needed 254 = .ok (.iconst 0, 1) := by decide +kernel
theorem dX8_needed_255 : decode cX8_needed 255 = .ok (.iaload, 1) := by decide +kernel
theorem dX8_needed_256 : decode cX8_needed 256 = .ok (.iload_n 3, 1) := by decide +kernel
theorem dX8_needed_257 : decode cX8_needed 257 = .ok (.isub, 1) := by decide +kernel
theorem dX8_needed_258 : decode cX8_needed 258 = .ok (.ireturn, 1) := by decide +kernel
theorem dX8_lacking_0 : decode cX8_lacking 0 = .ok (.iconst 0, 1) := by decide +kernel
theorem dX8_lacking_1 : decode cX8_lacking 1 = .ok (.istore_n 1, 1) := by decide +kernel
theorem dX8_lacking_2 : decode cX8_lacking 2 = .ok (.iconst 1, 1) := by decide +kernel
theorem dX8_lacking_3 : decode cX8_lacking 3 = .ok (.istore_n 2, 1) := by decide +kernel
theorem dX8_lacking_4 : decode cX8_lacking 4 = .ok (.iload_n 2, 1) := by decide +kernel
theorem dX8_lacking_5 : decode cX8_lacking 5 = .ok (.bipush 6, 2) := by decide +kernel
theorem dX8_lacking_7 : decode cX8_lacking 7 = .ok (.if_icmp .gt 37, 3) := by decide +kernel
theorem dX8_lacking_10 : decode cX8_lacking 10 = .ok (.iload_n 1, 1) := by decide +kernel
theorem dX8_lacking_11 : decode cX8_lacking 11 = .ok (.aload_n 0, 1) := by decide +kernel
theorem dX8_lacking_12 : decode cX8_lacking 12 = .ok (.getfield 7, 3) := by decide +kernel
theorem dX8_lacking_15 : decode cX8_lacking 15 = .ok (.bipush 11, 2) := by decide +kernel
theorem dX8_lacking_17 : decode cX8_lacking 17 = .ok (.iload_n 2, 1) := by decide +kernel
theorem dX8_lacking_18 : decode cX8_lacking 18 = .ok (.iadd, 1) := by decide +kernel
theorem dX8_lacking_19 : decode cX8_lacking 19 = .ok (.iaload, 1) := by decide +kernel
theorem dX8_lacking_20 : decode cX8_lacking 20 = .ok (.aload_n 0, 1) := by decide +kernel
theorem dX8_lacking_21 : decode cX8_lacking 21 = .ok (.iload_n 2, 1) := by decide +kernel
theorem dX8_lacking_22 : decode cX8_lacking 22 = .ok (.iconst 4, 1) := by decide +kernel
theorem dX8_lacking_23 : decode cX8_lacking 23 = .ok (.invokevirtual 145, 3) := by decide +kernel
theorem dX8_lacking_26 : decode cX8_lacking 26 = .ok (.if_icmp .ge 9, 3) := by decide +kernel
theorem dX8_lacking_29 : decode cX8_lacking 29 = .ok (.iconst 1, 1) := by decide +kernel
theorem dX8_lacking_30 : decode cX8_lacking 30 = .ok (.iload_n 2, 1) := by decide +kernel
theorem dX8_lacking_31 : decode cX8_lacking 31 = .ok (.ishl, 1) := by decide +kernel
theorem dX8_lacking_32 : decode cX8_lacking 32 = .ok (.goto 4, 3) := by decide +kernel
theorem dX8_lacking_35 : decode cX8_lacking 35 = .ok (.iconst 0, 1) := by decide +kernel
theorem dX8_lacking_36 : decode cX8_lacking 36 = .ok (.ior, 1) := by decide +kernel
theorem dX8_lacking_37 : decode cX8_lacking 37 = .ok (.istore_n 1, 1) := by decide +kernel
theorem dX8_lacking_38 : decode cX8_lacking 38 = .ok (.iinc 2 1, 3) := by decide +kernel
theorem dX8_lacking_41 : decode cX8_lacking 41 = .ok (.goto (-37), 3) := by decide +kernel
theorem dX8_lacking_44 : decode cX8_lacking 44 = .ok (.iload_n 1, 1) := by decide +kernel
theorem dX8_lacking_45 : decode cX8_lacking 45 = .ok (.ireturn, 1) := by decide +kernel
theorem dX8_turned_0 : decode cX8_turned 0 = .ok (.aload_n 0, 1) := by decide +kernel
theorem dX8_turned_1 : decode cX8_turned 1 = .ok (.iload_n 1, 1) := by decide +kernel
theorem dX8_turned_2 : decode cX8_turned 2 = .ok (.iload_n 2, 1) := by decide +kernel
theorem dX8_turned_3 : decode cX8_turned 3 = .ok (.iload_n 3, 1) := by decide +kernel
theorem dX8_turned_4 : decode cX8_turned 4 = .ok (.invokevirtual 68, 3) := by decide +kernel
theorem dX8_turned_7 : decode cX8_turned 7 = .ok (.istore 6, 2) := by decide +kernel
theorem dX8_turned_9 : decode cX8_turned 9 = .ok (.iload 4, 2) := by decide +kernel
theorem dX8_turned_11 : decode cX8_turned 11 = .ok (.iload 5, 2) := by decide +kernel
theorem dX8_turned_13 : decode cX8_turned 13 = .ok (.if_icmp .ne 14, 3) := by decide +kernel
theorem dX8_turned_16 : decode cX8_turned 16 = .ok (.iload 6, 2) := by decide +kernel
theorem dX8_turned_18 : decode cX8_turned 18 = .ok (.iload 5, 2) := by decide +kernel
theorem dX8_turned_20 : decode cX8_turned 20 = .ok (.if_icmp .eq 7, 3) := by decide +kernel
theorem dX8_turned_23 : decode cX8_turned 23 = .ok (.iconst 1, 1) := by decide +kernel
theorem dX8_turned_24 : decode cX8_turned 24 = .ok (.goto 4, 3) := by decide +kernel
theorem dX8_turned_27 : decode cX8_turned 27 = .ok (.iconst 0, 1) := by decide +kernel
theorem dX8_turned_28 : decode cX8_turned 28 = .ok (.ireturn, 1) := by decide +kernel
theorem dX8_ifBreathed_0 : decode cX8_ifBreathed 0 = .ok (.iload_n 1, 1) := by decide +kernel
theorem dX8_ifBreathed_1 : decode cX8_ifBreathed 1 = .ok (.invokestatic 43, 3) := by decide +kernel
theorem dX8_ifBreathed_4 : decode cX8_ifBreathed 4 = .ok (.ifCond .ne 5, 3) := by decide +kernel
theorem dX8_ifBreathed_7 : decode cX8_ifBreathed 7 = .ok (.iconst (-1), 1) := by decide +kernel
theorem dX8_ifBreathed_8 : decode cX8_ifBreathed 8 = .ok (.ireturn, 1) := by decide +kernel
theorem dX8_ifBreathed_9 : decode cX8_ifBreathed 9 = .ok (.iload_n 2, 1) := by decide +kernel
theorem dX8_ifBreathed_10 : decode cX8_ifBreathed 10 = .ok (.iconst 0, 1) := by decide +kernel
theorem dX8_ifBreathed_11 : decode cX8_ifBreathed 11 = .ok (.iconst 1, 1) := by decide +kernel
theorem dX8_ifBreathed_12 : decode cX8_ifBreathed 12 = .ok (.invokestatic 39, 3) := by decide +kernel
theorem dX8_ifBreathed_15 : decode cX8_ifBreathed 15 = .ok (.ifCond .eq 12, 3) := by decide +kernel
theorem dX8_ifBreathed_18 : decode cX8_ifBreathed 18 = .ok (.iload_n 3, 1) := by decide +kernel
theorem dX8_ifBreathed_19 : decode cX8_ifBreathed 19 = .ok (.iconst 0, 1) := by decide +kernel
theorem dX8_ifBreathed_20 : decode cX8_ifBreathed 20 = .ok (.iconst 2, 1) := by decide +kernel
theorem dX8_ifBreathed_21 : decode cX8_ifBreathed 21 = .ok (.invokestatic 39, 3) := by decide +kernel
theorem dX8_ifBreathed_24 : decode cX8_ifBreathed 24 = .ok (.ifCond .ne 6, 3) := by decide +kernel
theorem dX8_ifBreathed_27 : decode cX8_ifBreathed 27 = .ok (.bipush (-2), 2) := by decide +kernel
theorem dX8_ifBreathed_29 : decode cX8_ifBreathed 29 = .ok (.ireturn, 1) := by decide +kernel
theorem dX8_ifBreathed_30 : decode cX8_ifBreathed 30 = .ok (.aload_n 0, 1) := by decide +kernel
theorem dX8_ifBreathed_31 : decode cX8_ifBreathed 31 = .ok (.invokevirtual 157, 3) := by decide +kernel
theorem dX8_ifBreathed_34 : decode cX8_ifBreathed 34 = .ok (.iconst 0, 1) := by decide +kernel
theorem dX8_ifBreathed_35 : decode cX8_ifBreathed 35 = .ok (.istore 4, 2) := by decide +kernel
theorem dX8_ifBreathed_37 : decode cX8_ifBreathed 37 = .ok (.iconst 0, 1) := by decide +kernel
theorem dX8_ifBreathed_38 : decode cX8_ifBreathed 38 = .ok (.istore 5, 2) := by decide +kernel
theorem dX8_ifBreathed_40 : decode cX8_ifBreathed 40 = .ok (.iconst 0, 1) := by decide +kernel
theorem dX8_ifBreathed_41 : decode cX8_ifBreathed 41 = .ok (.istore 6, 2) := by decide +kernel
theorem dX8_ifBreathed_43 : decode cX8_ifBreathed 43 = .ok (.aload_n 0, 1) := by decide +kernel
theorem dX8_ifBreathed_44 : decode cX8_ifBreathed 44 = .ok (.getfield 7, 3) := by decide +kernel
theorem dX8_ifBreathed_47 : decode cX8_ifBreathed 47 = .ok (.iconst 3, 1) := by decide +kernel
theorem dX8_ifBreathed_48 : decode cX8_ifBreathed 48 = .ok (.iaload, 1) := by decide +kernel
theorem dX8_ifBreathed_49 : decode cX8_ifBreathed 49 = .ok (.istore 7, 2) := by decide +kernel
theorem dX8_ifBreathed_51 : decode cX8_ifBreathed 51 = .ok (.iload 7, 2) := by decide +kernel
theorem dX8_ifBreathed_53 : decode cX8_ifBreathed 53 = .ok (.iconst 5, 1) := by decide +kernel
theorem dX8_ifBreathed_54 : decode cX8_ifBreathed 54 = .ok (.if_icmp .ge 144, 3) := by decide +kernel
theorem dX8_ifBreathed_57 : decode cX8_ifBreathed 57 = .ok (.iconst 0, 1) := by decide +kernel
theorem dX8_ifBreathed_58 : decode cX8_ifBreathed 58 = .ok (.istore 8, 2) := by decide +kernel
theorem dX8_ifBreathed_60 : decode cX8_ifBreathed 60 = .ok (.iconst 0, 1) := by decide +kernel
theorem dX8_ifBreathed_61 : decode cX8_ifBreathed 61 = .ok (.istore 9, 2) := by decide +kernel
theorem dX8_ifBreathed_63 : decode cX8_ifBreathed 63 = .ok (.iload 9, 2) := by decide +kernel
theorem dX8_ifBreathed_65 : decode cX8_ifBreathed 65 = .ok (.bipush 8, 2) := by decide +kernel
theorem dX8_ifBreathed_67 : decode cX8_ifBreathed 67 = .ok (.if_icmp .ge 34, 3) := by decide +kernel
theorem dX8_ifBreathed_70 : decode cX8_ifBreathed 70 = .ok (.iload 8, 2) := by decide +kernel
theorem dX8_ifBreathed_72 : decode cX8_ifBreathed 72 = .ok (.aload_n 0, 1) := by decide +kernel
theorem dX8_ifBreathed_73 : decode cX8_ifBreathed 73 = .ok (.iload_n 1, 1) := by decide +kernel
theorem dX8_ifBreathed_74 : decode cX8_ifBreathed 74 = .ok (.iload 7, 2) := by decide +kernel
theorem dX8_ifBreathed_76 : decode cX8_ifBreathed 76 = .ok (.iload 9, 2) := by decide +kernel
theorem dX8_ifBreathed_78 : decode cX8_ifBreathed 78 = .ok (.invokevirtual 68, 3) := by decide +kernel
theorem dX8_ifBreathed_81 : decode cX8_ifBreathed 81 = .ok (.ifCond .eq 10, 3) := by decide +kernel
theorem dX8_ifBreathed_84 : decode cX8_ifBreathed 84 = .ok (.iconst 1, 1) := by decide +kernel
theorem dX8_ifBreathed_85 : decode cX8_ifBreathed 85 = .ok (.iload 9, 2) := by decide +kernel
theorem dX8_ifBreathed_87 : decode cX8_ifBreathed 87 = .ok (.ishl, 1) := by decide +kernel
theorem dX8_ifBreathed_88 : decode cX8_ifBreathed 88 = .ok (.goto 4, 3) := by decide +kernel
theorem dX8_ifBreathed_91 : decode cX8_ifBreathed 91 = .ok (.iconst 0, 1) := by decide +kernel
theorem dX8_ifBreathed_92 : decode cX8_ifBreathed 92 = .ok (.ior, 1) := by decide +kernel
theorem dX8_ifBreathed_93 : decode cX8_ifBreathed 93 = .ok (.istore 8, 2) := by decide +kernel
theorem dX8_ifBreathed_95 : decode cX8_ifBreathed 95 = .ok (.iinc 9 1, 3) := by decide +kernel
theorem dX8_ifBreathed_98 : decode cX8_ifBreathed 98 = .ok (.goto (-35), 3) := by decide +kernel
theorem dX8_ifBreathed_101 : decode cX8_ifBreathed 101 = .ok (.iload 4, 2) := by decide +kernel
theorem dX8_ifBreathed_103 : decode cX8_ifBreathed 103 = .ok (.aload_n 0, 1) := by decide +kernel
theorem dX8_ifBreathed_104 : decode cX8_ifBreathed 104 = .ok (.iload_n 1, 1) := by decide +kernel
theorem dX8_ifBreathed_105 : decode cX8_ifBreathed 105 = .ok (.iload 7, 2) := by decide +kernel
theorem dX8_ifBreathed_107 : decode cX8_ifBreathed 107 = .ok (.iload_n 2, 1) := by decide +kernel
theorem dX8_ifBreathed_108 : decode cX8_ifBreathed 108 = .ok (.invokevirtual 89, 3) := by decide +kernel
theorem dX8_ifBreathed_111 : decode cX8_ifBreathed 111 = .ok (.iadd, 1) := by decide +kernel
theorem dX8_ifBreathed_112 : decode cX8_ifBreathed 112 = .ok (.istore 4, 2) := by decide +kernel
theorem dX8_ifBreathed_114 : decode cX8_ifBreathed 114 = .ok (.iconst 0, 1) := by decide +kernel
theorem dX8_ifBreathed_115 : decode cX8_ifBreathed 115 = .ok (.istore 9, 2) := by decide +kernel
theorem dX8_ifBreathed_117 : decode cX8_ifBreathed 117 = .ok (.iload 9, 2) := by decide +kernel
theorem dX8_ifBreathed_119 : decode cX8_ifBreathed 119 = .ok (.bipush 8, 2) := by decide +kernel
theorem dX8_ifBreathed_121 : decode cX8_ifBreathed 121 = .ok (.if_icmp .ge 71, 3) := by decide +kernel
theorem dX8_ifBreathed_124 : decode cX8_ifBreathed 124 = .ok (.iload 5, 2) := by decide +kernel
theorem dX8_ifBreathed_126 : decode cX8_ifBreathed 126 = .ok (.aload_n 0, 1) := by decide +kernel
theorem dX8_ifBreathed_127 : decode cX8_ifBreathed 127 = .ok (.iload_n 1, 1) := by decide +kernel
theorem dX8_ifBreathed_128 : decode cX8_ifBreathed 128 = .ok (.iload 7, 2) := by decide +kernel
theorem dX8_ifBreathed_130 : decode cX8_ifBreathed 130 = .ok (.iload 9, 2) := by decide +kernel
theorem dX8_ifBreathed_132 : decode cX8_ifBreathed 132 = .ok (.iload 8, 2) := by decide +kernel
theorem dX8_ifBreathed_134 : decode cX8_ifBreathed 134 = .ok (.iload 9, 2) := by decide +kernel
theorem dX8_ifBreathed_136 : decode cX8_ifBreathed 136 = .ok (.ishr, 1) := by decide +kernel
theorem dX8_ifBreathed_137 : decode cX8_ifBreathed 137 = .ok (.iconst 1, 1) := by decide +kernel
theorem dX8_ifBreathed_138 : decode cX8_ifBreathed 138 = .ok (.iand, 1) := by decide +kernel
theorem dX8_ifBreathed_139 : decode cX8_ifBreathed 139 = .ok (.iconst 1, 1) := by decide +kernel
theorem dX8_ifBreathed_140 : decode cX8_ifBreathed 140 = .ok (.if_icmp .ne 7, 3) := by decide +kernel
theorem dX8_ifBreathed_143 : decode cX8_ifBreathed 143 = .ok (.iconst 1, 1) := by decide +kernel
theorem dX8_ifBreathed_144 : decode cX8_ifBreathed 144 = .ok (.goto 4, 3) := by decide +kernel
theorem dX8_ifBreathed_147 : decode cX8_ifBreathed 147 = .ok (.iconst 0, 1) := by decide +kernel
theorem dX8_ifBreathed_148 : decode cX8_ifBreathed 148 = .ok (.iconst 1, 1) := by decide +kernel
theorem dX8_ifBreathed_149 : decode cX8_ifBreathed 149 = .ok (.invokevirtual 160, 3) := by decide +kernel
theorem dX8_ifBreathed_152 : decode cX8_ifBreathed 152 = .ok (.iadd, 1) := by decide +kernel
theorem dX8_ifBreathed_153 : decode cX8_ifBreathed 153 = .ok (.istore 5, 2) := by decide +kernel
theorem dX8_ifBreathed_155 : decode cX8_ifBreathed 155 = .ok (.iload 6, 2) := by decide +kernel
theorem dX8_ifBreathed_157 : decode cX8_ifBreathed 157 = .ok (.aload_n 0, 1) := by decide +kernel
theorem dX8_ifBreathed_158 : decode cX8_ifBreathed 158 = .ok (.iload_n 1, 1) := by decide +kernel
theorem dX8_ifBreathed_159 : decode cX8_ifBreathed 159 = .ok (.iload 7, 2) := by decide +kernel
theorem dX8_ifBreathed_161 : decode cX8_ifBreathed 161 = .ok (.iload 9, 2) := by decide +kernel
theorem dX8_ifBreathed_163 : decode cX8_ifBreathed 163 = .ok (.iload 8, 2) := by decide +kernel
theorem dX8_ifBreathed_165 : decode cX8_ifBreathed 165 = .ok (.iload 9, 2) := by decide +kernel
theorem dX8_ifBreathed_167 : decode cX8_ifBreathed 167 = .ok (.ishr, 1) := by decide +kernel
theorem dX8_ifBreathed_168 : decode cX8_ifBreathed 168 = .ok (.iconst 1, 1) := by decide +kernel
theorem dX8_ifBreathed_169 : decode cX8_ifBreathed 169 = .ok (.iand, 1) := by decide +kernel
theorem dX8_ifBreathed_170 : decode cX8_ifBreathed 170 = .ok (.iconst 1, 1) := by decide +kernel
theorem dX8_ifBreathed_171 : decode cX8_ifBreathed 171 = .ok (.if_icmp .ne 7, 3) := by decide +kernel
theorem dX8_ifBreathed_174 : decode cX8_ifBreathed 174 = .ok (.iconst 1, 1) := by decide +kernel
theorem dX8_ifBreathed_175 : decode cX8_ifBreathed 175 = .ok (.goto 4, 3) := by decide +kernel
theorem dX8_ifBreathed_178 : decode cX8_ifBreathed 178 = .ok (.iconst 0, 1) := by decide +kernel
theorem dX8_ifBreathed_179 : decode cX8_ifBreathed 179 = .ok (.iconst 0, 1) := by decide +kernel
theorem dX8_ifBreathed_180 : decode cX8_ifBreathed 180 = .ok (.invokevirtual 160, 3) := by decide +kernel
theorem dX8_ifBreathed_183 : decode cX8_ifBreathed 183 = .ok (.iadd, 1) := by decide +kernel
theorem dX8_ifBreathed_184 : decode cX8_ifBreathed 184 = .ok (.istore 6, 2) := by decide +kernel
theorem dX8_ifBreathed_186 : decode cX8_ifBreathed 186 = .ok (.iinc 9 1, 3) := by decide +kernel
theorem dX8_ifBreathed_189 : decode cX8_ifBreathed 189 = .ok (.goto (-72), 3) := by decide +kernel
theorem dX8_ifBreathed_192 : decode cX8_ifBreathed 192 = .ok (.iinc 7 1, 3) := by decide +kernel
theorem dX8_ifBreathed_195 : decode cX8_ifBreathed 195 = .ok (.goto (-144), 3) := by decide +kernel
theorem dX8_ifBreathed_198 : decode cX8_ifBreathed 198 = .ok (.aload_n 0, 1) := by decide +kernel
theorem dX8_ifBreathed_199 : decode cX8_ifBreathed 199 = .ok (.invokevirtual 164, 3) := by decide +kernel
theorem dX8_ifBreathed_202 : decode cX8_ifBreathed 202 = .ok (.iload_n 3, 1) := by decide +kernel
theorem dX8_ifBreathed_203 : decode cX8_ifBreathed 203 = .ok (.ifCond .ne 8, 3) := by decide +kernel
theorem dX8_ifBreathed_206 : decode cX8_ifBreathed 206 = .ok (.iload 4, 2) := by decide +kernel
theorem dX8_ifBreathed_208 : decode cX8_ifBreathed 208 = .ok (.goto 15, 3) := by decide +kernel
theorem dX8_ifBreathed_211 : decode cX8_ifBreathed 211 = .ok (.iload_n 3, 1) := by decide +kernel
theorem dX8_ifBreathed_212 : decode cX8_ifBreathed 212 = .ok (.iconst 1, 1) := by decide +kernel
theorem dX8_ifBreathed_213 : decode cX8_ifBreathed 213 = .ok (.if_icmp .ne 8, 3) := by decide +kernel
theorem dX8_ifBreathed_216 : decode cX8_ifBreathed 216 = .ok (.iload 5, 2) := by decide +kernel
theorem dX8_ifBreathed_218 : decode cX8_ifBreathed 218 = .ok (.goto 5, 3) := by decide +kernel
theorem dX8_ifBreathed_221 : decode cX8_ifBreathed 221 = .ok (.iload 6, 2) := by decide +kernel
theorem dX8_ifBreathed_223 : decode cX8_ifBreathed 223 = .ok (.ireturn, 1) := by decide +kernel
theorem dX8_changes_0 : decode cX8_changes 0 = .ok (.aload_n 0, 1) := by decide +kernel
theorem dX8_changes_1 : decode cX8_changes 1 = .ok (.invokevirtual 98, 3) := by decide +kernel
theorem dX8_changes_4 : decode cX8_changes 4 = .ok (.aload_n 0, 1) := by decide +kernel
theorem dX8_changes_5 : decode cX8_changes 5 = .ok (.iload_n 1, 1) := by decide +kernel
theorem dX8_changes_6 : decode cX8_changes 6 = .ok (.iload_n 2, 1) := by decide +kernel
theorem dX8_changes_7 : decode cX8_changes 7 = .ok (.invokevirtual 120, 3) := by decide +kernel
theorem dX8_changes_10 : decode cX8_changes 10 = .ok (.istore_n 3, 1) := by decide +kernel
theorem dX8_changes_11 : decode cX8_changes 11 = .ok (.iconst 0, 1) := by decide +kernel
theorem dX8_changes_12 : decode cX8_changes 12 = .ok (.istore 4, 2) := by decide +kernel
theorem dX8_changes_14 : decode cX8_changes 14 = .ok (.iload_n 1, 1) := by decide +kernel
theorem dX8_changes_15 : decode cX8_changes 15 = .ok (.iconst 0, 1) := by decide +kernel
theorem dX8_changes_16 : decode cX8_changes 16 = .ok (.iconst 0, 1) := by decide +kernel
theorem dX8_changes_17 : decode cX8_changes 17 = .ok (.invokestatic 61, 3) := by decide +kernel
theorem dX8_changes_20 : decode cX8_changes 20 = .ok (.istore 5, 2) := by decide +kernel
theorem dX8_changes_22 : decode cX8_changes 22 = .ok (.iload 5, 2) := by decide +kernel
theorem dX8_changes_24 : decode cX8_changes 24 = .ok (.iload_n 1, 1) := by decide +kernel
theorem dX8_changes_25 : decode cX8_changes 25 = .ok (.iconst 4, 1) := by decide +kernel
theorem dX8_changes_26 : decode cX8_changes 26 = .ok (.bipush 7, 2) := by decide +kernel
theorem dX8_changes_28 : decode cX8_changes 28 = .ok (.invokestatic 61, 3) := by decide +kernel
theorem dX8_changes_31 : decode cX8_changes 31 = .ok (.iconst 2, 1) := by decide +kernel
theorem dX8_changes_32 : decode cX8_changes 32 = .ok (.iadd, 1) := by decide +kernel
theorem dX8_changes_33 : decode cX8_changes 33 = .ok (.if_icmp .ge 38, 3) := by decide +kernel
theorem dX8_changes_36 : decode cX8_changes 36 = .ok (.iload 4, 2) := by decide +kernel
theorem dX8_changes_38 : decode cX8_changes 38 = .ok (.ifCond .ne 20, 3) := by decide +kernel
theorem dX8_changes_41 : decode cX8_changes 41 = .ok (.aload_n 0, 1) := by decide +kernel
theorem dX8_changes_42 : decode cX8_changes 42 = .ok (.getfield 7, 3) := by decide +kernel
theorem dX8_changes_45 : decode cX8_changes 45 = .ok (.iload 5, 2) := by decide +kernel
theorem dX8_changes_47 : decode cX8_changes 47 = .ok (.iaload, 1) := by decide +kernel
theorem dX8_changes_48 : decode cX8_changes 48 = .ok (.aload_n 0, 1) := by decide +kernel
theorem dX8_changes_49 : decode cX8_changes 49 = .ok (.getfield 13, 3) := by decide +kernel
theorem dX8_changes_52 : decode cX8_changes 52 = .ok (.iload 5, 2) := by decide +kernel
theorem dX8_changes_54 : decode cX8_changes 54 = .ok (.iaload, 1) := by decide +kernel
theorem dX8_changes_55 : decode cX8_changes 55 = .ok (.if_icmp .eq 7, 3) := by decide +kernel
theorem dX8_changes_58 : decode cX8_changes 58 = .ok (.iconst 1, 1) := by decide +kernel
theorem dX8_changes_59 : decode cX8_changes 59 = .ok (.goto 4, 3) := by decide +kernel
theorem dX8_changes_62 : decode cX8_changes 62 = .ok (.iconst 0, 1) := by decide +kernel
theorem dX8_changes_63 : decode cX8_changes 63 = .ok (.istore 4, 2) := by decide +kernel
theorem dX8_changes_65 : decode cX8_changes 65 = .ok (.iinc 5 1, 3) := by decide +kernel
theorem dX8_changes_68 : decode cX8_changes 68 = .ok (.goto (-46), 3) := by decide +kernel
theorem dX8_changes_71 : decode cX8_changes 71 = .ok (.iload 4, 2) := by decide +kernel
theorem dX8_changes_73 : decode cX8_changes 73 = .ok (.ireturn, 1) := by decide +kernel
theorem dX8_settles_0 : decode cX8_settles 0 = .ok (.iload_n 1, 1) := by decide +kernel
theorem dX8_settles_1 : decode cX8_settles 1 = .ok (.invokestatic 43, 3) := by decide +kernel
theorem dX8_settles_4 : decode cX8_settles 4 = .ok (.ifCond .ne 5, 3) := by decide +kernel
theorem dX8_settles_7 : decode cX8_settles 7 = .ok (.iconst (-1), 1) := by decide +kernel
theorem dX8_settles_8 : decode cX8_settles 8 = .ok (.ireturn, 1) := by decide +kernel
theorem dX8_settles_9 : decode cX8_settles 9 = .ok (.iload_n 2, 1) := by decide +kernel
theorem dX8_settles_10 : decode cX8_settles 10 = .ok (.iconst 0, 1) := by decide +kernel
theorem dX8_settles_11 : decode cX8_settles 11 = .ok (.iconst 1, 1) := by decide +kernel
theorem dX8_settles_12 : decode cX8_settles 12 = .ok (.invokestatic 39, 3) := by decide +kernel
theorem dX8_settles_15 : decode cX8_settles 15 = .ok (.ifCond .ne 6, 3) := by decide +kernel
theorem dX8_settles_18 : decode cX8_settles 18 = .ok (.bipush (-2), 2) := by decide +kernel
theorem dX8_settles_20 : decode cX8_settles 20 = .ok (.ireturn, 1) := by decide +kernel
theorem dX8_settles_21 : decode cX8_settles 21 = .ok (.aload_n 0, 1) := by decide +kernel
theorem dX8_settles_22 : decode cX8_settles 22 = .ok (.invokevirtual 157, 3) := by decide +kernel
theorem dX8_settles_25 : decode cX8_settles 25 = .ok (.iconst 0, 1) := by decide +kernel
theorem dX8_settles_26 : decode cX8_settles 26 = .ok (.istore_n 3, 1) := by decide +kernel
theorem dX8_settles_27 : decode cX8_settles 27 = .ok (.iload_n 3, 1) := by decide +kernel
theorem dX8_settles_28 : decode cX8_settles 28 = .ok (.sipush 200, 3) := by decide +kernel
theorem dX8_settles_31 : decode cX8_settles 31 = .ok (.if_icmp .gt 18, 3) := by decide +kernel
theorem dX8_settles_34 : decode cX8_settles 34 = .ok (.aload_n 0, 1) := by decide +kernel
theorem dX8_settles_35 : decode cX8_settles 35 = .ok (.iload_n 1, 1) := by decide +kernel
theorem dX8_settles_36 : decode cX8_settles 36 = .ok (.iload_n 2, 1) := by decide +kernel
theorem dX8_settles_37 : decode cX8_settles 37 = .ok (.invokevirtual 167, 3) := by decide +kernel
theorem dX8_settles_40 : decode cX8_settles 40 = .ok (.ifCond .eq 9, 3) := by decide +kernel
theorem dX8_settles_43 : decode cX8_settles 43 = .ok (.iinc 3 1, 3) := by decide +kernel
theorem dX8_settles_46 : decode cX8_settles 46 = .ok (.goto (-19), 3) := by decide +kernel
theorem dX8_settles_49 : decode cX8_settles 49 = .ok (.aload_n 0, 1) := by decide +kernel
theorem dX8_settles_50 : decode cX8_settles 50 = .ok (.invokevirtual 164, 3) := by decide +kernel
theorem dX8_settles_53 : decode cX8_settles 53 = .ok (.iload_n 3, 1) := by decide +kernel
theorem dX8_settles_54 : decode cX8_settles 54 = .ok (.sipush 200, 3) := by decide +kernel
theorem dX8_settles_57 : decode cX8_settles 57 = .ok (.if_icmp .le 8, 3) := by decide +kernel
theorem dX8_settles_60 : decode cX8_settles 60 = .ok (.bipush (-6), 2) := by decide +kernel
theorem dX8_settles_62 : decode cX8_settles 62 = .ok (.goto 4, 3) := by decide +kernel
theorem dX8_settles_65 : decode cX8_settles 65 = .ok (.iload_n 3, 1) := by decide +kernel
theorem dX8_settles_66 : decode cX8_settles 66 = .ok (.ireturn, 1) := by decide +kernel
theorem dX8_best_0 : decode cX8_best 0 = .ok (.iconst 0, 1) := by decide +kernel
theorem dX8_best_1 : decode cX8_best 1 = .ok (.istore_n 1, 1) := by decide +kernel
theorem dX8_best_2 : decode cX8_best 2 = .ok (.iconst 1, 1) := by decide +kernel
theorem dX8_best_3 : decode cX8_best 3 = .ok (.istore_n 2, 1) := by decide +kernel
theorem dX8_best_4 : decode cX8_best 4 = .ok (.iload_n 2, 1) := by decide +kernel
theorem dX8_best_5 : decode cX8_best 5 = .ok (.iconst 4, 1) := by decide +kernel
theorem dX8_best_6 : decode cX8_best 6 = .ok (.if_icmp .ge 32, 3) := by decide +kernel
theorem dX8_best_9 : decode cX8_best 9 = .ok (.aload_n 0, 1) := by decide +kernel
theorem dX8_best_10 : decode cX8_best 10 = .ok (.iload_n 2, 1) := by decide +kernel
theorem dX8_best_11 : decode cX8_best 11 = .ok (.bipush 11, 2) := by decide +kernel
theorem dX8_best_13 : decode cX8_best 13 = .ok (.invokevirtual 139, 3) := by decide +kernel
theorem dX8_best_16 : decode cX8_best 16 = .ok (.aload_n 0, 1) := by decide +kernel
theorem dX8_best_17 : decode cX8_best 17 = .ok (.iload_n 1, 1) := by decide +kernel
theorem dX8_best_18 : decode cX8_best 18 = .ok (.bipush 11, 2) := by decide +kernel
theorem dX8_best_20 : decode cX8_best 20 = .ok (.invokevirtual 139, 3) := by decide +kernel
theorem dX8_best_23 : decode cX8_best 23 = .ok (.if_icmp .le 7, 3) := by decide +kernel
theorem dX8_best_26 : decode cX8_best 26 = .ok (.iload_n 2, 1) := by decide +kernel
theorem dX8_best_27 : decode cX8_best 27 = .ok (.goto 4, 3) := by decide +kernel
theorem dX8_best_30 : decode cX8_best 30 = .ok (.iload_n 1, 1) := by decide +kernel
theorem dX8_best_31 : decode cX8_best 31 = .ok (.istore_n 1, 1) := by decide +kernel
theorem dX8_best_32 : decode cX8_best 32 = .ok (.iinc 2 1, 3) := by decide +kernel
theorem dX8_best_35 : decode cX8_best 35 = .ok (.goto (-31), 3) := by decide +kernel
theorem dX8_best_38 : decode cX8_best 38 = .ok (.iload_n 1, 1) := by decide +kernel
theorem dX8_best_39 : decode cX8_best 39 = .ok (.ireturn, 1) := by decide +kernel
theorem dX8_isSign_0 : decode cX8_isSign 0 = .ok (.aload_n 0, 1) := by decide +kernel
theorem dX8_isSign_1 : decode cX8_isSign 1 = .ok (.getfield 171, 3) := by decide +kernel
theorem dX8_isSign_4 : decode cX8_isSign 4 = .ok (.aload_n 0, 1) := by decide +kernel
theorem dX8_isSign_5 : decode cX8_isSign 5 = .ok (.getfield 154, 3) := by decide +kernel
theorem dX8_isSign_8 : decode cX8_isSign 8 = .ok (.if_icmp .ge 33, 3) := by decide +kernel
theorem dX8_isSign_11 : decode cX8_isSign 11 = .ok (.aload_n 0, 1) := by decide +kernel
theorem dX8_isSign_12 : decode cX8_isSign 12 = .ok (.getfield 35, 3) := by decide +kernel
theorem dX8_isSign_15 : decode cX8_isSign 15 = .ok (.aload_n 0, 1) := by decide +kernel
theorem dX8_isSign_16 : decode cX8_isSign 16 = .ok (.getfield 171, 3) := by decide +kernel
theorem dX8_isSign_19 : decode cX8_isSign 19 = .ok (.caload, 1) := by decide +kernel
theorem dX8_isSign_20 : decode cX8_isSign 20 = .ok (.iload_n 1, 1) := by decide +kernel
theorem dX8_isSign_21 : decode cX8_isSign 21 = .ok (.if_icmp .lt 20, 3) := by decide +kernel
theorem dX8_isSign_24 : decode cX8_isSign 24 = .ok (.aload_n 0, 1) := by decide +kernel
theorem dX8_isSign_25 : decode cX8_isSign 25 = .ok (.getfield 35, 3) := by decide +kernel
theorem dX8_isSign_28 : decode cX8_isSign 28 = .ok (.aload_n 0, 1) := by decide +kernel
theorem dX8_isSign_29 : decode cX8_isSign 29 = .ok (.getfield 171, 3) := by decide +kernel
theorem dX8_isSign_32 : decode cX8_isSign 32 = .ok (.caload, 1) := by decide +kernel
theorem dX8_isSign_33 : decode cX8_isSign 33 = .ok (.iload_n 2, 1) := by decide +kernel
theorem dX8_isSign_34 : decode cX8_isSign 34 = .ok (.if_icmp .gt 7, 3) := by decide +kernel
theorem dX8_isSign_37 : decode cX8_isSign 37 = .ok (.iconst 1, 1) := by decide +kernel
theorem dX8_isSign_38 : decode cX8_isSign 38 = .ok (.goto 4, 3) := by decide +kernel
theorem dX8_isSign_41 : decode cX8_isSign 41 = .ok (.iconst 0, 1) := by decide +kernel
theorem dX8_isSign_42 : decode cX8_isSign 42 = .ok (.ireturn, 1) := by decide +kernel
theorem dX8_accepts_0 : decode cX8_accepts 0 = .ok (.aload_n 0, 1) := by decide +kernel
theorem dX8_accepts_1 : decode cX8_accepts 1 = .ok (.iload_n 1, 1) := by decide +kernel
theorem dX8_accepts_2 : decode cX8_accepts 2 = .ok (.iload_n 1, 1) := by decide +kernel
theorem dX8_accepts_3 : decode cX8_accepts 3 = .ok (.invokevirtual 174, 3) := by decide +kernel
theorem dX8_accepts_6 : decode cX8_accepts 6 = .ok (.istore_n 2, 1) := by decide +kernel
theorem dX8_accepts_7 : decode cX8_accepts 7 = .ok (.aload_n 0, 1) := by decide +kernel
theorem dX8_accepts_8 : decode cX8_accepts 8 = .ok (.dup, 1) := by decide +kernel
theorem dX8_accepts_9 : decode cX8_accepts 9 = .ok (.getfield 171, 3) := by decide +kernel
theorem dX8_accepts_12 : decode cX8_accepts 12 = .ok (.iload_n 2, 1) := by decide +kernel
theorem dX8_accepts_13 : decode cX8_accepts 13 = .ok (.ifCond .eq 7, 3) := by decide +kernel
theorem dX8_accepts_16 : decode cX8_accepts 16 = .ok (.iconst 1, 1) := by decide +kernel
theorem dX8_accepts_17 : decode cX8_accepts 17 = .ok (.goto 4, 3) := by decide +kernel
theorem dX8_accepts_20 : decode cX8_accepts 20 = .ok (.iconst 0, 1) := by decide +kernel
theorem dX8_accepts_21 : decode cX8_accepts 21 = .ok (.iadd, 1) := by decide +kernel
theorem dX8_accepts_22 : decode cX8_accepts 22 = .ok (.putfield 171, 3) := by decide +kernel
theorem dX8_accepts_25 : decode cX8_accepts 25 = .ok (.iload_n 2, 1) := by decide +kernel
theorem dX8_accepts_26 : decode cX8_accepts 26 = .ok (.ireturn, 1) := by decide +kernel
theorem dX8_digit_0 : decode cX8_digit 0 = .ok (.aload_n 0, 1) := by decide +kernel
theorem dX8_digit_1 : decode cX8_digit 1 = .ok (.iload_n 2, 1) := by decide +kernel
theorem dX8_digit_2 : decode cX8_digit 2 = .ok (.iload_n 3, 1) := by decide +kernel
theorem dX8_digit_3 : decode cX8_digit 3 = .ok (.invokevirtual 174, 3) := by decide +kernel
theorem dX8_digit_6 : decode cX8_digit 6 = .ok (.istore 4, 2) := by decide +kernel
theorem dX8_digit_8 : decode cX8_digit 8 = .ok (.aload_n 0, 1) := by decide +kernel
theorem dX8_digit_9 : decode cX8_digit 9 = .ok (.getfield 32, 3) := by decide +kernel
theorem dX8_digit_12 : decode cX8_digit 12 = .ok (.iconst 5, 1) := by decide +kernel
theorem dX8_digit_13 : decode cX8_digit 13 = .ok (.aload_n 0, 1) := by decide +kernel
theorem dX8_digit_14 : decode cX8_digit 14 = .ok (.getfield 178, 3) := by decide +kernel
theorem dX8_digit_17 : decode cX8_digit 17 = .ok (.imul, 1) := by decide +kernel
theorem dX8_digit_18 : decode cX8_digit 18 = .ok (.iload_n 1, 1) := by decide +kernel
theorem dX8_digit_19 : decode cX8_digit 19 = .ok (.iadd, 1) := by decide +kernel
theorem dX8_digit_20 : decode cX8_digit 20 = .ok (.iload 4, 2) := by decide +kernel
theorem dX8_digit_22 : decode cX8_digit 22 = .ok (.ifCond .eq 18, 3) := by decide +kernel
theorem dX8_digit_25 : decode cX8_digit 25 = .ok (.aload_n 0, 1) := by decide +kernel
theorem dX8_digit_26 : decode cX8_digit 26 = .ok (.getfield 35, 3) := by decide +kernel
theorem dX8_digit_29 : decode cX8_digit 29 = .ok (.aload_n 0, 1) := by decide +kernel
theorem dX8_digit_30 : decode cX8_digit 30 = .ok (.getfield 171, 3) := by decide +kernel
theorem dX8_digit_33 : decode cX8_digit 33 = .ok (.caload, 1) := by decide +kernel
theorem dX8_digit_34 : decode cX8_digit 34 = .ok (.bipush 48, 2) := by decide +kernel
theorem dX8_digit_36 : decode cX8_digit 36 = .ok (.isub, 1) := by decide +kernel
theorem dX8_digit_37 : decode cX8_digit 37 = .ok (.goto 4, 3) := by decide +kernel
theorem dX8_digit_40 : decode cX8_digit 40 = .ok (.iconst 0, 1) := by decide +kernel
theorem dX8_digit_41 : decode cX8_digit 41 = .ok (.iastore, 1) := by decide +kernel
theorem dX8_digit_42 : decode cX8_digit 42 = .ok (.aload_n 0, 1) := by decide +kernel
theorem dX8_digit_43 : decode cX8_digit 43 = .ok (.dup, 1) := by decide +kernel
theorem dX8_digit_44 : decode cX8_digit 44 = .ok (.getfield 171, 3) := by decide +kernel
theorem dX8_digit_47 : decode cX8_digit 47 = .ok (.iload 4, 2) := by decide +kernel
theorem dX8_digit_49 : decode cX8_digit 49 = .ok (.ifCond .eq 7, 3) := by decide +kernel
theorem dX8_digit_52 : decode cX8_digit 52 = .ok (.iconst 1, 1) := by decide +kernel
theorem dX8_digit_53 : decode cX8_digit 53 = .ok (.goto 4, 3) := by decide +kernel
theorem dX8_digit_56 : decode cX8_digit 56 = .ok (.iconst 0, 1) := by decide +kernel
theorem dX8_digit_57 : decode cX8_digit 57 = .ok (.iadd, 1) := by decide +kernel
theorem dX8_digit_58 : decode cX8_digit 58 = .ok (.putfield 171, 3) := by decide +kernel
theorem dX8_digit_61 : decode cX8_digit 61 = .ok (.iload 4, 2) := by decide +kernel
theorem dX8_digit_63 : decode cX8_digit 63 = .ok (.ireturn, 1) := by decide +kernel
theorem dX8_number_0 : decode cX8_number 0 = .ok (.aload_n 0, 1) := by decide +kernel
theorem dX8_number_1 : decode cX8_number 1 = .ok (.iload_n 1, 1) := by decide +kernel
theorem dX8_number_2 : decode cX8_number 2 = .ok (.bipush 48, 2) := by decide +kernel
theorem dX8_number_4 : decode cX8_number 4 = .ok (.bipush 57, 2) := by decide +kernel
theorem dX8_number_6 : decode cX8_number 6 = .ok (.invokevirtual 181, 3) := by decide +kernel
theorem dX8_number_9 : decode cX8_number 9 = .ok (.ifCond .ne 5, 3) := by decide +kernel
theorem dX8_number_12 : decode cX8_number 12 = .ok (.iconst 0, 1) := by decide +kernel
theorem dX8_number_13 : decode cX8_number 13 = .ok (.ireturn, 1) := by decide +kernel
theorem dX8_number_14 : decode cX8_number 14 = .ok (.aload_n 0, 1) := by decide +kernel
theorem dX8_number_15 : decode cX8_number 15 = .ok (.getfield 32, 3) := by decide +kernel
theorem dX8_number_18 : decode cX8_number 18 = .ok (.iconst 5, 1) := by decide +kernel
theorem dX8_number_19 : decode cX8_number 19 = .ok (.aload_n 0, 1) := by decide +kernel
theorem dX8_number_20 : decode cX8_number 20 = .ok (.getfield 178, 3) := by decide +kernel
theorem dX8_number_23 : decode cX8_number 23 = .ok (.imul, 1) := by decide +kernel
theorem dX8_number_24 : decode cX8_number 24 = .ok (.iload_n 1, 1) := by decide +kernel
theorem dX8_number_25 : decode cX8_number 25 = .ok (.iadd, 1) := by decide +kernel
theorem dX8_number_26 : decode cX8_number 26 = .ok (.iaload, 1) := by decide +kernel
theorem dX8_number_27 : decode cX8_number 27 = .ok (.istore_n 2, 1) := by decide +kernel
theorem dX8_number_28 : decode cX8_number 28 = .ok (.iload_n 2, 1) := by decide +kernel
theorem dX8_number_29 : decode cX8_number 29 = .ok (.ifCond .le 54, 3) := by decide +kernel
theorem dX8_number_32 : decode cX8_number 32 = .ok (.aload_n 0, 1) := by decide +kernel
theorem dX8_number_33 : decode cX8_number 33 = .ok (.bipush 48, 2) := by decide +kernel
theorem dX8_number_35 : decode cX8_number 35 = .ok (.bipush 57, 2) := by decide +kernel
theorem dX8_number_37 : decode cX8_number 37 = .ok (.invokevirtual 174, 3) := by decide +kernel
theorem dX8_number_40 : decode cX8_number 40 = .ok (.ifCond .eq 43, 3) := by decide +kernel
theorem dX8_number_43 : decode cX8_number 43 = .ok (.aload_n 0, 1) := by decide +kernel
theorem dX8_number_44 : decode cX8_number 44 = .ok (.getfield 32, 3) := by decide +kernel
theorem dX8_number_47 : decode cX8_number 47 = .ok (.iconst 5, 1) := by decide +kernel
theorem dX8_number_48 : decode cX8_number 48 = .ok (.aload_n 0, 1) := by decide +kernel
theorem dX8_number_49 : decode cX8_number 49 = .ok (.getfield 178, 3) := by decide +kernel
theorem dX8_number_52 : decode cX8_number 52 = .ok (.imul, 1) := by decide +kernel
theorem dX8_number_53 : decode cX8_number 53 = .ok (.iload_n 1, 1) := by decide +kernel
theorem dX8_number_54 : decode cX8_number 54 = .ok (.iadd, 1) := by decide +kernel
theorem dX8_number_55 : decode cX8_number 55 = .ok (.bipush 10, 2) := by decide +kernel
theorem dX8_number_57 : decode cX8_number 57 = .ok (.iload_n 2, 1) := by decide +kernel
theorem dX8_number_58 : decode cX8_number 58 = .ok (.imul, 1) := by decide +kernel
theorem dX8_number_59 : decode cX8_number 59 = .ok (.aload_n 0, 1) := by decide +kernel
theorem dX8_number_60 : decode cX8_number 60 = .ok (.getfield 35, 3) := by decide +kernel
theorem dX8_number_63 : decode cX8_number 63 = .ok (.aload_n 0, 1) := by decide +kernel
theorem dX8_number_64 : decode cX8_number 64 = .ok (.getfield 171, 3) := by decide +kernel
theorem dX8_number_67 : decode cX8_number 67 = .ok (.caload, 1) := by decide +kernel
theorem dX8_number_68 : decode cX8_number 68 = .ok (.iadd, 1) := by decide +kernel
theorem dX8_number_69 : decode cX8_number 69 = .ok (.bipush 48, 2) := by decide +kernel
theorem dX8_number_71 : decode cX8_number 71 = .ok (.isub, 1) := by decide +kernel
theorem dX8_number_72 : decode cX8_number 72 = .ok (.iastore, 1) := by decide +kernel
theorem dX8_number_73 : decode cX8_number 73 = .ok (.aload_n 0, 1) := by decide +kernel
theorem dX8_number_74 : decode cX8_number 74 = .ok (.dup, 1) := by decide +kernel
theorem dX8_number_75 : decode cX8_number 75 = .ok (.getfield 171, 3) := by decide +kernel
theorem dX8_number_78 : decode cX8_number 78 = .ok (.iconst 1, 1) := by decide +kernel
theorem dX8_number_79 : decode cX8_number 79 = .ok (.iadd, 1) := by decide +kernel
theorem dX8_number_80 : decode cX8_number 80 = .ok (.putfield 171, 3) := by decide +kernel
theorem dX8_number_83 : decode cX8_number 83 = .ok (.iconst 1, 1) := by decide +kernel
theorem dX8_number_84 : decode cX8_number 84 = .ok (.ireturn, 1) := by decide +kernel
theorem dX8_colours_0 : decode cX8_colours 0 = .ok (.iconst 0, 1) := by decide +kernel
theorem dX8_colours_1 : decode cX8_colours 1 = .ok (.istore_n 1, 1) := by decide +kernel
theorem dX8_colours_2 : decode cX8_colours 2 = .ok (.iconst 1, 1) := by decide +kernel
theorem dX8_colours_3 : decode cX8_colours 3 = .ok (.istore_n 2, 1) := by decide +kernel
theorem dX8_colours_4 : decode cX8_colours 4 = .ok (.iconst 0, 1) := by decide +kernel
theorem dX8_colours_5 : decode cX8_colours 5 = .ok (.istore_n 3, 1) := by decide +kernel
theorem dX8_colours_6 : decode cX8_colours 6 = .ok (.iload_n 3, 1) := by decide +kernel
theorem dX8_colours_7 : decode cX8_colours 7 = .ok (.bipush 8, 2) := by decide +kernel
theorem dX8_colours_9 : decode cX8_colours 9 = .ok (.if_icmp .ge 51, 3) := by decide +kernel
theorem dX8_colours_12 : decode cX8_colours 12 = .ok (.iload_n 2, 1) := by decide +kernel
theorem dX8_colours_13 : decode cX8_colours 13 = .ok (.ifCond .eq 47, 3) := by decide +kernel
theorem dX8_colours_16 : decode cX8_colours 16 = .ok (.aload_n 0, 1) := by decide +kernel
theorem dX8_colours_17 : decode cX8_colours 17 = .ok (.iconst 3, 1) := by decide +kernel
theorem dX8_colours_18 : decode cX8_colours 18 = .ok (.bipush 48, 2) := by decide +kernel
theorem dX8_colours_20 : decode cX8_colours 20 = .ok (.bipush 54, 2) := by decide +kernel
theorem dX8_colours_22 : decode cX8_colours 22 = .ok (.invokevirtual 181, 3) := by decide +kernel
theorem dX8_colours_25 : decode cX8_colours 25 = .ok (.istore_n 2, 1) := by decide +kernel
theorem dX8_colours_26 : decode cX8_colours 26 = .ok (.iload_n 1, 1) := by decide +kernel
theorem dX8_colours_27 : decode cX8_colours 27 = .ok (.iload_n 2, 1) := by decide +kernel
theorem dX8_colours_28 : decode cX8_colours 28 = .ok (.ifCond .eq 23, 3) := by decide +kernel
theorem dX8_colours_31 : decode cX8_colours 31 = .ok (.aload_n 0, 1) := by decide +kernel
theorem dX8_colours_32 : decode cX8_colours 32 = .ok (.getfield 32, 3) := by decide +kernel
theorem dX8_colours_35 : decode cX8_colours 35 = .ok (.iconst 5, 1) := by decide +kernel
theorem dX8_colours_36 : decode cX8_colours 36 = .ok (.aload_n 0, 1) := by decide +kernel
theorem dX8_colours_37 : decode cX8_colours 37 = .ok (.getfield 178, 3) := by decide +kernel
theorem dX8_colours_40 : decode cX8_colours 40 = .ok (.imul, 1) := by decide +kernel
theorem dX8_colours_41 : decode cX8_colours 41 = .ok (.iconst 3, 1) := by decide +kernel
theorem dX8_colours_42 : decode cX8_colours 42 = .ok (.iadd, 1) := by decide +kernel
theorem dX8_colours_43 : decode cX8_colours 43 = .ok (.iaload, 1) := by decide +kernel
theorem dX8_colours_44 : decode cX8_colours 44 = .ok (.iconst 3, 1) := by decide +kernel
theorem dX8_colours_45 : decode cX8_colours 45 = .ok (.iload_n 3, 1) := by decide +kernel
theorem dX8_colours_46 : decode cX8_colours 46 = .ok (.imul, 1) := by decide +kernel
theorem dX8_colours_47 : decode cX8_colours 47 = .ok (.ishl, 1) := by decide +kernel
theorem dX8_colours_48 : decode cX8_colours 48 = .ok (.goto 4, 3) := by decide +kernel
theorem dX8_colours_51 : decode cX8_colours 51 = .ok (.iconst 0, 1) := by decide +kernel
theorem dX8_colours_52 : decode cX8_colours 52 = .ok (.iadd, 1) := by decide +kernel
theorem dX8_colours_53 : decode cX8_colours 53 = .ok (.istore_n 1, 1) := by decide +kernel
theorem dX8_colours_54 : decode cX8_colours 54 = .ok (.iinc 3 1, 3) := by decide +kernel
theorem dX8_colours_57 : decode cX8_colours 57 = .ok (.goto (-51), 3) := by decide +kernel
theorem dX8_colours_60 : decode cX8_colours 60 = .ok (.aload_n 0, 1) := by decide +kernel
theorem dX8_colours_61 : decode cX8_colours 61 = .ok (.getfield 32, 3) := by decide +kernel
theorem dX8_colours_64 : decode cX8_colours 64 = .ok (.iconst 5, 1) := by decide +kernel
theorem dX8_colours_65 : decode cX8_colours 65 = .ok (.aload_n 0, 1) := by decide +kernel
theorem dX8_colours_66 : decode cX8_colours 66 = .ok (.getfield 178, 3) := by decide +kernel
theorem dX8_colours_69 : decode cX8_colours 69 = .ok (.imul, 1) := by decide +kernel
theorem dX8_colours_70 : decode cX8_colours 70 = .ok (.iconst 2, 1) := by decide +kernel
theorem dX8_colours_71 : decode cX8_colours 71 = .ok (.iadd, 1) := by decide +kernel
theorem dX8_colours_72 : decode cX8_colours 72 = .ok (.iload_n 1, 1) := by decide +kernel
theorem dX8_colours_73 : decode cX8_colours 73 = .ok (.iastore, 1) := by decide +kernel
theorem dX8_colours_74 : decode cX8_colours 74 = .ok (.iload_n 2, 1) := by decide +kernel
theorem dX8_colours_75 : decode cX8_colours 75 = .ok (.ireturn, 1) := by decide +kernel
theorem dX8_direction_0 : decode cX8_direction 0 = .ok (.aload_n 0, 1) := by decide +kernel
theorem dX8_direction_1 : decode cX8_direction 1 = .ok (.bipush 43, 2) := by decide +kernel
theorem dX8_direction_3 : decode cX8_direction 3 = .ok (.invokevirtual 185, 3) := by decide +kernel
theorem dX8_direction_6 : decode cX8_direction 6 = .ok (.istore_n 1, 1) := by decide +kernel
theorem dX8_direction_7 : decode cX8_direction 7 = .ok (.aload_n 0, 1) := by decide +kernel
theorem dX8_direction_8 : decode cX8_direction 8 = .ok (.getfield 32, 3) := by decide +kernel
theorem dX8_direction_11 : decode cX8_direction 11 = .ok (.iconst 5, 1) := by decide +kernel
theorem dX8_direction_12 : decode cX8_direction 12 = .ok (.aload_n 0, 1) := by decide +kernel
theorem dX8_direction_13 : decode cX8_direction 13 = .ok (.getfield 178, 3) := by decide +kernel
theorem dX8_direction_16 : decode cX8_direction 16 = .ok (.imul, 1) := by decide +kernel
theorem dX8_direction_17 : decode cX8_direction 17 = .ok (.iconst 2, 1) := by decide +kernel
theorem dX8_direction_18 : decode cX8_direction 18 = .ok (.iadd, 1) := by decide +kernel
theorem dX8_direction_19 : decode cX8_direction 19 = .ok (.iload_n 1, 1) := by decide +kernel
theorem dX8_direction_20 : decode cX8_direction 20 = .ok (.ifCond .eq 7, 3) := by decide +kernel
theorem dX8_direction_23 : decode cX8_direction 23 = .ok (.iconst 0, 1) := by decide +kernel
theorem dX8_direction_24 : decode cX8_direction 24 = .ok (.goto 4, 3) := by decide +kernel
theorem dX8_direction_27 : decode cX8_direction 27 = .ok (.iconst 1, 1) := by decide +kernel
theorem dX8_direction_28 : decode cX8_direction 28 = .ok (.iastore, 1) := by decide +kernel
theorem dX8_direction_29 : decode cX8_direction 29 = .ok (.iload_n 1, 1) := by decide +kernel
theorem dX8_direction_30 : decode cX8_direction 30 = .ok (.ifCond .ne 12, 3) := by decide +kernel
theorem dX8_direction_33 : decode cX8_direction 33 = .ok (.aload_n 0, 1) := by decide +kernel
theorem dX8_direction_34 : decode cX8_direction 34 = .ok (.bipush 45, 2) := by decide +kernel
theorem dX8_direction_36 : decode cX8_direction 36 = .ok (.invokevirtual 185, 3) := by decide +kernel
theorem dX8_direction_39 : decode cX8_direction 39 = .ok (.ifCond .eq 7, 3) := by decide +kernel
theorem dX8_direction_42 : decode cX8_direction 42 = .ok (.iconst 1, 1) := by decide +kernel
theorem dX8_direction_43 : decode cX8_direction 43 = .ok (.goto 4, 3) := by decide +kernel
theorem dX8_direction_46 : decode cX8_direction 46 = .ok (.iconst 0, 1) := by decide +kernel
theorem dX8_direction_47 : decode cX8_direction 47 = .ok (.ireturn, 1) := by decide +kernel
theorem dX8_readsOrder_0 : decode cX8_readsOrder 0 = .ok (.aload_n 0, 1) := by decide +kernel
theorem dX8_readsOrder_1 : decode cX8_readsOrder 1 = .ok (.getfield 32, 3) := by decide +kernel
theorem dX8_readsOrder_4 : decode cX8_readsOrder 4 = .ok (.iconst 5, 1) := by decide +kernel
theorem dX8_readsOrder_5 : decode cX8_readsOrder 5 = .ok (.aload_n 0, 1) := by decide +kernel
theorem dX8_readsOrder_6 : decode cX8_readsOrder 6 = .ok (.getfield 178, 3) := by decide +kernel
theorem dX8_readsOrder_9 : decode cX8_readsOrder 9 = .ok (.imul, 1) := by decide +kernel
theorem dX8_readsOrder_10 : decode cX8_readsOrder 10 = .ok (.aload_n 0, 1) := by decide +kernel
theorem dX8_readsOrder_11 : decode cX8_readsOrder 11 = .ok (.getfield 171, 3) := by decide +kernel
theorem dX8_readsOrder_14 : decode cX8_readsOrder 14 = .ok (.aload_n 0, 1) := by decide +kernel
theorem dX8_readsOrder_15 : decode cX8_readsOrder 15 = .ok (.getfield 154, 3) := by decide +kernel
theorem dX8_readsOrder_18 : decode cX8_readsOrder 18 = .ok (.if_icmp .ge 15, 3) := by decide +kernel
theorem dX8_readsOrder_21 : decode cX8_readsOrder 21 = .ok (.aload_n 0, 1) := by decide +kernel
theorem dX8_readsOrder_22 : decode cX8_readsOrder 22 = .ok (.getfield 35, 3) := by decide +kernel
theorem dX8_readsOrder_25 : decode cX8_readsOrder 25 = .ok (.aload_n 0, 1) := by decide +kernel
theorem dX8_readsOrder_26 : decode cX8_readsOrder 26 = .ok (.getfield 171, 3) := by decide +kernel
theorem dX8_readsOrder_29 : decode cX8_readsOrder 29 = .ok (.caload, 1) := by decide +kernel
theorem dX8_readsOrder_30 : decode cX8_readsOrder 30 = .ok (.goto 4, 3) := by decide +kernel
theorem dX8_readsOrder_33 : decode cX8_readsOrder 33 = .ok (.iconst 0, 1) := by decide +kernel
theorem dX8_readsOrder_34 : decode cX8_readsOrder 34 = .ok (.iastore, 1) := by decide +kernel
theorem dX8_readsOrder_35 : decode cX8_readsOrder 35 = .ok (.aload_n 0, 1) := by decide +kernel
theorem dX8_readsOrder_36 : decode cX8_readsOrder 36 = .ok (.bipush 104, 2) := by decide +kernel
theorem dX8_readsOrder_38 : decode cX8_readsOrder 38 = .ok (.invokevirtual 185, 3) := by decide +kernel
theorem dX8_readsOrder_41 : decode cX8_readsOrder 41 = .ok (.ifCond .eq 36, 3) := by decide +kernel
theorem dX8_readsOrder_44 : decode cX8_readsOrder 44 = .ok (.aload_n 0, 1) := by decide +kernel
theorem dX8_readsOrder_45 : decode cX8_readsOrder 45 = .ok (.iconst 1, 1) := by decide +kernel
theorem dX8_readsOrder_46 : decode cX8_readsOrder 46 = .ok (.bipush 48, 2) := by decide +kernel
theorem dX8_readsOrder_48 : decode cX8_readsOrder 48 = .ok (.bipush 57, 2) := by decide +kernel
theorem dX8_readsOrder_50 : decode cX8_readsOrder 50 = .ok (.invokevirtual 181, 3) := by decide +kernel
theorem dX8_readsOrder_53 : decode cX8_readsOrder 53 = .ok (.ifCond .eq 19, 3) := by decide +kernel
theorem dX8_readsOrder_56 : decode cX8_readsOrder 56 = .ok (.aload_n 0, 1) := by decide +kernel
theorem dX8_readsOrder_57 : decode cX8_readsOrder 57 = .ok (.iconst 2, 1) := by decide +kernel
theorem dX8_readsOrder_58 : decode cX8_readsOrder 58 = .ok (.bipush 49, 2) := by decide +kernel
theorem dX8_readsOrder_60 : decode cX8_readsOrder 60 = .ok (.bipush 54, 2) := by decide +kernel
theorem dX8_readsOrder_62 : decode cX8_readsOrder 62 = .ok (.invokevirtual 181, 3) := by decide +kernel
theorem dX8_readsOrder_65 : decode cX8_readsOrder 65 = .ok (.ifCond .eq 7, 3) := by decide +kernel
theorem dX8_readsOrder_68 : decode cX8_readsOrder 68 = .ok (.iconst 1, 1) := by decide +kernel
theorem dX8_readsOrder_69 : decode cX8_readsOrder 69 = .ok (.goto 4, 3) := by decide +kernel
theorem dX8_readsOrder_72 : decode cX8_readsOrder 72 = .ok (.iconst 0, 1) := by decide +kernel
theorem dX8_readsOrder_73 : decode cX8_readsOrder 73 = .ok (.istore_n 1, 1) := by decide +kernel
theorem dX8_readsOrder_74 : decode cX8_readsOrder 74 = .ok (.goto 218, 3) := by decide +kernel
theorem dX8_readsOrder_77 : decode cX8_readsOrder 77 = .ok (.aload_n 0, 1) := by decide +kernel
theorem dX8_readsOrder_78 : decode cX8_readsOrder 78 = .ok (.bipush 112, 2) := by decide +kernel
theorem dX8_readsOrder_80 : decode cX8_readsOrder 80 = .ok (.invokevirtual 185, 3) := by decide +kernel
theorem dX8_readsOrder_83 : decode cX8_readsOrder 83 = .ok (.ifCond .eq 65, 3) := by decide +kernel
theorem dX8_readsOrder_86 : decode cX8_readsOrder 86 = .ok (.aload_n 0, 1) := by decide +kernel
theorem dX8_readsOrder_87 : decode cX8_readsOrder 87 = .ok (.iconst 1, 1) := by decide +kernel
theorem dX8_readsOrder_88 : decode cX8_readsOrder 88 = .ok (.bipush 48, 2) := by decide +kernel
theorem dX8_readsOrder_90 : decode cX8_readsOrder 90 = .ok (.bipush 57, 2) := by decide +kernel
theorem dX8_readsOrder_92 : decode cX8_readsOrder 92 = .ok (.invokevirtual 181, 3) := by decide +kernel
theorem dX8_readsOrder_95 : decode cX8_readsOrder 95 = .ok (.ifCond .eq 48, 3) := by decide +kernel
theorem dX8_readsOrder_98 : decode cX8_readsOrder 98 = .ok (.aload_n 0, 1) := by decide +kernel
theorem dX8_readsOrder_99 : decode cX8_readsOrder 99 = .ok (.iconst 2, 1) := by decide +kernel
theorem dX8_readsOrder_100 : decode cX8_readsOrder 100 = .ok (.bipush 48, 2) := by decide +kernel
theorem dX8_readsOrder_102 : decode cX8_readsOrder 102 = .ok (.bipush 57, 2) := by decide +kernel
theorem dX8_readsOrder_104 : decode cX8_readsOrder 104 = .ok (.invokevirtual 181, 3) := by decide +kernel
theorem dX8_readsOrder_107 : decode cX8_readsOrder 107 = .ok (.ifCond .eq 36, 3) := by decide +kernel
theorem dX8_readsOrder_110 : decode cX8_readsOrder 110 = .ok (.aload_n 0, 1) := by decide +kernel
theorem dX8_readsOrder_111 : decode cX8_readsOrder 111 = .ok (.iconst 3, 1) := by decide +kernel
theorem dX8_readsOrder_112 : decode cX8_readsOrder 112 = .ok (.bipush 48, 2) := by decide +kernel
theorem dX8_readsOrder_114 : decode cX8_readsOrder 114 = .ok (.bipush 57, 2) := by decide +kernel
theorem dX8_readsOrder_116 : decode cX8_readsOrder 116 = .ok (.invokevirtual 181, 3) := by decide +kernel
theorem dX8_readsOrder_119 : decode cX8_readsOrder 119 = .ok (.ifCond .eq 24, 3) := by decide +kernel
theorem dX8_readsOrder_122 : decode cX8_readsOrder 122 = .ok (.aload_n 0, 1) := by decide +kernel
theorem dX8_readsOrder_123 : decode cX8_readsOrder 123 = .ok (.bipush 42, 2) := by decide +kernel
theorem dX8_readsOrder_125 : decode cX8_readsOrder 125 = .ok (.invokevirtual 185, 3) := by decide +kernel
theorem dX8_readsOrder_128 : decode cX8_readsOrder 128 = .ok (.ifCond .eq 15, 3) := by decide +kernel
theorem dX8_readsOrder_131 : decode cX8_readsOrder 131 = .ok (.aload_n 0, 1) := by decide +kernel
theorem dX8_readsOrder_132 : decode cX8_readsOrder 132 = .ok (.iconst 4, 1) := by decide +kernel
theorem dX8_readsOrder_133 : decode cX8_readsOrder 133 = .ok (.invokevirtual 189, 3) := by decide +kernel
theorem dX8_readsOrder_136 : decode cX8_readsOrder 136 = .ok (.ifCond .eq 7, 3) := by decide +kernel
theorem dX8_readsOrder_139 : decode cX8_readsOrder 139 = .ok (.iconst 1, 1) := by decide +kernel
theorem dX8_readsOrder_140 : decode cX8_readsOrder 140 = .ok (.goto 4, 3) := by decide +kernel
theorem dX8_readsOrder_143 : decode cX8_readsOrder 143 = .ok (.iconst 0, 1) := by decide +kernel
theorem dX8_readsOrder_144 : decode cX8_readsOrder 144 = .ok (.istore_n 1, 1) := by decide +kernel
theorem dX8_readsOrder_145 : decode cX8_readsOrder 145 = .ok (.goto 147, 3) := by decide +kernel
theorem dX8_readsOrder_148 : decode cX8_readsOrder 148 = .ok (.aload_n 0, 1) := by decide +kernel
theorem dX8_readsOrder_149 : decode cX8_readsOrder 149 = .ok (.bipush 115, 2) := by decide +kernel
theorem dX8_readsOrder_151 : decode cX8_readsOrder 151 = .ok (.invokevirtual 185, 3) := by decide +kernel
theorem dX8_readsOrder_154 : decode cX8_readsOrder 154 = .ok (.ifCond .eq 48, 3) := by decide +kernel
theorem dX8_readsOrder_157 : decode cX8_readsOrder 157 = .ok (.aload_n 0, 1) := by decide +kernel
theorem dX8_readsOrder_158 : decode cX8_readsOrder 158 = .ok (.iconst 1, 1) := by decide +kernel
theorem dX8_readsOrder_159 : decode cX8_readsOrder 159 = .ok (.bipush 48, 2) := by decide +kernel
theorem dX8_readsOrder_161 : decode cX8_readsOrder 161 = .ok (.bipush 57, 2) := by decide +kernel
theorem dX8_readsOrder_163 : decode cX8_readsOrder 163 = .ok (.invokevirtual 181, 3) := by decide +kernel
theorem dX8_readsOrder_166 : decode cX8_readsOrder 166 = .ok (.ifCond .eq 31, 3) := by decide +kernel
theorem dX8_readsOrder_169 : decode cX8_readsOrder 169 = .ok (.aload_n 0, 1) := by decide +kernel
theorem dX8_readsOrder_170 : decode cX8_readsOrder 170 = .ok (.iconst 2, 1) := by decide +kernel
theorem dX8_readsOrder_171 : decode cX8_readsOrder 171 = .ok (.bipush 48, 2) := by decide +kernel
theorem dX8_readsOrder_173 : decode cX8_readsOrder 173 = .ok (.bipush 57, 2) := by decide +kernel
theorem dX8_readsOrder_175 : decode cX8_readsOrder 175 = .ok (.invokevirtual 181, 3) := by decide +kernel
theorem dX8_readsOrder_178 : decode cX8_readsOrder 178 = .ok (.ifCond .eq 19, 3) := by decide +kernel
theorem dX8_readsOrder_181 : decode cX8_readsOrder 181 = .ok (.aload_n 0, 1) := by decide +kernel
theorem dX8_readsOrder_182 : decode cX8_readsOrder 182 = .ok (.iconst 3, 1) := by decide +kernel
theorem dX8_readsOrder_183 : decode cX8_readsOrder 183 = .ok (.bipush 48, 2) := by decide +kernel
theorem dX8_readsOrder_185 : decode cX8_readsOrder 185 = .ok (.bipush 57, 2) := by decide +kernel
theorem dX8_readsOrder_187 : decode cX8_readsOrder 187 = .ok (.invokevirtual 181, 3) := by decide +kernel
theorem dX8_readsOrder_190 : decode cX8_readsOrder 190 = .ok (.ifCond .eq 7, 3) := by decide +kernel
theorem dX8_readsOrder_193 : decode cX8_readsOrder 193 = .ok (.iconst 1, 1) := by decide +kernel
theorem dX8_readsOrder_194 : decode cX8_readsOrder 194 = .ok (.goto 4, 3) := by decide +kernel
theorem dX8_readsOrder_197 : decode cX8_readsOrder 197 = .ok (.iconst 0, 1) := by decide +kernel
theorem dX8_readsOrder_198 : decode cX8_readsOrder 198 = .ok (.istore_n 1, 1) := by decide +kernel
theorem dX8_readsOrder_199 : decode cX8_readsOrder 199 = .ok (.goto 93, 3) := by decide +kernel
theorem dX8_readsOrder_202 : decode cX8_readsOrder 202 = .ok (.aload_n 0, 1) := by decide +kernel
theorem dX8_readsOrder_203 : decode cX8_readsOrder 203 = .ok (.bipush 116, 2) := by decide +kernel
theorem dX8_readsOrder_205 : decode cX8_readsOrder 205 = .ok (.invokevirtual 185, 3) := by decide +kernel
theorem dX8_readsOrder_208 : decode cX8_readsOrder 208 = .ok (.ifCond .eq 40, 3) := by decide +kernel
theorem dX8_readsOrder_211 : decode cX8_readsOrder 211 = .ok (.aload_n 0, 1) := by decide +kernel
theorem dX8_readsOrder_212 : decode cX8_readsOrder 212 = .ok (.iconst 1, 1) := by decide +kernel
theorem dX8_readsOrder_213 : decode cX8_readsOrder 213 = .ok (.bipush 48, 2) := by decide +kernel
theorem dX8_readsOrder_215 : decode cX8_readsOrder 215 = .ok (.bipush 57, 2) := by decide +kernel
theorem dX8_readsOrder_217 : decode cX8_readsOrder 217 = .ok (.invokevirtual 181, 3) := by decide +kernel
theorem dX8_readsOrder_220 : decode cX8_readsOrder 220 = .ok (.ifCond .eq 23, 3) := by decide +kernel
theorem dX8_readsOrder_223 : decode cX8_readsOrder 223 = .ok (.aload_n 0, 1) := by decide +kernel
theorem dX8_readsOrder_224 : decode cX8_readsOrder 224 = .ok (.bipush 61, 2) := by decide +kernel
theorem dX8_readsOrder_226 : decode cX8_readsOrder 226 = .ok (.invokevirtual 185, 3) := by decide +kernel
theorem dX8_readsOrder_229 : decode cX8_readsOrder 229 = .ok (.ifCond .eq 14, 3) := by decide +kernel
theorem dX8_readsOrder_232 : decode cX8_readsOrder 232 = .ok (.aload_n 0, 1) := by decide +kernel
theorem dX8_readsOrder_233 : decode cX8_readsOrder 233 = .ok (.invokevirtual 192, 3) := by decide +kernel
theorem dX8_readsOrder_236 : decode cX8_readsOrder 236 = .ok (.ifCond .eq 7, 3) := by decide +kernel
theorem dX8_readsOrder_239 : decode cX8_readsOrder 239 = .ok (.iconst 1, 1) := by decide +kernel
theorem dX8_readsOrder_240 : decode cX8_readsOrder 240 = .ok (.goto 4, 3) := by decide +kernel
theorem dX8_readsOrder_243 : decode cX8_readsOrder 243 = .ok (.iconst 0, 1) := by decide +kernel
theorem dX8_readsOrder_244 : decode cX8_readsOrder 244 = .ok (.istore_n 1, 1) := by decide +kernel
theorem dX8_readsOrder_245 : decode cX8_readsOrder 245 = .ok (.goto 47, 3) := by decide +kernel
theorem dX8_readsOrder_248 : decode cX8_readsOrder 248 = .ok (.aload_n 0, 1) := by decide +kernel
theorem dX8_readsOrder_249 : decode cX8_readsOrder 249 = .ok (.bipush 98, 2) := by decide +kernel
theorem dX8_readsOrder_251 : decode cX8_readsOrder 251 = .ok (.invokevirtual 185, 3) := by decide +kernel
theorem dX8_readsOrder_254 : decode cX8_readsOrder 254 = .ok (.ifCond .eq 31, 3) := by decide +kernel
theorem dX8_readsOrder_257 : decode cX8_readsOrder 257 = .ok (.aload_n 0, 1) := by decide +kernel
theorem dX8_readsOrder_258 : decode cX8_readsOrder 258 = .ok (.iconst 1, 1) := by decide +kernel
theorem dX8_readsOrder_259 : decode cX8_readsOrder 259 = .ok (.bipush 48, 2) := by decide +kernel
theorem dX8_readsOrder_261 : decode cX8_readsOrder 261 = .ok (.bipush 57, 2) := by decide +kernel
theorem dX8_readsOrder_263 : decode cX8_readsOrder 263 = .ok (.invokevirtual 181, 3) := by decide +kernel
theorem dX8_readsOrder_266 : decode cX8_readsOrder 266 = .ok (.ifCond .eq 14, 3) := by decide +kernel
theorem dX8_readsOrder_269 : decode cX8_readsOrder 269 = .ok (.aload_n 0, 1) := by decide +kernel
theorem dX8_readsOrder_270 : decode cX8_readsOrder 270 = .ok (.invokevirtual 196, 3) := by decide +kernel
theorem dX8_readsOrder_273 : decode cX8_readsOrder 273 = .ok (.ifCond .eq 7, 3) := by decide +kernel
theorem dX8_readsOrder_276 : decode cX8_readsOrder 276 = .ok (.iconst 1, 1) := by decide +kernel
theorem dX8_readsOrder_277 : decode cX8_readsOrder 277 = .ok (.goto 4, 3) := by decide +kernel
theorem dX8_readsOrder_280 : decode cX8_readsOrder 280 = .ok (.iconst 0, 1) := by decide +kernel
theorem dX8_readsOrder_281 : decode cX8_readsOrder 281 = .ok (.istore_n 1, 1) := by decide +kernel
theorem dX8_readsOrder_282 : decode cX8_readsOrder 282 = .ok (.goto 10, 3) := by decide +kernel
theorem dX8_readsOrder_285 : decode cX8_readsOrder 285 = .ok (.aload_n 0, 1) := by decide +kernel
theorem dX8_readsOrder_286 : decode cX8_readsOrder 286 = .ok (.bipush 99, 2) := by decide +kernel
theorem dX8_readsOrder_288 : decode cX8_readsOrder 288 = .ok (.invokevirtual 185, 3) := by decide +kernel
theorem dX8_readsOrder_291 : decode cX8_readsOrder 291 = .ok (.istore_n 1, 1) := by decide +kernel
theorem dX8_readsOrder_292 : decode cX8_readsOrder 292 = .ok (.aload_n 0, 1) := by decide +kernel
theorem dX8_readsOrder_293 : decode cX8_readsOrder 293 = .ok (.dup, 1) := by decide +kernel
theorem dX8_readsOrder_294 : decode cX8_readsOrder 294 = .ok (.getfield 178, 3) := by decide +kernel
theorem dX8_readsOrder_297 : decode cX8_readsOrder 297 = .ok (.iload_n 1, 1) := by decide +kernel
theorem dX8_readsOrder_298 : decode cX8_readsOrder 298 = .ok (.ifCond .eq 7, 3) := by decide +kernel
theorem dX8_readsOrder_301 : decode cX8_readsOrder 301 = .ok (.iconst 1, 1) := by decide +kernel
theorem dX8_readsOrder_302 : decode cX8_readsOrder 302 = .ok (.goto 4, 3) := by decide +kernel
theorem dX8_readsOrder_305 : decode cX8_readsOrder 305 = .ok (.iconst 0, 1) := by decide +kernel
theorem dX8_readsOrder_306 : decode cX8_readsOrder 306 = .ok (.iadd, 1) := by decide +kernel
theorem dX8_readsOrder_307 : decode cX8_readsOrder 307 = .ok (.putfield 178, 3) := by decide +kernel
theorem dX8_readsOrder_310 : decode cX8_readsOrder 310 = .ok (.iload_n 1, 1) := by decide +kernel
theorem dX8_readsOrder_311 : decode cX8_readsOrder 311 = .ok (.ireturn, 1) := by decide +kernel
theorem dX8_faultOf_0 : decode cX8_faultOf 0 = .ok (.aload_n 0, 1) := by decide +kernel
theorem dX8_faultOf_1 : decode cX8_faultOf 1 = .ok (.iconst 0, 1) := by decide +kernel
theorem dX8_faultOf_2 : decode cX8_faultOf 2 = .ok (.putfield 171, 3) := by decide +kernel
theorem dX8_faultOf_5 : decode cX8_faultOf 5 = .ok (.aload_n 0, 1) := by decide +kernel
theorem dX8_faultOf_6 : decode cX8_faultOf 6 = .ok (.iconst 0, 1) := by decide +kernel
theorem dX8_faultOf_7 : decode cX8_faultOf 7 = .ok (.putfield 178, 3) := by decide +kernel
theorem dX8_faultOf_10 : decode cX8_faultOf 10 = .ok (.aload_n 0, 1) := by decide +kernel
theorem dX8_faultOf_11 : decode cX8_faultOf 11 = .ok (.invokevirtual 199, 3) := by decide +kernel
theorem dX8_faultOf_14 : decode cX8_faultOf 14 = .ok (.istore_n 1, 1) := by decide +kernel
theorem dX8_faultOf_15 : decode cX8_faultOf 15 = .ok (.iload_n 1, 1) := by decide +kernel
theorem dX8_faultOf_16 : decode cX8_faultOf 16 = .ok (.ifCond .eq 39, 3) := by decide +kernel
theorem dX8_faultOf_19 : decode cX8_faultOf 19 = .ok (.aload_n 0, 1) := by decide +kernel
theorem dX8_faultOf_20 : decode cX8_faultOf 20 = .ok (.getfield 171, 3) := by decide +kernel
theorem dX8_faultOf_23 : decode cX8_faultOf 23 = .ok (.aload_n 0, 1) := by decide +kernel
theorem dX8_faultOf_24 : decode cX8_faultOf 24 = .ok (.getfield 154, 3) := by decide +kernel
theorem dX8_faultOf_27 : decode cX8_faultOf 27 = .ok (.if_icmp .ge 28, 3) := by decide +kernel
theorem dX8_faultOf_30 : decode cX8_faultOf 30 = .ok (.aload_n 0, 1) := by decide +kernel
theorem dX8_faultOf_31 : decode cX8_faultOf 31 = .ok (.bipush 59, 2) := by decide +kernel
theorem dX8_faultOf_33 : decode cX8_faultOf 33 = .ok (.invokevirtual 185, 3) := by decide +kernel
theorem dX8_faultOf_36 : decode cX8_faultOf 36 = .ok (.ifCond .eq 14, 3) := by decide +kernel
theorem dX8_faultOf_39 : decode cX8_faultOf 39 = .ok (.aload_n 0, 1) := by decide +kernel
theorem dX8_faultOf_40 : decode cX8_faultOf 40 = .ok (.invokevirtual 199, 3) := by decide +kernel
theorem dX8_faultOf_43 : decode cX8_faultOf 43 = .ok (.ifCond .eq 7, 3) := by decide +kernel
theorem dX8_faultOf_46 : decode cX8_faultOf 46 = .ok (.iconst 1, 1) := by decide +kernel
theorem dX8_faultOf_47 : decode cX8_faultOf 47 = .ok (.goto 4, 3) := by decide +kernel
theorem dX8_faultOf_50 : decode cX8_faultOf 50 = .ok (.iconst 0, 1) := by decide +kernel
theorem dX8_faultOf_51 : decode cX8_faultOf 51 = .ok (.istore_n 1, 1) := by decide +kernel
theorem dX8_faultOf_52 : decode cX8_faultOf 52 = .ok (.goto (-37), 3) := by decide +kernel
theorem dX8_faultOf_55 : decode cX8_faultOf 55 = .ok (.iload_n 1, 1) := by decide +kernel
theorem dX8_faultOf_56 : decode cX8_faultOf 56 = .ok (.ifCond .eq 7, 3) := by decide +kernel
theorem dX8_faultOf_59 : decode cX8_faultOf 59 = .ok (.iconst (-1), 1) := by decide +kernel
theorem dX8_faultOf_60 : decode cX8_faultOf 60 = .ok (.goto 7, 3) := by decide +kernel
theorem dX8_faultOf_63 : decode cX8_faultOf 63 = .ok (.aload_n 0, 1) := by decide +kernel
theorem dX8_faultOf_64 : decode cX8_faultOf 64 = .ok (.getfield 171, 3) := by decide +kernel
theorem dX8_faultOf_67 : decode cX8_faultOf 67 = .ok (.ireturn, 1) := by decide +kernel
theorem dX8_does_0 : decode cX8_does 0 = .ok (.iconst 5, 1) := by decide +kernel
theorem dX8_does_1 : decode cX8_does 1 = .ok (.iload_n 1, 1) := by decide +kernel
theorem dX8_does_2 : decode cX8_does 2 = .ok (.imul, 1) := by decide +kernel
theorem dX8_does_3 : decode cX8_does 3 = .ok (.istore_n 2, 1) := by decide +kernel
theorem dX8_does_4 : decode cX8_does 4 = .ok (.aload_n 0, 1) := by decide +kernel
theorem dX8_does_5 : decode cX8_does 5 = .ok (.getfield 32, 3) := by decide +kernel
theorem dX8_does_8 : decode cX8_does 8 = .ok (.iload_n 2, 1) := by decide +kernel
theorem dX8_does_9 : decode cX8_does 9 = .ok (.iaload, 1) := by decide +kernel
theorem dX8_does_10 : decode cX8_does 10 = .ok (.lookupswitch 179 #[(98, 158), (104, 50), (112, 71), (115, 108), (116, 137)], 50) := by decide +kernel
theorem dX8_does_60 : decode cX8_does 60 = .ok (.aload_n 0, 1) := by decide +kernel
theorem dX8_does_61 : decode cX8_does 61 = .ok (.aload_n 0, 1) := by decide +kernel
theorem dX8_does_62 : decode cX8_does 62 = .ok (.getfield 32, 3) := by decide +kernel
theorem dX8_does_65 : decode cX8_does 65 = .ok (.iload_n 2, 1) := by decide +kernel
theorem dX8_does_66 : decode cX8_does 66 = .ok (.iconst 1, 1) := by decide +kernel
theorem dX8_does_67 : decode cX8_does 67 = .ok (.iadd, 1) := by decide +kernel
theorem dX8_does_68 : decode cX8_does 68 = .ok (.iaload, 1) := by decide +kernel
theorem dX8_does_69 : decode cX8_does 69 = .ok (.aload_n 0, 1) := by decide +kernel
theorem dX8_does_70 : decode cX8_does 70 = .ok (.getfield 32, 3) := by decide +kernel
theorem dX8_does_73 : decode cX8_does 73 = .ok (.iload_n 2, 1) := by decide +kernel
theorem dX8_does_74 : decode cX8_does 74 = .ok (.iconst 2, 1) := by decide +kernel
theorem dX8_does_75 : decode cX8_does 75 = .ok (.iadd, 1) := by decide +kernel
theorem dX8_does_76 : decode cX8_does 76 = .ok (.iaload, 1) := by decide +kernel
theorem dX8_does_77 : decode cX8_does 77 = .ok (.invokevirtual 107, 3) := by decide +kernel
theorem dX8_does_80 : decode cX8_does 80 = .ok (.ireturn, 1) := by decide +kernel
theorem dX8_does_81 : decode cX8_does 81 = .ok (.aload_n 0, 1) := by decide +kernel
theorem dX8_does_82 : decode cX8_does 82 = .ok (.aload_n 0, 1) := by decide +kernel
theorem dX8_does_83 : decode cX8_does 83 = .ok (.getfield 32, 3) := by decide +kernel
theorem dX8_does_86 : decode cX8_does 86 = .ok (.iload_n 2, 1) := by decide +kernel
theorem dX8_does_87 : decode cX8_does 87 = .ok (.iconst 1, 1) := by decide +kernel
theorem dX8_does_88 : decode cX8_does 88 = .ok (.iadd, 1) := by decide +kernel
theorem dX8_does_89 : decode cX8_does 89 = .ok (.iaload, 1) := by decide +kernel
theorem dX8_does_90 : decode cX8_does 90 = .ok (.aload_n 0, 1) := by decide +kernel
theorem dX8_does_91 : decode cX8_does 91 = .ok (.getfield 32, 3) := by decide +kernel
theorem dX8_does_94 : decode cX8_does 94 = .ok (.iload_n 2, 1) := by decide +kernel
theorem dX8_does_95 : decode cX8_does 95 = .ok (.iconst 2, 1) := by decide +kernel
theorem dX8_does_96 : decode cX8_does 96 = .ok (.iadd, 1) := by decide +kernel
theorem dX8_does_97 : decode cX8_does 97 = .ok (.iaload, 1) := by decide +kernel
theorem dX8_does_98 : decode cX8_does 98 = .ok (.aload_n 0, 1) := by decide +kernel
theorem dX8_does_99 : decode cX8_does 99 = .ok (.getfield 32, 3) := by decide +kernel
theorem dX8_does_102 : decode cX8_does 102 = .ok (.iload_n 2, 1) := by decide +kernel
theorem dX8_does_103 : decode cX8_does 103 = .ok (.iconst 3, 1) := by decide +kernel
theorem dX8_does_104 : decode cX8_does 104 = .ok (.iadd, 1) := by decide +kernel
theorem dX8_does_105 : decode cX8_does 105 = .ok (.iaload, 1) := by decide +kernel
theorem dX8_does_106 : decode cX8_does 106 = .ok (.aload_n 0, 1) := by decide +kernel
theorem dX8_does_107 : decode cX8_does 107 = .ok (.getfield 32, 3) := by decide +kernel
theorem dX8_does_110 : decode cX8_does 110 = .ok (.iload_n 2, 1) := by decide +kernel
theorem dX8_does_111 : decode cX8_does 111 = .ok (.iconst 4, 1) := by decide +kernel
theorem dX8_does_112 : decode cX8_does 112 = .ok (.iadd, 1) := by decide +kernel
theorem dX8_does_113 : decode cX8_does 113 = .ok (.iaload, 1) := by decide +kernel
theorem dX8_does_114 : decode cX8_does 114 = .ok (.invokevirtual 113, 3) := by decide +kernel
theorem dX8_does_117 : decode cX8_does 117 = .ok (.ireturn, 1) := by decide +kernel
theorem dX8_does_118 : decode cX8_does 118 = .ok (.aload_n 0, 1) := by decide +kernel
theorem dX8_does_119 : decode cX8_does 119 = .ok (.aload_n 0, 1) := by decide +kernel
theorem dX8_does_120 : decode cX8_does 120 = .ok (.getfield 32, 3) := by decide +kernel
theorem dX8_does_123 : decode cX8_does 123 = .ok (.iload_n 2, 1) := by decide +kernel
theorem dX8_does_124 : decode cX8_does 124 = .ok (.iconst 1, 1) := by decide +kernel
theorem dX8_does_125 : decode cX8_does 125 = .ok (.iadd, 1) := by decide +kernel
theorem dX8_does_126 : decode cX8_does 126 = .ok (.iaload, 1) := by decide +kernel
theorem dX8_does_127 : decode cX8_does 127 = .ok (.aload_n 0, 1) := by decide +kernel
theorem dX8_does_128 : decode cX8_does 128 = .ok (.getfield 32, 3) := by decide +kernel
theorem dX8_does_131 : decode cX8_does 131 = .ok (.iload_n 2, 1) := by decide +kernel
theorem dX8_does_132 : decode cX8_does 132 = .ok (.iconst 2, 1) := by decide +kernel
theorem dX8_does_133 : decode cX8_does 133 = .ok (.iadd, 1) := by decide +kernel
theorem dX8_does_134 : decode cX8_does 134 = .ok (.iaload, 1) := by decide +kernel
theorem dX8_does_135 : decode cX8_does 135 = .ok (.aload_n 0, 1) := by decide +kernel
theorem dX8_does_136 : decode cX8_does 136 = .ok (.getfield 32, 3) := by decide +kernel
theorem dX8_does_139 : decode cX8_does 139 = .ok (.iload_n 2, 1) := by decide +kernel
theorem dX8_does_140 : decode cX8_does 140 = .ok (.iconst 3, 1) := by decide +kernel
theorem dX8_does_141 : decode cX8_does 141 = .ok (.iadd, 1) := by decide +kernel
theorem dX8_does_142 : decode cX8_does 142 = .ok (.iaload, 1) := by decide +kernel
theorem dX8_does_143 : decode cX8_does 143 = .ok (.invokevirtual 117, 3) := by decide +kernel
theorem dX8_does_146 : decode cX8_does 146 = .ok (.ireturn, 1) := by decide +kernel
theorem dX8_does_147 : decode cX8_does 147 = .ok (.aload_n 0, 1) := by decide +kernel
theorem dX8_does_148 : decode cX8_does 148 = .ok (.aload_n 0, 1) := by decide +kernel
theorem dX8_does_149 : decode cX8_does 149 = .ok (.getfield 32, 3) := by decide +kernel
theorem dX8_does_152 : decode cX8_does 152 = .ok (.iload_n 2, 1) := by decide +kernel
theorem dX8_does_153 : decode cX8_does 153 = .ok (.iconst 1, 1) := by decide +kernel
theorem dX8_does_154 : decode cX8_does 154 = .ok (.iadd, 1) := by decide +kernel
theorem dX8_does_155 : decode cX8_does 155 = .ok (.iaload, 1) := by decide +kernel
theorem dX8_does_156 : decode cX8_does 156 = .ok (.aload_n 0, 1) := by decide +kernel
theorem dX8_does_157 : decode cX8_does 157 = .ok (.getfield 32, 3) := by decide +kernel
theorem dX8_does_160 : decode cX8_does 160 = .ok (.iload_n 2, 1) := by decide +kernel
theorem dX8_does_161 : decode cX8_does 161 = .ok (.iconst 2, 1) := by decide +kernel
theorem dX8_does_162 : decode cX8_does 162 = .ok (.iadd, 1) := by decide +kernel
theorem dX8_does_163 : decode cX8_does 163 = .ok (.iaload, 1) := by decide +kernel
theorem dX8_does_164 : decode cX8_does 164 = .ok (.invokevirtual 104, 3) := by decide +kernel
theorem dX8_does_167 : decode cX8_does 167 = .ok (.ireturn, 1) := by decide +kernel
theorem dX8_does_168 : decode cX8_does 168 = .ok (.aload_n 0, 1) := by decide +kernel
theorem dX8_does_169 : decode cX8_does 169 = .ok (.aload_n 0, 1) := by decide +kernel
theorem dX8_does_170 : decode cX8_does 170 = .ok (.getfield 32, 3) := by decide +kernel
theorem dX8_does_173 : decode cX8_does 173 = .ok (.iload_n 2, 1) := by decide +kernel
theorem dX8_does_174 : decode cX8_does 174 = .ok (.iconst 1, 1) := by decide +kernel
theorem dX8_does_175 : decode cX8_does 175 = .ok (.iadd, 1) := by decide +kernel
theorem dX8_does_176 : decode cX8_does 176 = .ok (.iaload, 1) := by decide +kernel
theorem dX8_does_177 : decode cX8_does 177 = .ok (.aload_n 0, 1) := by decide +kernel
theorem dX8_does_178 : decode cX8_does 178 = .ok (.getfield 32, 3) := by decide +kernel
theorem dX8_does_181 : decode cX8_does 181 = .ok (.iload_n 2, 1) := by decide +kernel
theorem dX8_does_182 : decode cX8_does 182 = .ok (.iconst 2, 1) := by decide +kernel
theorem dX8_does_183 : decode cX8_does 183 = .ok (.iadd, 1) := by decide +kernel
theorem dX8_does_184 : decode cX8_does 184 = .ok (.iaload, 1) := by decide +kernel
theorem dX8_does_185 : decode cX8_does 185 = .ok (.invokevirtual 120, 3) := by decide +kernel
theorem dX8_does_188 : decode cX8_does 188 = .ok (.ireturn, 1) := by decide +kernel
theorem dX8_does_189 : decode cX8_does 189 = .ok (.aload_n 0, 1) := by decide +kernel
theorem dX8_does_190 : decode cX8_does 190 = .ok (.invokevirtual 123, 3) := by decide +kernel
theorem dX8_does_193 : decode cX8_does 193 = .ok (.ireturn, 1) := by decide +kernel
theorem dX8_put_0 : decode cX8_put 0 = .ok (.iconst 0, 1) := by decide +kernel
theorem dX8_put_1 : decode cX8_put 1 = .ok (.istore_n 3, 1) := by decide +kernel
theorem dX8_put_2 : decode cX8_put 2 = .ok (.lload_n 1, 1) := by decide +kernel
theorem dX8_put_3 : decode cX8_put 3 = .ok (.lstore 4, 2) := by decide +kernel
theorem dX8_put_5 : decode cX8_put 5 = .ok (.iload_n 3, 1) := by decide +kernel
theorem dX8_put_6 : decode cX8_put 6 = .ok (.bipush 8, 2) := by decide +kernel
theorem dX8_put_8 : decode cX8_put 8 = .ok (.if_icmp .ge 52, 3) := by decide +kernel
theorem dX8_put_11 : decode cX8_put 11 = .ok (.lload 4, 2) := by decide +kernel
theorem dX8_put_13 : decode cX8_put 13 = .ok (.lconst 0, 1) := by decide +kernel
theorem dX8_put_14 : decode cX8_put 14 = .ok (.lcmp, 1) := by decide +kernel
theorem dX8_put_15 : decode cX8_put 15 = .ok (.ifCond .eq 45, 3) := by decide +kernel
theorem dX8_put_18 : decode cX8_put 18 = .ok (.lload 4, 2) := by decide +kernel
theorem dX8_put_20 : decode cX8_put 20 = .ok (.ldc2_w 202, 3) := by decide +kernel
theorem dX8_put_23 : decode cX8_put 23 = .ok (.land, 1) := by decide +kernel
theorem dX8_put_24 : decode cX8_put 24 = .ok (.lstore 6, 2) := by decide +kernel
theorem dX8_put_26 : decode cX8_put 26 = .ok (.lload 6, 2) := by decide +kernel
theorem dX8_put_28 : decode cX8_put 28 = .ok (.ldc2_w 204, 3) := by decide +kernel
theorem dX8_put_31 : decode cX8_put 31 = .ok (.lcmp, 1) := by decide +kernel
theorem dX8_put_32 : decode cX8_put 32 = .ok (.ifCond .lt 12, 3) := by decide +kernel
theorem dX8_put_35 : decode cX8_put 35 = .ok (.lload 6, 2) := by decide +kernel
theorem dX8_put_37 : decode cX8_put 37 = .ok (.ldc2_w 206, 3) := by decide +kernel
theorem dX8_put_40 : decode cX8_put 40 = .ok (.lcmp, 1) := by decide +kernel
theorem dX8_put_41 : decode cX8_put 41 = .ok (.ifCond .le 6, 3) := by decide +kernel
theorem dX8_put_44 : decode cX8_put 44 = .ok (.bipush (-2), 2) := by decide +kernel
theorem dX8_put_46 : decode cX8_put 46 = .ok (.ireturn, 1) := by decide +kernel
theorem dX8_put_47 : decode cX8_put 47 = .ok (.lload 4, 2) := by decide +kernel
theorem dX8_put_49 : decode cX8_put 49 = .ok (.bipush 8, 2) := by decide +kernel
theorem dX8_put_51 : decode cX8_put 51 = .ok (.lushr, 1) := by decide +kernel
theorem dX8_put_52 : decode cX8_put 52 = .ok (.lstore 4, 2) := by decide +kernel
theorem dX8_put_54 : decode cX8_put 54 = .ok (.iinc 3 1, 3) := by decide +kernel
theorem dX8_put_57 : decode cX8_put 57 = .ok (.goto (-52), 3) := by decide +kernel
theorem dX8_put_60 : decode cX8_put 60 = .ok (.iload_n 3, 1) := by decide +kernel
theorem dX8_put_61 : decode cX8_put 61 = .ok (.ifCond .ne 6, 3) := by decide +kernel
theorem dX8_put_64 : decode cX8_put 64 = .ok (.bipush (-2), 2) := by decide +kernel
theorem dX8_put_66 : decode cX8_put 66 = .ok (.ireturn, 1) := by decide +kernel
theorem dX8_put_67 : decode cX8_put 67 = .ok (.aload_n 0, 1) := by decide +kernel
theorem dX8_put_68 : decode cX8_put 68 = .ok (.getfield 154, 3) := by decide +kernel
theorem dX8_put_71 : decode cX8_put 71 = .ok (.iload_n 3, 1) := by decide +kernel
theorem dX8_put_72 : decode cX8_put 72 = .ok (.iadd, 1) := by decide +kernel
theorem dX8_put_73 : decode cX8_put 73 = .ok (.bipush 80, 2) := by decide +kernel
theorem dX8_put_75 : decode cX8_put 75 = .ok (.if_icmp .le 6, 3) := by decide +kernel
theorem dX8_put_78 : decode cX8_put 78 = .ok (.bipush (-4), 2) := by decide +kernel
theorem dX8_put_80 : decode cX8_put 80 = .ok (.ireturn, 1) := by decide +kernel
theorem dX8_put_81 : decode cX8_put 81 = .ok (.iload_n 3, 1) := by decide +kernel
theorem dX8_put_82 : decode cX8_put 82 = .ok (.iconst 1, 1) := by decide +kernel
theorem dX8_put_83 : decode cX8_put 83 = .ok (.isub, 1) := by decide +kernel
theorem dX8_put_84 : decode cX8_put 84 = .ok (.istore 6, 2) := by decide +kernel
theorem dX8_put_86 : decode cX8_put 86 = .ok (.iload 6, 2) := by decide +kernel
theorem dX8_put_88 : decode cX8_put 88 = .ok (.ifCond .lt 41, 3) := by decide +kernel
theorem dX8_put_91 : decode cX8_put 91 = .ok (.aload_n 0, 1) := by decide +kernel
theorem dX8_put_92 : decode cX8_put 92 = .ok (.getfield 35, 3) := by decide +kernel
theorem dX8_put_95 : decode cX8_put 95 = .ok (.aload_n 0, 1) := by decide +kernel
theorem dX8_put_96 : decode cX8_put 96 = .ok (.getfield 154, 3) := by decide +kernel
theorem dX8_put_99 : decode cX8_put 99 = .ok (.lload_n 1, 1) := by decide +kernel
theorem dX8_put_100 : decode cX8_put 100 = .ok (.bipush 8, 2) := by decide +kernel
theorem dX8_put_102 : decode cX8_put 102 = .ok (.iload 6, 2) := by decide +kernel
theorem dX8_put_104 : decode cX8_put 104 = .ok (.imul, 1) := by decide +kernel
theorem dX8_put_105 : decode cX8_put 105 = .ok (.lushr, 1) := by decide +kernel
theorem dX8_put_106 : decode cX8_put 106 = .ok (.ldc2_w 202, 3) := by decide +kernel
theorem dX8_put_109 : decode cX8_put 109 = .ok (.land, 1) := by decide +kernel
theorem dX8_put_110 : decode cX8_put 110 = .ok (.l2i, 1) := by decide +kernel
theorem dX8_put_111 : decode cX8_put 111 = .ok (.i2c, 1) := by decide +kernel
theorem dX8_put_112 : decode cX8_put 112 = .ok (.castore, 1) := by decide +kernel
theorem dX8_put_113 : decode cX8_put 113 = .ok (.aload_n 0, 1) := by decide +kernel
theorem dX8_put_114 : decode cX8_put 114 = .ok (.dup, 1) := by decide +kernel
theorem dX8_put_115 : decode cX8_put 115 = .ok (.getfield 154, 3) := by decide +kernel
theorem dX8_put_118 : decode cX8_put 118 = .ok (.iconst 1, 1) := by decide +kernel
theorem dX8_put_119 : decode cX8_put 119 = .ok (.iadd, 1) := by decide +kernel
theorem dX8_put_120 : decode cX8_put 120 = .ok (.putfield 154, 3) := by decide +kernel
theorem dX8_put_123 : decode cX8_put 123 = .ok (.iinc 6 (-1), 3) := by decide +kernel
theorem dX8_put_126 : decode cX8_put 126 = .ok (.goto (-40), 3) := by decide +kernel
theorem dX8_put_129 : decode cX8_put 129 = .ok (.aload_n 0, 1) := by decide +kernel
theorem dX8_put_130 : decode cX8_put 130 = .ok (.getfield 154, 3) := by decide +kernel
theorem dX8_put_133 : decode cX8_put 133 = .ok (.ireturn, 1) := by decide +kernel
theorem dX8_wipe_0 : decode cX8_wipe 0 = .ok (.aload_n 0, 1) := by decide +kernel
theorem dX8_wipe_1 : decode cX8_wipe 1 = .ok (.getfield 154, 3) := by decide +kernel
theorem dX8_wipe_4 : decode cX8_wipe 4 = .ok (.istore_n 1, 1) := by decide +kernel
theorem dX8_wipe_5 : decode cX8_wipe 5 = .ok (.aload_n 0, 1) := by decide +kernel
theorem dX8_wipe_6 : decode cX8_wipe 6 = .ok (.iconst 0, 1) := by decide +kernel
theorem dX8_wipe_7 : decode cX8_wipe 7 = .ok (.putfield 154, 3) := by decide +kernel
theorem dX8_wipe_10 : decode cX8_wipe 10 = .ok (.iload_n 1, 1) := by decide +kernel
theorem dX8_wipe_11 : decode cX8_wipe 11 = .ok (.ireturn, 1) := by decide +kernel
theorem dX8_fault_0 : decode cX8_fault 0 = .ok (.aload_n 0, 1) := by decide +kernel
theorem dX8_fault_1 : decode cX8_fault 1 = .ok (.invokevirtual 208, 3) := by decide +kernel
theorem dX8_fault_4 : decode cX8_fault 4 = .ok (.istore_n 1, 1) := by decide +kernel
theorem dX8_fault_5 : decode cX8_fault 5 = .ok (.iload_n 1, 1) := by decide +kernel
theorem dX8_fault_6 : decode cX8_fault 6 = .ok (.ifCond .ge 8, 3) := by decide +kernel
theorem dX8_fault_9 : decode cX8_fault 9 = .ok (.bipush (-6), 2) := by decide +kernel
theorem dX8_fault_11 : decode cX8_fault 11 = .ok (.goto 4, 3) := by decide +kernel
theorem dX8_fault_14 : decode cX8_fault 14 = .ok (.iload_n 1, 1) := by decide +kernel
theorem dX8_fault_15 : decode cX8_fault 15 = .ok (.ireturn, 1) := by decide +kernel
theorem dX8_carryOut_0 : decode cX8_carryOut 0 = .ok (.aload_n 0, 1) := by decide +kernel
theorem dX8_carryOut_1 : decode cX8_carryOut 1 = .ok (.invokevirtual 208, 3) := by decide +kernel
theorem dX8_carryOut_4 : decode cX8_carryOut 4 = .ok (.ifCond .lt 6, 3) := by decide +kernel
theorem dX8_carryOut_7 : decode cX8_carryOut 7 = .ok (.bipush (-3), 2) := by decide +kernel
theorem dX8_carryOut_9 : decode cX8_carryOut 9 = .ok (.ireturn, 1) := by decide +kernel
theorem dX8_carryOut_10 : decode cX8_carryOut 10 = .ok (.aload_n 0, 1) := by decide +kernel
theorem dX8_carryOut_11 : decode cX8_carryOut 11 = .ok (.invokevirtual 98, 3) := by decide +kernel
theorem dX8_carryOut_14 : decode cX8_carryOut 14 = .ok (.iconst 0, 1) := by decide +kernel
theorem dX8_carryOut_15 : decode cX8_carryOut 15 = .ok (.istore_n 1, 1) := by decide +kernel
theorem dX8_carryOut_16 : decode cX8_carryOut 16 = .ok (.iconst 1, 1) := by decide +kernel
theorem dX8_carryOut_17 : decode cX8_carryOut 17 = .ok (.istore_n 2, 1) := by decide +kernel
theorem dX8_carryOut_18 : decode cX8_carryOut 18 = .ok (.iload_n 2, 1) := by decide +kernel
theorem dX8_carryOut_19 : decode cX8_carryOut 19 = .ok (.ifCond .eq 40, 3) := by decide +kernel
theorem dX8_carryOut_22 : decode cX8_carryOut 22 = .ok (.iload_n 1, 1) := by decide +kernel
theorem dX8_carryOut_23 : decode cX8_carryOut 23 = .ok (.aload_n 0, 1) := by decide +kernel
theorem dX8_carryOut_24 : decode cX8_carryOut 24 = .ok (.getfield 178, 3) := by decide +kernel
theorem dX8_carryOut_27 : decode cX8_carryOut 27 = .ok (.if_icmp .ge 32, 3) := by decide +kernel
theorem dX8_carryOut_30 : decode cX8_carryOut 30 = .ok (.aload_n 0, 1) := by decide +kernel
theorem dX8_carryOut_31 : decode cX8_carryOut 31 = .ok (.iload_n 1, 1) := by decide +kernel
theorem dX8_carryOut_32 : decode cX8_carryOut 32 = .ok (.invokevirtual 211, 3) := by decide +kernel
theorem dX8_carryOut_35 : decode cX8_carryOut 35 = .ok (.ifCond .lt 7, 3) := by decide +kernel
theorem dX8_carryOut_38 : decode cX8_carryOut 38 = .ok (.iconst 1, 1) := by decide +kernel
theorem dX8_carryOut_39 : decode cX8_carryOut 39 = .ok (.goto 4, 3) := by decide +kernel
theorem dX8_carryOut_42 : decode cX8_carryOut 42 = .ok (.iconst 0, 1) := by decide +kernel
theorem dX8_carryOut_43 : decode cX8_carryOut 43 = .ok (.istore_n 2, 1) := by decide +kernel
theorem dX8_carryOut_44 : decode cX8_carryOut 44 = .ok (.iload_n 1, 1) := by decide +kernel
theorem dX8_carryOut_45 : decode cX8_carryOut 45 = .ok (.iload_n 2, 1) := by decide +kernel
theorem dX8_carryOut_46 : decode cX8_carryOut 46 = .ok (.ifCond .eq 7, 3) := by decide +kernel
theorem dX8_carryOut_49 : decode cX8_carryOut 49 = .ok (.iconst 1, 1) := by decide +kernel
theorem dX8_carryOut_50 : decode cX8_carryOut 50 = .ok (.goto 4, 3) := by decide +kernel
theorem dX8_carryOut_53 : decode cX8_carryOut 53 = .ok (.iconst 0, 1) := by decide +kernel
theorem dX8_carryOut_54 : decode cX8_carryOut 54 = .ok (.iadd, 1) := by decide +kernel
theorem dX8_carryOut_55 : decode cX8_carryOut 55 = .ok (.istore_n 1, 1) := by decide +kernel
theorem dX8_carryOut_56 : decode cX8_carryOut 56 = .ok (.goto (-38), 3) := by decide +kernel
theorem dX8_carryOut_59 : decode cX8_carryOut 59 = .ok (.aload_n 0, 1) := by decide +kernel
theorem dX8_carryOut_60 : decode cX8_carryOut 60 = .ok (.iconst 0, 1) := by decide +kernel
theorem dX8_carryOut_61 : decode cX8_carryOut 61 = .ok (.putfield 154, 3) := by decide +kernel
theorem dX8_carryOut_64 : decode cX8_carryOut 64 = .ok (.aload_n 0, 1) := by decide +kernel
theorem dX8_carryOut_65 : decode cX8_carryOut 65 = .ok (.iload_n 1, 1) := by decide +kernel
theorem dX8_carryOut_66 : decode cX8_carryOut 66 = .ok (.invokevirtual 101, 3) := by decide +kernel
theorem dX8_carryOut_69 : decode cX8_carryOut 69 = .ok (.ireturn, 1) := by decide +kernel
theorem dX8_undo_0 : decode cX8_undo 0 = .ok (.aload_n 0, 1) := by decide +kernel
theorem dX8_undo_1 : decode cX8_undo 1 = .ok (.getfield 50, 3) := by decide +kernel
theorem dX8_undo_4 : decode cX8_undo 4 = .ok (.ifCond .ne 6, 3) := by decide +kernel
theorem dX8_undo_7 : decode cX8_undo 7 = .ok (.bipush (-5), 2) := by decide +kernel
theorem dX8_undo_9 : decode cX8_undo 9 = .ok (.ireturn, 1) := by decide +kernel
theorem dX8_undo_10 : decode cX8_undo 10 = .ok (.aload_n 0, 1) := by decide +kernel
theorem dX8_undo_11 : decode cX8_undo 11 = .ok (.dup, 1) := by decide +kernel
theorem dX8_undo_12 : decode cX8_undo 12 = .ok (.getfield 50, 3) := by decide +kernel
theorem dX8_undo_15 : decode cX8_undo 15 = .ok (.iconst 1, 1) := by decide +kernel
theorem dX8_undo_16 : decode cX8_undo 16 = .ok (.isub, 1) := by decide +kernel
theorem dX8_undo_17 : decode cX8_undo 17 = .ok (.putfield 50, 3) := by decide +kernel
theorem dX8_undo_20 : decode cX8_undo 20 = .ok (.iconst 0, 1) := by decide +kernel
theorem dX8_undo_21 : decode cX8_undo 21 = .ok (.istore_n 1, 1) := by decide +kernel
theorem dX8_undo_22 : decode cX8_undo 22 = .ok (.iload_n 1, 1) := by decide +kernel
theorem dX8_undo_23 : decode cX8_undo 23 = .ok (.sipush 383, 3) := by decide +kernel
theorem dX8_undo_26 : decode cX8_undo 26 = .ok (.if_icmp .ge 30, 3) := by decide +kernel
theorem dX8_undo_29 : decode cX8_undo 29 = .ok (.aload_n 0, 1) := by decide +kernel
theorem dX8_undo_30 : decode cX8_undo 30 = .ok (.getfield 7, 3) := by decide +kernel
theorem dX8_undo_33 : decode cX8_undo 33 = .ok (.iload_n 1, 1) := by decide +kernel
theorem dX8_undo_34 : decode cX8_undo 34 = .ok (.aload_n 0, 1) := by decide +kernel
theorem dX8_undo_35 : decode cX8_undo 35 = .ok (.getfield 19, 3) := by decide +kernel
theorem dX8_undo_38 : decode cX8_undo 38 = .ok (.sipush 383, 3) := by decide +kernel
theorem dX8_undo_41 : decode cX8_undo 41 = .ok (.aload_n 0, 1) := by decide +kernel
theorem dX8_undo_42 : decode cX8_undo 42 = .ok (.getfield 50, 3) := by decide +kernel
theorem dX8_undo_45 : decode cX8_undo 45 = .ok (.imul, 1) := by decide +kernel
theorem dX8_undo_46 : decode cX8_undo 46 = .ok (.iload_n 1, 1) := by decide +kernel
theorem dX8_undo_47 : decode cX8_undo 47 = .ok (.iadd, 1) := by decide +kernel
theorem dX8_undo_48 : decode cX8_undo 48 = .ok (.iaload, 1) := by decide +kernel
theorem dX8_undo_49 : decode cX8_undo 49 = .ok (.iastore, 1) := by decide +kernel
theorem dX8_undo_50 : decode cX8_undo 50 = .ok (.iinc 1 1, 3) := by decide +kernel
theorem dX8_undo_53 : decode cX8_undo 53 = .ok (.goto (-31), 3) := by decide +kernel
theorem dX8_undo_56 : decode cX8_undo 56 = .ok (.aload_n 0, 1) := by decide +kernel
theorem dX8_undo_57 : decode cX8_undo 57 = .ok (.getfield 50, 3) := by decide +kernel
theorem dX8_undo_60 : decode cX8_undo 60 = .ok (.ireturn, 1) := by decide +kernel
theorem dX8_save_0 : decode cX8_save 0 = .ok (.iload_n 1, 1) := by decide +kernel
theorem dX8_save_1 : decode cX8_save 1 = .ok (.iconst 0, 1) := by decide +kernel
theorem dX8_save_2 : decode cX8_save 2 = .ok (.iconst 1, 1) := by decide +kernel
theorem dX8_save_3 : decode cX8_save 3 = .ok (.invokestatic 39, 3) := by decide +kernel
theorem dX8_save_6 : decode cX8_save 6 = .ok (.ifCond .ne 6, 3) := by decide +kernel
theorem dX8_save_9 : decode cX8_save 9 = .ok (.bipush (-2), 2) := by decide +kernel
theorem dX8_save_11 : decode cX8_save 11 = .ok (.ireturn, 1) := by decide +kernel
theorem dX8_save_12 : decode cX8_save 12 = .ok (.iconst 0, 1) := by decide +kernel
theorem dX8_save_13 : decode cX8_save 13 = .ok (.istore_n 2, 1) := by decide +kernel
theorem dX8_save_14 : decode cX8_save 14 = .ok (.iload_n 2, 1) := by decide +kernel
theorem dX8_save_15 : decode cX8_save 15 = .ok (.sipush 383, 3) := by decide +kernel
theorem dX8_save_18 : decode cX8_save 18 = .ok (.if_icmp .ge 27, 3) := by decide +kernel
theorem dX8_save_21 : decode cX8_save 21 = .ok (.aload_n 0, 1) := by decide +kernel
theorem dX8_save_22 : decode cX8_save 22 = .ok (.getfield 22, 3) := by decide +kernel
theorem dX8_save_25 : decode cX8_save 25 = .ok (.sipush 383, 3) := by decide +kernel
theorem dX8_save_28 : decode cX8_save 28 = .ok (.iload_n 1, 1) := by decide +kernel
theorem dX8_save_29 : decode cX8_save 29 = .ok (.imul, 1) := by decide +kernel
theorem dX8_save_30 : decode cX8_save 30 = .ok (.iload_n 2, 1) := by decide +kernel
theorem dX8_save_31 : decode cX8_save 31 = .ok (.iadd, 1) := by decide +kernel
theorem dX8_save_32 : decode cX8_save 32 = .ok (.aload_n 0, 1) := by decide +kernel
theorem dX8_save_33 : decode cX8_save 33 = .ok (.getfield 7, 3) := by decide +kernel
theorem dX8_save_36 : decode cX8_save 36 = .ok (.iload_n 2, 1) := by decide +kernel
theorem dX8_save_37 : decode cX8_save 37 = .ok (.iaload, 1) := by decide +kernel
theorem dX8_save_38 : decode cX8_save 38 = .ok (.iastore, 1) := by decide +kernel
theorem dX8_save_39 : decode cX8_save 39 = .ok (.iinc 2 1, 3) := by decide +kernel
theorem dX8_save_42 : decode cX8_save 42 = .ok (.goto (-28), 3) := by decide +kernel
theorem dX8_save_45 : decode cX8_save 45 = .ok (.aload_n 0, 1) := by decide +kernel
theorem dX8_save_46 : decode cX8_save 46 = .ok (.getfield 25, 3) := by decide +kernel
theorem dX8_save_49 : decode cX8_save 49 = .ok (.iload_n 1, 1) := by decide +kernel
theorem dX8_save_50 : decode cX8_save 50 = .ok (.iconst 1, 1) := by decide +kernel
theorem dX8_save_51 : decode cX8_save 51 = .ok (.bastore, 1) := by decide +kernel
theorem dX8_save_52 : decode cX8_save 52 = .ok (.aload_n 0, 1) := by decide +kernel
theorem dX8_save_53 : decode cX8_save 53 = .ok (.getfield 7, 3) := by decide +kernel
theorem dX8_save_56 : decode cX8_save 56 = .ok (.iconst 3, 1) := by decide +kernel
theorem dX8_save_57 : decode cX8_save 57 = .ok (.iaload, 1) := by decide +kernel
theorem dX8_save_58 : decode cX8_save 58 = .ok (.ireturn, 1) := by decide +kernel
theorem dX8_restore_0 : decode cX8_restore 0 = .ok (.iload_n 1, 1) := by decide +kernel
theorem dX8_restore_1 : decode cX8_restore 1 = .ok (.iconst 0, 1) := by decide +kernel
theorem dX8_restore_2 : decode cX8_restore 2 = .ok (.iconst 1, 1) := by decide +kernel
theorem dX8_restore_3 : decode cX8_restore 3 = .ok (.invokestatic 39, 3) := by decide +kernel
theorem dX8_restore_6 : decode cX8_restore 6 = .ok (.ifCond .ne 6, 3) := by decide +kernel
theorem dX8_restore_9 : decode cX8_restore 9 = .ok (.bipush (-2), 2) := by decide +kernel
theorem dX8_restore_11 : decode cX8_restore 11 = .ok (.ireturn, 1) := by decide +kernel
theorem dX8_restore_12 : decode cX8_restore 12 = .ok (.aload_n 0, 1) := by decide +kernel
theorem dX8_restore_13 : decode cX8_restore 13 = .ok (.getfield 25, 3) := by decide +kernel
theorem dX8_restore_16 : decode cX8_restore 16 = .ok (.iload_n 1, 1) := by decide +kernel
theorem dX8_restore_17 : decode cX8_restore 17 = .ok (.baload, 1) := by decide +kernel
theorem dX8_restore_18 : decode cX8_restore 18 = .ok (.ifCond .ne 6, 3) := by decide +kernel
theorem dX8_restore_21 : decode cX8_restore 21 = .ok (.bipush (-5), 2) := by decide +kernel
theorem dX8_restore_23 : decode cX8_restore 23 = .ok (.ireturn, 1) := by decide +kernel
theorem dX8_restore_24 : decode cX8_restore 24 = .ok (.aload_n 0, 1) := by decide +kernel
theorem dX8_restore_25 : decode cX8_restore 25 = .ok (.invokevirtual 98, 3) := by decide +kernel
theorem dX8_restore_28 : decode cX8_restore 28 = .ok (.iconst 0, 1) := by decide +kernel
theorem dX8_restore_29 : decode cX8_restore 29 = .ok (.istore_n 2, 1) := by decide +kernel
theorem dX8_restore_30 : decode cX8_restore 30 = .ok (.iload_n 2, 1) := by decide +kernel
theorem dX8_restore_31 : decode cX8_restore 31 = .ok (.sipush 383, 3) := by decide +kernel
theorem dX8_restore_34 : decode cX8_restore 34 = .ok (.if_icmp .ge 27, 3) := by decide +kernel
theorem dX8_restore_37 : decode cX8_restore 37 = .ok (.aload_n 0, 1) := by decide +kernel
theorem dX8_restore_38 : decode cX8_restore 38 = .ok (.getfield 7, 3) := by decide +kernel
theorem dX8_restore_41 : decode cX8_restore 41 = .ok (.iload_n 2, 1) := by decide +kernel
theorem dX8_restore_42 : decode cX8_restore 42 = .ok (.aload_n 0, 1) := by decide +kernel
theorem dX8_restore_43 : decode cX8_restore 43 = .ok (.getfield 22, 3) := by decide +kernel
theorem dX8_restore_46 : decode cX8_restore 46 = .ok (.sipush 383, 3) := by decide +kernel
theorem dX8_restore_49 : decode cX8_restore 49 = .ok (.iload_n 1, 1) := by decide +kernel
theorem dX8_restore_50 : decode cX8_restore 50 = .ok (.imul, 1) := by decide +kernel
theorem dX8_restore_51 : decode cX8_restore 51 = .ok (.iload_n 2, 1) := by decide +kernel
theorem dX8_restore_52 : decode cX8_restore 52 = .ok (.iadd, 1) := by decide +kernel
theorem dX8_restore_53 : decode cX8_restore 53 = .ok (.iaload, 1) := by decide +kernel
theorem dX8_restore_54 : decode cX8_restore 54 = .ok (.iastore, 1) := by decide +kernel
theorem dX8_restore_55 : decode cX8_restore 55 = .ok (.iinc 2 1, 3) := by decide +kernel
theorem dX8_restore_58 : decode cX8_restore 58 = .ok (.goto (-28), 3) := by decide +kernel
theorem dX8_restore_61 : decode cX8_restore 61 = .ok (.aload_n 0, 1) := by decide +kernel
theorem dX8_restore_62 : decode cX8_restore 62 = .ok (.aload_n 0, 1) := by decide +kernel
theorem dX8_restore_63 : decode cX8_restore 63 = .ok (.getfield 7, 3) := by decide +kernel
theorem dX8_restore_66 : decode cX8_restore 66 = .ok (.iconst 3, 1) := by decide +kernel
theorem dX8_restore_67 : decode cX8_restore 67 = .ok (.iaload, 1) := by decide +kernel
theorem dX8_restore_68 : decode cX8_restore 68 = .ok (.invokevirtual 101, 3) := by decide +kernel
theorem dX8_restore_71 : decode cX8_restore 71 = .ok (.ireturn, 1) := by decide +kernel
