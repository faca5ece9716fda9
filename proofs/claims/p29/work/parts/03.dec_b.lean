theorem dX5_init_0 : decode cX5_init 0 = .ok (.aload_n 0, 1) := by decide +kernel
theorem dX5_init_1 : decode cX5_init 1 = .ok (.invokespecial 5, 3) := by decide +kernel
theorem dX5_init_4 : decode cX5_init 4 = .ok (.aload_n 0, 1) := by decide +kernel
theorem dX5_init_5 : decode cX5_init 5 = .ok (.sipush 344, 3) := by decide +kernel
theorem dX5_init_8 : decode cX5_init 8 = .ok (.newarray .int, 2) := by decide +kernel
theorem dX5_init_10 : decode cX5_init 10 = .ok (.putfield 11, 3) := by decide +kernel
theorem dX5_init_13 : decode cX5_init 13 = .ok (.aload_n 0, 1) := by decide +kernel
theorem dX5_init_14 : decode cX5_init 14 = .ok (.iconst 0, 1) := by decide +kernel
theorem dX5_init_15 : decode cX5_init 15 = .ok (.iconst 5, 1) := by decide +kernel
theorem dX5_init_16 : decode cX5_init 16 = .ok (.invokevirtual 15, 3) := by decide +kernel
theorem dX5_init_19 : decode cX5_init 19 = .ok (.aload_n 0, 1) := by decide +kernel
theorem dX5_init_20 : decode cX5_init 20 = .ok (.iconst 1, 1) := by decide +kernel
theorem dX5_init_21 : decode cX5_init 21 = .ok (.bipush 12, 2) := by decide +kernel
theorem dX5_init_23 : decode cX5_init 23 = .ok (.invokevirtual 15, 3) := by decide +kernel
theorem dX5_init_26 : decode cX5_init 26 = .ok (.aload_n 0, 1) := by decide +kernel
theorem dX5_init_27 : decode cX5_init 27 = .ok (.iconst 2, 1) := by decide +kernel
theorem dX5_init_28 : decode cX5_init 28 = .ok (.iconst 1, 1) := by decide +kernel
theorem dX5_init_29 : decode cX5_init 29 = .ok (.invokevirtual 15, 3) := by decide +kernel
theorem dX5_init_32 : decode cX5_init 32 = .ok (.iconst 1, 1) := by decide +kernel
theorem dX5_init_33 : decode cX5_init 33 = .ok (.istore_n 1, 1) := by decide +kernel
theorem dX5_init_34 : decode cX5_init 34 = .ok (.iload_n 1, 1) := by decide +kernel
theorem dX5_init_35 : decode cX5_init 35 = .ok (.bipush 6, 2) := by decide +kernel
theorem dX5_init_37 : decode cX5_init 37 = .ok (.if_icmp .gt 20, 3) := by decide +kernel
theorem dX5_init_40 : decode cX5_init 40 = .ok (.aload_n 0, 1) := by decide +kernel
theorem dX5_init_41 : decode cX5_init 41 = .ok (.bipush 8, 2) := by decide +kernel
theorem dX5_init_43 : decode cX5_init 43 = .ok (.iload_n 1, 1) := by decide +kernel
theorem dX5_init_44 : decode cX5_init 44 = .ok (.iadd, 1) := by decide +kernel
theorem dX5_init_45 : decode cX5_init 45 = .ok (.sipush 300, 3) := by decide +kernel
theorem dX5_init_48 : decode cX5_init 48 = .ok (.invokevirtual 15, 3) := by decide +kernel
theorem dX5_init_51 : decode cX5_init 51 = .ok (.iinc 1 1, 3) := by decide +kernel
theorem dX5_init_54 : decode cX5_init 54 = .ok (.goto (-20), 3) := by decide +kernel
theorem dX5_init_57 : decode cX5_init 57 = .ok (.aload_n 0, 1) := by decide +kernel
theorem dX5_init_58 : decode cX5_init 58 = .ok (.invokevirtual 19, 3) := by decide +kernel
theorem dX5_init_61 : decode cX5_init 61 = .ok (.return_, 1) := by decide +kernel
theorem dX5_number_0 : decode cX5_number 0 = .ok (.iload_n 1, 1) := by decide +kernel
theorem dX5_number_1 : decode cX5_number 1 = .ok (.ifCond .lt 21, 3) := by decide +kernel
theorem dX5_number_4 : decode cX5_number 4 = .ok (.iload_n 1, 1) := by decide +kernel
theorem dX5_number_5 : decode cX5_number 5 = .ok (.aload_n 0, 1) := by decide +kernel
theorem dX5_number_6 : decode cX5_number 6 = .ok (.getfield 11, 3) := by decide +kernel
theorem dX5_number_9 : decode cX5_number 9 = .ok (.arraylength, 1) := by decide +kernel
theorem dX5_number_10 : decode cX5_number 10 = .ok (.if_icmp .ge 12, 3) := by decide +kernel
theorem dX5_number_13 : decode cX5_number 13 = .ok (.aload_n 0, 1) := by decide +kernel
theorem dX5_number_14 : decode cX5_number 14 = .ok (.getfield 11, 3) := by decide +kernel
theorem dX5_number_17 : decode cX5_number 17 = .ok (.iload_n 1, 1) := by decide +kernel
theorem dX5_number_18 : decode cX5_number 18 = .ok (.iaload, 1) := by decide +kernel
theorem dX5_number_19 : decode cX5_number 19 = .ok (.goto 4, 3) := by decide +kernel
theorem dX5_number_22 : decode cX5_number 22 = .ok (.iconst 0, 1) := by decide +kernel
theorem dX5_number_23 : decode cX5_number 23 = .ok (.ireturn, 1) := by decide +kernel
theorem dX5_lay_0 : decode cX5_lay 0 = .ok (.iload_n 1, 1) := by decide +kernel
theorem dX5_lay_1 : decode cX5_lay 1 = .ok (.ifCond .lt 19, 3) := by decide +kernel
theorem dX5_lay_4 : decode cX5_lay 4 = .ok (.iload_n 1, 1) := by decide +kernel
theorem dX5_lay_5 : decode cX5_lay 5 = .ok (.aload_n 0, 1) := by decide +kernel
theorem dX5_lay_6 : decode cX5_lay 6 = .ok (.getfield 11, 3) := by decide +kernel
theorem dX5_lay_9 : decode cX5_lay 9 = .ok (.arraylength, 1) := by decide +kernel
theorem dX5_lay_10 : decode cX5_lay 10 = .ok (.if_icmp .ge 10, 3) := by decide +kernel
theorem dX5_lay_13 : decode cX5_lay 13 = .ok (.aload_n 0, 1) := by decide +kernel
theorem dX5_lay_14 : decode cX5_lay 14 = .ok (.getfield 11, 3) := by decide +kernel
theorem dX5_lay_17 : decode cX5_lay 17 = .ok (.iload_n 1, 1) := by decide +kernel
theorem dX5_lay_18 : decode cX5_lay 18 = .ok (.iload_n 2, 1) := by decide +kernel
theorem dX5_lay_19 : decode cX5_lay 19 = .ok (.iastore, 1) := by decide +kernel
theorem dX5_lay_20 : decode cX5_lay 20 = .ok (.return_, 1) := by decide +kernel
theorem dX5_raise_0 : decode cX5_raise 0 = .ok (.aload_n 0, 1) := by decide +kernel
theorem dX5_raise_1 : decode cX5_raise 1 = .ok (.iload_n 1, 1) := by decide +kernel
theorem dX5_raise_2 : decode cX5_raise 2 = .ok (.aload_n 0, 1) := by decide +kernel
theorem dX5_raise_3 : decode cX5_raise 3 = .ok (.iload_n 1, 1) := by decide +kernel
theorem dX5_raise_4 : decode cX5_raise 4 = .ok (.invokevirtual 22, 3) := by decide +kernel
theorem dX5_raise_7 : decode cX5_raise 7 = .ok (.iload_n 2, 1) := by decide +kernel
theorem dX5_raise_8 : decode cX5_raise 8 = .ok (.iadd, 1) := by decide +kernel
theorem dX5_raise_9 : decode cX5_raise 9 = .ok (.invokevirtual 15, 3) := by decide +kernel
theorem dX5_raise_12 : decode cX5_raise 12 = .ok (.return_, 1) := by decide +kernel
theorem dX5_copyFrom_0 : decode cX5_copyFrom 0 = .ok (.aload_n 1, 1) := by decide +kernel
theorem dX5_copyFrom_1 : decode cX5_copyFrom 1 = .ok (.getfield 11, 3) := by decide +kernel
theorem dX5_copyFrom_4 : decode cX5_copyFrom 4 = .ok (.iconst 0, 1) := by decide +kernel
theorem dX5_copyFrom_5 : decode cX5_copyFrom 5 = .ok (.aload_n 0, 1) := by decide +kernel
theorem dX5_copyFrom_6 : decode cX5_copyFrom 6 = .ok (.getfield 11, 3) := by decide +kernel
theorem dX5_copyFrom_9 : decode cX5_copyFrom 9 = .ok (.iconst 0, 1) := by decide +kernel
theorem dX5_copyFrom_10 : decode cX5_copyFrom 10 = .ok (.sipush 344, 3) := by decide +kernel
theorem dX5_copyFrom_13 : decode cX5_copyFrom 13 = .ok (.invokestatic 26, 3) := by decide +kernel
theorem dX5_copyFrom_16 : decode cX5_copyFrom 16 = .ok (.return_, 1) := by decide +kernel
theorem dX5_copyInto_0 : decode cX5_copyInto 0 = .ok (.iload_n 2, 1) := by decide +kernel
theorem dX5_copyInto_1 : decode cX5_copyInto 1 = .ok (.ifCond .lt 26, 3) := by decide +kernel
theorem dX5_copyInto_4 : decode cX5_copyInto 4 = .ok (.iload_n 2, 1) := by decide +kernel
theorem dX5_copyInto_5 : decode cX5_copyInto 5 = .ok (.aload_n 1, 1) := by decide +kernel
theorem dX5_copyInto_6 : decode cX5_copyInto 6 = .ok (.arraylength, 1) := by decide +kernel
theorem dX5_copyInto_7 : decode cX5_copyInto 7 = .ok (.sipush 344, 3) := by decide +kernel
theorem dX5_copyInto_10 : decode cX5_copyInto 10 = .ok (.isub, 1) := by decide +kernel
theorem dX5_copyInto_11 : decode cX5_copyInto 11 = .ok (.if_icmp .gt 16, 3) := by decide +kernel
theorem dX5_copyInto_14 : decode cX5_copyInto 14 = .ok (.aload_n 0, 1) := by decide +kernel
theorem dX5_copyInto_15 : decode cX5_copyInto 15 = .ok (.getfield 11, 3) := by decide +kernel
theorem dX5_copyInto_18 : decode cX5_copyInto 18 = .ok (.iconst 0, 1) := by decide +kernel
theorem dX5_copyInto_19 : decode cX5_copyInto 19 = .ok (.aload_n 1, 1) := by decide +kernel
theorem dX5_copyInto_20 : decode cX5_copyInto 20 = .ok (.iload_n 2, 1) := by decide +kernel
theorem dX5_copyInto_21 : decode cX5_copyInto 21 = .ok (.sipush 344, 3) := by decide +kernel
theorem dX5_copyInto_24 : decode cX5_copyInto 24 = .ok (.invokestatic 26, 3) := by decide +kernel
theorem dX5_copyInto_27 : decode cX5_copyInto 27 = .ok (.return_, 1) := by decide +kernel
theorem dX5_copyOutOf_0 : decode cX5_copyOutOf 0 = .ok (.iload_n 2, 1) := by decide +kernel
theorem dX5_copyOutOf_1 : decode cX5_copyOutOf 1 = .ok (.ifCond .lt 26, 3) := by decide +kernel
theorem dX5_copyOutOf_4 : decode cX5_copyOutOf 4 = .ok (.iload_n 2, 1) := by decide +kernel
theorem dX5_copyOutOf_5 : decode cX5_copyOutOf 5 = .ok (.aload_n 1, 1) := by decide +kernel
theorem dX5_copyOutOf_6 : decode cX5_copyOutOf 6 = .ok (.arraylength, 1) := by decide +kernel
theorem dX5_copyOutOf_7 : decode cX5_copyOutOf 7 = .ok (.sipush 344, 3) := by decide +kernel
theorem dX5_copyOutOf_10 : decode cX5_copyOutOf 10 = .ok (.isub, 1) := by decide +kernel
theorem dX5_copyOutOf_11 : decode cX5_copyOutOf 11 = .ok (.if_icmp .gt 16, 3) := by decide +kernel
theorem dX5_copyOutOf_14 : decode cX5_copyOutOf 14 = .ok (.aload_n 1, 1) := by decide +kernel
theorem dX5_copyOutOf_15 : decode cX5_copyOutOf 15 = .ok (.iload_n 2, 1) := by decide +kernel
theorem dX5_copyOutOf_16 : decode cX5_copyOutOf 16 = .ok (.aload_n 0, 1) := by decide +kernel
theorem dX5_copyOutOf_17 : decode cX5_copyOutOf 17 = .ok (.getfield 11, 3) := by decide +kernel
theorem dX5_copyOutOf_20 : decode cX5_copyOutOf 20 = .ok (.iconst 0, 1) := by decide +kernel
theorem dX5_copyOutOf_21 : decode cX5_copyOutOf 21 = .ok (.sipush 344, 3) := by decide +kernel
theorem dX5_copyOutOf_24 : decode cX5_copyOutOf 24 = .ok (.invokestatic 26, 3) := by decide +kernel
theorem dX5_copyOutOf_27 : decode cX5_copyOutOf 27 = .ok (.return_, 1) := by decide +kernel
theorem dX5_setting_0 : decode cX5_setting 0 = .ok (.aload_n 0, 1) := by decide +kernel
theorem dX5_setting_1 : decode cX5_setting 1 = .ok (.iconst 0, 1) := by decide +kernel
theorem dX5_setting_2 : decode cX5_setting 2 = .ok (.iload_n 1, 1) := by decide +kernel
theorem dX5_setting_3 : decode cX5_setting 3 = .ok (.iadd, 1) := by decide +kernel
theorem dX5_setting_4 : decode cX5_setting 4 = .ok (.invokevirtual 22, 3) := by decide +kernel
theorem dX5_setting_7 : decode cX5_setting 7 = .ok (.ireturn, 1) := by decide +kernel
theorem dX5_hasPattern_0 : decode cX5_hasPattern 0 = .ok (.aload_n 0, 1) := by decide +kernel
theorem dX5_hasPattern_1 : decode cX5_hasPattern 1 = .ok (.iconst 3, 1) := by decide +kernel
theorem dX5_hasPattern_2 : decode cX5_hasPattern 2 = .ok (.iload_n 1, 1) := by decide +kernel
theorem dX5_hasPattern_3 : decode cX5_hasPattern 3 = .ok (.iadd, 1) := by decide +kernel
theorem dX5_hasPattern_4 : decode cX5_hasPattern 4 = .ok (.invokevirtual 22, 3) := by decide +kernel
theorem dX5_hasPattern_7 : decode cX5_hasPattern 7 = .ok (.iconst (-1), 1) := by decide +kernel
theorem dX5_hasPattern_8 : decode cX5_hasPattern 8 = .ok (.if_icmp .eq 7, 3) := by decide +kernel
theorem dX5_hasPattern_11 : decode cX5_hasPattern 11 = .ok (.iconst 1, 1) := by decide +kernel
theorem dX5_hasPattern_12 : decode cX5_hasPattern 12 = .ok (.goto 4, 3) := by decide +kernel
theorem dX5_hasPattern_15 : decode cX5_hasPattern 15 = .ok (.iconst 0, 1) := by decide +kernel
theorem dX5_hasPattern_16 : decode cX5_hasPattern 16 = .ok (.ireturn, 1) := by decide +kernel
theorem dX5_dropPatterns_0 : decode cX5_dropPatterns 0 = .ok (.iconst 0, 1) := by decide +kernel
theorem dX5_dropPatterns_1 : decode cX5_dropPatterns 1 = .ok (.istore_n 1, 1) := by decide +kernel
theorem dX5_dropPatterns_2 : decode cX5_dropPatterns 2 = .ok (.iload_n 1, 1) := by decide +kernel
theorem dX5_dropPatterns_3 : decode cX5_dropPatterns 3 = .ok (.iconst 5, 1) := by decide +kernel
theorem dX5_dropPatterns_4 : decode cX5_dropPatterns 4 = .ok (.if_icmp .ge 17, 3) := by decide +kernel
theorem dX5_dropPatterns_7 : decode cX5_dropPatterns 7 = .ok (.aload_n 0, 1) := by decide +kernel
theorem dX5_dropPatterns_8 : decode cX5_dropPatterns 8 = .ok (.iconst 3, 1) := by decide +kernel
theorem dX5_dropPatterns_9 : decode cX5_dropPatterns 9 = .ok (.iload_n 1, 1) := by decide +kernel
theorem dX5_dropPatterns_10 : decode cX5_dropPatterns 10 = .ok (.iadd, 1) := by decide +kernel
theorem dX5_dropPatterns_11 : decode cX5_dropPatterns 11 = .ok (.iconst (-1), 1) := by decide +kernel
theorem dX5_dropPatterns_12 : decode cX5_dropPatterns 12 = .ok (.invokevirtual 15, 3) := by decide +kernel
theorem dX5_dropPatterns_15 : decode cX5_dropPatterns 15 = .ok (.iinc 1 1, 3) := by decide +kernel
theorem dX5_dropPatterns_18 : decode cX5_dropPatterns 18 = .ok (.goto (-16), 3) := by decide +kernel
theorem dX5_dropPatterns_21 : decode cX5_dropPatterns 21 = .ok (.return_, 1) := by decide +kernel
theorem dX5_funnel_0 : decode cX5_funnel 0 = .ok (.aload_n 0, 1) := by decide +kernel
theorem dX5_funnel_1 : decode cX5_funnel 1 = .ok (.bipush 8, 2) := by decide +kernel
theorem dX5_funnel_3 : decode cX5_funnel 3 = .ok (.iload_n 1, 1) := by decide +kernel
theorem dX5_funnel_4 : decode cX5_funnel 4 = .ok (.iadd, 1) := by decide +kernel
theorem dX5_funnel_5 : decode cX5_funnel 5 = .ok (.invokevirtual 22, 3) := by decide +kernel
theorem dX5_funnel_8 : decode cX5_funnel 8 = .ok (.ireturn, 1) := by decide +kernel
theorem dX5_heldBy_0 : decode cX5_heldBy 0 = .ok (.aload_n 0, 1) := by decide +kernel
theorem dX5_heldBy_1 : decode cX5_heldBy 1 = .ok (.bipush 15, 2) := by decide +kernel
theorem dX5_heldBy_3 : decode cX5_heldBy 3 = .ok (.iload_n 1, 1) := by decide +kernel
theorem dX5_heldBy_4 : decode cX5_heldBy 4 = .ok (.iadd, 1) := by decide +kernel
theorem dX5_heldBy_5 : decode cX5_heldBy 5 = .ok (.invokevirtual 22, 3) := by decide +kernel
theorem dX5_heldBy_8 : decode cX5_heldBy 8 = .ok (.ireturn, 1) := by decide +kernel
theorem dX5_holderOf_0 : decode cX5_holderOf 0 = .ok (.iconst 0, 1) := by decide +kernel
theorem dX5_holderOf_1 : decode cX5_holderOf 1 = .ok (.istore_n 2, 1) := by decide +kernel
theorem dX5_holderOf_2 : decode cX5_holderOf 2 = .ok (.iload_n 2, 1) := by decide +kernel
theorem dX5_holderOf_3 : decode cX5_holderOf 3 = .ok (.iconst 4, 1) := by decide +kernel
theorem dX5_holderOf_4 : decode cX5_holderOf 4 = .ok (.if_icmp .ge 20, 3) := by decide +kernel
theorem dX5_holderOf_7 : decode cX5_holderOf 7 = .ok (.aload_n 0, 1) := by decide +kernel
theorem dX5_holderOf_8 : decode cX5_holderOf 8 = .ok (.iload_n 2, 1) := by decide +kernel
theorem dX5_holderOf_9 : decode cX5_holderOf 9 = .ok (.invokevirtual 32, 3) := by decide +kernel
theorem dX5_holderOf_12 : decode cX5_holderOf 12 = .ok (.iload_n 1, 1) := by decide +kernel
theorem dX5_holderOf_13 : decode cX5_holderOf 13 = .ok (.if_icmp .ne 5, 3) := by decide +kernel
theorem dX5_holderOf_16 : decode cX5_holderOf 16 = .ok (.iload_n 2, 1) := by decide +kernel
theorem dX5_holderOf_17 : decode cX5_holderOf 17 = .ok (.ireturn, 1) := by decide +kernel
theorem dX5_holderOf_18 : decode cX5_holderOf 18 = .ok (.iinc 2 1, 3) := by decide +kernel
theorem dX5_holderOf_21 : decode cX5_holderOf 21 = .ok (.goto (-19), 3) := by decide +kernel
theorem dX5_holderOf_24 : decode cX5_holderOf 24 = .ok (.bipush (-6), 2) := by decide +kernel
theorem dX5_holderOf_26 : decode cX5_holderOf 26 = .ok (.ireturn, 1) := by decide +kernel
theorem dX5_isClosed_0 : decode cX5_isClosed 0 = .ok (.iload_n 1, 1) := by decide +kernel
theorem dX5_isClosed_1 : decode cX5_isClosed 1 = .ok (.aload_n 0, 1) := by decide +kernel
theorem dX5_isClosed_2 : decode cX5_isClosed 2 = .ok (.bipush 19, 2) := by decide +kernel
theorem dX5_isClosed_4 : decode cX5_isClosed 4 = .ok (.invokevirtual 22, 3) := by decide +kernel
theorem dX5_isClosed_7 : decode cX5_isClosed 7 = .ok (.if_icmp .ge 7, 3) := by decide +kernel
theorem dX5_isClosed_10 : decode cX5_isClosed 10 = .ok (.iconst 1, 1) := by decide +kernel
theorem dX5_isClosed_11 : decode cX5_isClosed 11 = .ok (.goto 4, 3) := by decide +kernel
theorem dX5_isClosed_14 : decode cX5_isClosed 14 = .ok (.iconst 0, 1) := by decide +kernel
theorem dX5_isClosed_15 : decode cX5_isClosed 15 = .ok (.ireturn, 1) := by decide +kernel
theorem dX5_isSwept_0 : decode cX5_isSwept 0 = .ok (.iconst 0, 1) := by decide +kernel
theorem dX5_isSwept_1 : decode cX5_isSwept 1 = .ok (.istore_n 2, 1) := by decide +kernel
theorem dX5_isSwept_2 : decode cX5_isSwept 2 = .ok (.iload_n 2, 1) := by decide +kernel
theorem dX5_isSwept_3 : decode cX5_isSwept 3 = .ok (.iconst 4, 1) := by decide +kernel
theorem dX5_isSwept_4 : decode cX5_isSwept 4 = .ok (.if_icmp .ge 29, 3) := by decide +kernel
theorem dX5_isSwept_7 : decode cX5_isSwept 7 = .ok (.iload_n 2, 1) := by decide +kernel
theorem dX5_isSwept_8 : decode cX5_isSwept 8 = .ok (.aload_n 0, 1) := by decide +kernel
theorem dX5_isSwept_9 : decode cX5_isSwept 9 = .ok (.bipush 20, 2) := by decide +kernel
theorem dX5_isSwept_11 : decode cX5_isSwept 11 = .ok (.invokevirtual 22, 3) := by decide +kernel
theorem dX5_isSwept_14 : decode cX5_isSwept 14 = .ok (.if_icmp .ge 19, 3) := by decide +kernel
theorem dX5_isSwept_17 : decode cX5_isSwept 17 = .ok (.iload_n 2, 1) := by decide +kernel
theorem dX5_isSwept_18 : decode cX5_isSwept 18 = .ok (.invokestatic 35, 3) := by decide +kernel
theorem dX5_isSwept_21 : decode cX5_isSwept 21 = .ok (.iload_n 1, 1) := by decide +kernel
theorem dX5_isSwept_22 : decode cX5_isSwept 22 = .ok (.if_icmp .ne 5, 3) := by decide +kernel
theorem dX5_isSwept_25 : decode cX5_isSwept 25 = .ok (.iconst 1, 1) := by decide +kernel
theorem dX5_isSwept_26 : decode cX5_isSwept 26 = .ok (.ireturn, 1) := by decide +kernel
theorem dX5_isSwept_27 : decode cX5_isSwept 27 = .ok (.iinc 2 1, 3) := by decide +kernel
theorem dX5_isSwept_30 : decode cX5_isSwept 30 = .ok (.goto (-28), 3) := by decide +kernel
theorem dX5_isSwept_33 : decode cX5_isSwept 33 = .ok (.iconst 0, 1) := by decide +kernel
theorem dX5_isSwept_34 : decode cX5_isSwept 34 = .ok (.ireturn, 1) := by decide +kernel
theorem dX5_grains_0 : decode cX5_grains 0 = .ok (.aload_n 0, 1) := by decide +kernel
theorem dX5_grains_1 : decode cX5_grains 1 = .ok (.bipush 24, 2) := by decide +kernel
theorem dX5_grains_3 : decode cX5_grains 3 = .ok (.iload_n 1, 1) := by decide +kernel
theorem dX5_grains_4 : decode cX5_grains 4 = .ok (.iconst 5, 1) := by decide +kernel
theorem dX5_grains_5 : decode cX5_grains 5 = .ok (.imul, 1) := by decide +kernel
theorem dX5_grains_6 : decode cX5_grains 6 = .ok (.iload_n 2, 1) := by decide +kernel
theorem dX5_grains_7 : decode cX5_grains 7 = .ok (.iadd, 1) := by decide +kernel
theorem dX5_grains_8 : decode cX5_grains 8 = .ok (.bipush 8, 2) := by decide +kernel
theorem dX5_grains_10 : decode cX5_grains 10 = .ok (.imul, 1) := by decide +kernel
theorem dX5_grains_11 : decode cX5_grains 11 = .ok (.iadd, 1) := by decide +kernel
theorem dX5_grains_12 : decode cX5_grains 12 = .ok (.iload_n 3, 1) := by decide +kernel
theorem dX5_grains_13 : decode cX5_grains 13 = .ok (.iadd, 1) := by decide +kernel
theorem dX5_grains_14 : decode cX5_grains 14 = .ok (.invokevirtual 22, 3) := by decide +kernel
theorem dX5_grains_17 : decode cX5_grains 17 = .ok (.ireturn, 1) := by decide +kernel
theorem dX5_colour_0 : decode cX5_colour 0 = .ok (.aload_n 0, 1) := by decide +kernel
theorem dX5_colour_1 : decode cX5_colour 1 = .ok (.sipush 184, 3) := by decide +kernel
theorem dX5_colour_4 : decode cX5_colour 4 = .ok (.iload_n 1, 1) := by decide +kernel
theorem dX5_colour_5 : decode cX5_colour 5 = .ok (.iconst 5, 1) := by decide +kernel
theorem dX5_colour_6 : decode cX5_colour 6 = .ok (.imul, 1) := by decide +kernel
theorem dX5_colour_7 : decode cX5_colour 7 = .ok (.iload_n 2, 1) := by decide +kernel
theorem dX5_colour_8 : decode cX5_colour 8 = .ok (.iadd, 1) := by decide +kernel
theorem dX5_colour_9 : decode cX5_colour 9 = .ok (.bipush 8, 2) := by decide +kernel
theorem dX5_colour_11 : decode cX5_colour 11 = .ok (.imul, 1) := by decide +kernel
theorem dX5_colour_12 : decode cX5_colour 12 = .ok (.iadd, 1) := by decide +kernel
theorem dX5_colour_13 : decode cX5_colour 13 = .ok (.iload_n 3, 1) := by decide +kernel
theorem dX5_colour_14 : decode cX5_colour 14 = .ok (.iadd, 1) := by decide +kernel
theorem dX5_colour_15 : decode cX5_colour 15 = .ok (.invokevirtual 22, 3) := by decide +kernel
theorem dX5_colour_18 : decode cX5_colour 18 = .ok (.ireturn, 1) := by decide +kernel
theorem dX5_heap_0 : decode cX5_heap 0 = .ok (.iload_n 1, 1) := by decide +kernel
theorem dX5_heap_1 : decode cX5_heap 1 = .ok (.iconst 5, 1) := by decide +kernel
theorem dX5_heap_2 : decode cX5_heap 2 = .ok (.imul, 1) := by decide +kernel
theorem dX5_heap_3 : decode cX5_heap 3 = .ok (.iload_n 2, 1) := by decide +kernel
theorem dX5_heap_4 : decode cX5_heap 4 = .ok (.iadd, 1) := by decide +kernel
theorem dX5_heap_5 : decode cX5_heap 5 = .ok (.bipush 8, 2) := by decide +kernel
theorem dX5_heap_7 : decode cX5_heap 7 = .ok (.imul, 1) := by decide +kernel
theorem dX5_heap_8 : decode cX5_heap 8 = .ok (.iload_n 3, 1) := by decide +kernel
theorem dX5_heap_9 : decode cX5_heap 9 = .ok (.iadd, 1) := by decide +kernel
theorem dX5_heap_10 : decode cX5_heap 10 = .ok (.istore 6, 2) := by decide +kernel
theorem dX5_heap_12 : decode cX5_heap 12 = .ok (.aload_n 0, 1) := by decide +kernel
theorem dX5_heap_13 : decode cX5_heap 13 = .ok (.bipush 24, 2) := by decide +kernel
theorem dX5_heap_15 : decode cX5_heap 15 = .ok (.iload 6, 2) := by decide +kernel
theorem dX5_heap_17 : decode cX5_heap 17 = .ok (.iadd, 1) := by decide +kernel
theorem dX5_heap_18 : decode cX5_heap 18 = .ok (.iload 5, 2) := by decide +kernel
theorem dX5_heap_20 : decode cX5_heap 20 = .ok (.invokevirtual 15, 3) := by decide +kernel
theorem dX5_heap_23 : decode cX5_heap 23 = .ok (.aload_n 0, 1) := by decide +kernel
theorem dX5_heap_24 : decode cX5_heap 24 = .ok (.sipush 184, 3) := by decide +kernel
theorem dX5_heap_27 : decode cX5_heap 27 = .ok (.iload 6, 2) := by decide +kernel
theorem dX5_heap_29 : decode cX5_heap 29 = .ok (.iadd, 1) := by decide +kernel
theorem dX5_heap_30 : decode cX5_heap 30 = .ok (.iload 5, 2) := by decide +kernel
theorem dX5_heap_32 : decode cX5_heap 32 = .ok (.ifCond .ne 7, 3) := by decide +kernel
theorem dX5_heap_35 : decode cX5_heap 35 = .ok (.iconst 0, 1) := by decide +kernel
theorem dX5_heap_36 : decode cX5_heap 36 = .ok (.goto 5, 3) := by decide +kernel
theorem dX5_heap_39 : decode cX5_heap 39 = .ok (.iload 4, 2) := by decide +kernel
theorem dX5_heap_41 : decode cX5_heap 41 = .ok (.invokevirtual 15, 3) := by decide +kernel
theorem dX5_heap_44 : decode cX5_heap 44 = .ok (.return_, 1) := by decide +kernel
theorem dX5_patternPlace_0 : decode cX5_patternPlace 0 = .ok (.aload_n 0, 1) := by decide +kernel
theorem dX5_patternPlace_1 : decode cX5_patternPlace 1 = .ok (.iconst 2, 1) := by decide +kernel
theorem dX5_patternPlace_2 : decode cX5_patternPlace 2 = .ok (.invokevirtual 22, 3) := by decide +kernel
theorem dX5_patternPlace_5 : decode cX5_patternPlace 5 = .ok (.iconst 1, 1) := by decide +kernel
theorem dX5_patternPlace_6 : decode cX5_patternPlace 6 = .ok (.if_icmp .ne 14, 3) := by decide +kernel
theorem dX5_patternPlace_9 : decode cX5_patternPlace 9 = .ok (.iload_n 1, 1) := by decide +kernel
theorem dX5_patternPlace_10 : decode cX5_patternPlace 10 = .ok (.iconst 2, 1) := by decide +kernel
theorem dX5_patternPlace_11 : decode cX5_patternPlace 11 = .ok (.irem, 1) := by decide +kernel
theorem dX5_patternPlace_12 : decode cX5_patternPlace 12 = .ok (.iconst 1, 1) := by decide +kernel
theorem dX5_patternPlace_13 : decode cX5_patternPlace 13 = .ok (.if_icmp .ne 7, 3) := by decide +kernel
theorem dX5_patternPlace_16 : decode cX5_patternPlace 16 = .ok (.iconst 1, 1) := by decide +kernel
theorem dX5_patternPlace_17 : decode cX5_patternPlace 17 = .ok (.goto 4, 3) := by decide +kernel
theorem dX5_patternPlace_20 : decode cX5_patternPlace 20 = .ok (.iconst 0, 1) := by decide +kernel
theorem dX5_patternPlace_21 : decode cX5_patternPlace 21 = .ok (.istore_n 3, 1) := by decide +kernel
theorem dX5_patternPlace_22 : decode cX5_patternPlace 22 = .ok (.iload_n 3, 1) := by decide +kernel
theorem dX5_patternPlace_23 : decode cX5_patternPlace 23 = .ok (.ifCond .eq 10, 3) := by decide +kernel
theorem dX5_patternPlace_26 : decode cX5_patternPlace 26 = .ok (.bipush 7, 2) := by decide +kernel
theorem dX5_patternPlace_28 : decode cX5_patternPlace 28 = .ok (.iload_n 2, 1) := by decide +kernel
theorem dX5_patternPlace_29 : decode cX5_patternPlace 29 = .ok (.isub, 1) := by decide +kernel
theorem dX5_patternPlace_30 : decode cX5_patternPlace 30 = .ok (.goto 4, 3) := by decide +kernel
theorem dX5_patternPlace_33 : decode cX5_patternPlace 33 = .ok (.iload_n 2, 1) := by decide +kernel
theorem dX5_patternPlace_34 : decode cX5_patternPlace 34 = .ok (.ireturn, 1) := by decide +kernel
theorem dX5_isMirrored_0 : decode cX5_isMirrored 0 = .ok (.aload_n 0, 1) := by decide +kernel
theorem dX5_isMirrored_1 : decode cX5_isMirrored 1 = .ok (.iload_n 1, 1) := by decide +kernel
theorem dX5_isMirrored_2 : decode cX5_isMirrored 2 = .ok (.iconst 0, 1) := by decide +kernel
theorem dX5_isMirrored_3 : decode cX5_isMirrored 3 = .ok (.invokevirtual 40, 3) := by decide +kernel
theorem dX5_isMirrored_6 : decode cX5_isMirrored 6 = .ok (.ifCond .eq 7, 3) := by decide +kernel
theorem dX5_isMirrored_9 : decode cX5_isMirrored 9 = .ok (.iconst 1, 1) := by decide +kernel
theorem dX5_isMirrored_10 : decode cX5_isMirrored 10 = .ok (.goto 4, 3) := by decide +kernel
theorem dX5_isMirrored_13 : decode cX5_isMirrored 13 = .ok (.iconst 0, 1) := by decide +kernel
theorem dX5_isMirrored_14 : decode cX5_isMirrored 14 = .ok (.ireturn, 1) := by decide +kernel
theorem dX5_wanted_0 : decode cX5_wanted 0 = .ok (.aload_n 0, 1) := by decide +kernel
theorem dX5_wanted_1 : decode cX5_wanted 1 = .ok (.iconst 3, 1) := by decide +kernel
theorem dX5_wanted_2 : decode cX5_wanted 2 = .ok (.iload_n 2, 1) := by decide +kernel
theorem dX5_wanted_3 : decode cX5_wanted 3 = .ok (.iadd, 1) := by decide +kernel
theorem dX5_wanted_4 : decode cX5_wanted 4 = .ok (.invokevirtual 22, 3) := by decide +kernel
theorem dX5_wanted_7 : decode cX5_wanted 7 = .ok (.istore 4, 2) := by decide +kernel
theorem dX5_wanted_9 : decode cX5_wanted 9 = .ok (.iload 4, 2) := by decide +kernel
theorem dX5_wanted_11 : decode cX5_wanted 11 = .ok (.iconst (-1), 1) := by decide +kernel
theorem dX5_wanted_12 : decode cX5_wanted 12 = .ok (.if_icmp .ne 6, 3) := by decide +kernel
theorem dX5_wanted_15 : decode cX5_wanted 15 = .ok (.bipush (-6), 2) := by decide +kernel
theorem dX5_wanted_17 : decode cX5_wanted 17 = .ok (.ireturn, 1) := by decide +kernel
theorem dX5_wanted_18 : decode cX5_wanted 18 = .ok (.iload 4, 2) := by decide +kernel
theorem dX5_wanted_20 : decode cX5_wanted 20 = .ok (.iconst 3, 1) := by decide +kernel
theorem dX5_wanted_21 : decode cX5_wanted 21 = .ok (.aload_n 0, 1) := by decide +kernel
theorem dX5_wanted_22 : decode cX5_wanted 22 = .ok (.iload_n 1, 1) := by decide +kernel
theorem dX5_wanted_23 : decode cX5_wanted 23 = .ok (.iload_n 3, 1) := by decide +kernel
theorem dX5_wanted_24 : decode cX5_wanted 24 = .ok (.invokevirtual 40, 3) := by decide +kernel
theorem dX5_wanted_27 : decode cX5_wanted 27 = .ok (.imul, 1) := by decide +kernel
theorem dX5_wanted_28 : decode cX5_wanted 28 = .ok (.ishr, 1) := by decide +kernel
theorem dX5_wanted_29 : decode cX5_wanted 29 = .ok (.bipush 7, 2) := by decide +kernel
theorem dX5_wanted_31 : decode cX5_wanted 31 = .ok (.iand, 1) := by decide +kernel
theorem dX5_wanted_32 : decode cX5_wanted 32 = .ok (.ireturn, 1) := by decide +kernel
theorem dX5_isRight_0 : decode cX5_isRight 0 = .ok (.aload_n 0, 1) := by decide +kernel
theorem dX5_isRight_1 : decode cX5_isRight 1 = .ok (.iload_n 1, 1) := by decide +kernel
theorem dX5_isRight_2 : decode cX5_isRight 2 = .ok (.iload_n 2, 1) := by decide +kernel
theorem dX5_isRight_3 : decode cX5_isRight 3 = .ok (.iload_n 3, 1) := by decide +kernel
theorem dX5_isRight_4 : decode cX5_isRight 4 = .ok (.invokevirtual 44, 3) := by decide +kernel
theorem dX5_isRight_7 : decode cX5_isRight 7 = .ok (.istore 4, 2) := by decide +kernel
theorem dX5_isRight_9 : decode cX5_isRight 9 = .ok (.iload 4, 2) := by decide +kernel
theorem dX5_isRight_11 : decode cX5_isRight 11 = .ok (.bipush (-6), 2) := by decide +kernel
theorem dX5_isRight_13 : decode cX5_isRight 13 = .ok (.if_icmp .ne 5, 3) := by decide +kernel
theorem dX5_isRight_16 : decode cX5_isRight 16 = .ok (.iconst 0, 1) := by decide +kernel
theorem dX5_isRight_17 : decode cX5_isRight 17 = .ok (.ireturn, 1) := by decide +kernel
theorem dX5_isRight_18 : decode cX5_isRight 18 = .ok (.iload 4, 2) := by decide +kernel
theorem dX5_isRight_20 : decode cX5_isRight 20 = .ok (.ifCond .ne 19, 3) := by decide +kernel
theorem dX5_isRight_23 : decode cX5_isRight 23 = .ok (.aload_n 0, 1) := by decide +kernel
theorem dX5_isRight_24 : decode cX5_isRight 24 = .ok (.iload_n 1, 1) := by decide +kernel
theorem dX5_isRight_25 : decode cX5_isRight 25 = .ok (.iload_n 2, 1) := by decide +kernel
theorem dX5_isRight_26 : decode cX5_isRight 26 = .ok (.iload_n 3, 1) := by decide +kernel
theorem dX5_isRight_27 : decode cX5_isRight 27 = .ok (.invokevirtual 48, 3) := by decide +kernel
theorem dX5_isRight_30 : decode cX5_isRight 30 = .ok (.ifCond .ne 7, 3) := by decide +kernel
theorem dX5_isRight_33 : decode cX5_isRight 33 = .ok (.iconst 1, 1) := by decide +kernel
theorem dX5_isRight_34 : decode cX5_isRight 34 = .ok (.goto 4, 3) := by decide +kernel
theorem dX5_isRight_37 : decode cX5_isRight 37 = .ok (.iconst 0, 1) := by decide +kernel
theorem dX5_isRight_38 : decode cX5_isRight 38 = .ok (.ireturn, 1) := by decide +kernel
theorem dX5_isRight_39 : decode cX5_isRight 39 = .ok (.aload_n 0, 1) := by decide +kernel
theorem dX5_isRight_40 : decode cX5_isRight 40 = .ok (.iload_n 1, 1) := by decide +kernel
theorem dX5_isRight_41 : decode cX5_isRight 41 = .ok (.iload_n 2, 1) := by decide +kernel
theorem dX5_isRight_42 : decode cX5_isRight 42 = .ok (.iload_n 3, 1) := by decide +kernel
theorem dX5_isRight_43 : decode cX5_isRight 43 = .ok (.invokevirtual 51, 3) := by decide +kernel
theorem dX5_isRight_46 : decode cX5_isRight 46 = .ok (.iload 4, 2) := by decide +kernel
theorem dX5_isRight_48 : decode cX5_isRight 48 = .ok (.if_icmp .ne 22, 3) := by decide +kernel
theorem dX5_isRight_51 : decode cX5_isRight 51 = .ok (.aload_n 0, 1) := by decide +kernel
theorem dX5_isRight_52 : decode cX5_isRight 52 = .ok (.iload_n 1, 1) := by decide +kernel
theorem dX5_isRight_53 : decode cX5_isRight 53 = .ok (.iload_n 2, 1) := by decide +kernel
theorem dX5_isRight_54 : decode cX5_isRight 54 = .ok (.iload_n 3, 1) := by decide +kernel
theorem dX5_isRight_55 : decode cX5_isRight 55 = .ok (.invokevirtual 48, 3) := by decide +kernel
theorem dX5_isRight_58 : decode cX5_isRight 58 = .ok (.aload_n 0, 1) := by decide +kernel
theorem dX5_isRight_59 : decode cX5_isRight 59 = .ok (.iconst 0, 1) := by decide +kernel
theorem dX5_isRight_60 : decode cX5_isRight 60 = .ok (.invokevirtual 54, 3) := by decide +kernel
theorem dX5_isRight_63 : decode cX5_isRight 63 = .ok (.if_icmp .lt 7, 3) := by decide +kernel
theorem dX5_isRight_66 : decode cX5_isRight 66 = .ok (.iconst 1, 1) := by decide +kernel
theorem dX5_isRight_67 : decode cX5_isRight 67 = .ok (.goto 4, 3) := by decide +kernel
theorem dX5_isRight_70 : decode cX5_isRight 70 = .ok (.iconst 0, 1) := by decide +kernel
theorem dX5_isRight_71 : decode cX5_isRight 71 = .ok (.ireturn, 1) := by decide +kernel
theorem dX5_missing_0 : decode cX5_missing 0 = .ok (.aload_n 0, 1) := by decide +kernel
theorem dX5_missing_1 : decode cX5_missing 1 = .ok (.iload_n 1, 1) := by decide +kernel
theorem dX5_missing_2 : decode cX5_missing 2 = .ok (.iload_n 2, 1) := by decide +kernel
theorem dX5_missing_3 : decode cX5_missing 3 = .ok (.iload_n 3, 1) := by decide +kernel
theorem dX5_missing_4 : decode cX5_missing 4 = .ok (.invokevirtual 44, 3) := by decide +kernel
theorem dX5_missing_7 : decode cX5_missing 7 = .ok (.istore 4, 2) := by decide +kernel
theorem dX5_missing_9 : decode cX5_missing 9 = .ok (.iload 4, 2) := by decide +kernel
theorem dX5_missing_11 : decode cX5_missing 11 = .ok (.invokestatic 57, 3) := by decide +kernel
theorem dX5_missing_14 : decode cX5_missing 14 = .ok (.ifCond .ne 5, 3) := by decide +kernel
theorem dX5_missing_17 : decode cX5_missing 17 = .ok (.iconst 0, 1) := by decide +kernel
theorem dX5_missing_18 : decode cX5_missing 18 = .ok (.ireturn, 1) := by decide +kernel
theorem dX5_missing_19 : decode cX5_missing 19 = .ok (.aload_n 0, 1) := by decide +kernel
theorem dX5_missing_20 : decode cX5_missing 20 = .ok (.iload_n 1, 1) := by decide +kernel
theorem dX5_missing_21 : decode cX5_missing 21 = .ok (.iload_n 2, 1) := by decide +kernel
theorem dX5_missing_22 : decode cX5_missing 22 = .ok (.iload_n 3, 1) := by decide +kernel
theorem dX5_missing_23 : decode cX5_missing 23 = .ok (.invokevirtual 51, 3) := by decide +kernel
theorem dX5_missing_26 : decode cX5_missing 26 = .ok (.iload 4, 2) := by decide +kernel
theorem dX5_missing_28 : decode cX5_missing 28 = .ok (.if_icmp .ne 13, 3) := by decide +kernel
theorem dX5_missing_31 : decode cX5_missing 31 = .ok (.aload_n 0, 1) := by decide +kernel
theorem dX5_missing_32 : decode cX5_missing 32 = .ok (.iload_n 1, 1) := by decide +kernel
theorem dX5_missing_33 : decode cX5_missing 33 = .ok (.iload_n 2, 1) := by decide +kernel
theorem dX5_missing_34 : decode cX5_missing 34 = .ok (.iload_n 3, 1) := by decide +kernel
theorem dX5_missing_35 : decode cX5_missing 35 = .ok (.invokevirtual 48, 3) := by decide +kernel
theorem dX5_missing_38 : decode cX5_missing 38 = .ok (.goto 4, 3) := by decide +kernel
theorem dX5_missing_41 : decode cX5_missing 41 = .ok (.iconst 0, 1) := by decide +kernel
theorem dX5_missing_42 : decode cX5_missing 42 = .ok (.istore 5, 2) := by decide +kernel
theorem dX5_missing_44 : decode cX5_missing 44 = .ok (.iconst 0, 1) := by decide +kernel
theorem dX5_missing_45 : decode cX5_missing 45 = .ok (.aload_n 0, 1) := by decide +kernel
theorem dX5_missing_46 : decode cX5_missing 46 = .ok (.iconst 0, 1) := by decide +kernel
theorem dX5_missing_47 : decode cX5_missing 47 = .ok (.invokevirtual 54, 3) := by decide +kernel
theorem dX5_missing_50 : decode cX5_missing 50 = .ok (.iload 5, 2) := by decide +kernel
theorem dX5_missing_52 : decode cX5_missing 52 = .ok (.isub, 1) := by decide +kernel
theorem dX5_missing_53 : decode cX5_missing 53 = .ok (.invokestatic 61, 3) := by decide +kernel
theorem dX5_missing_56 : decode cX5_missing 56 = .ok (.ireturn, 1) := by decide +kernel
theorem dX6_tally_0 : decode cX6_tally 0 = .ok (.iconst 0, 1) := by decide +kernel
theorem dX6_tally_1 : decode cX6_tally 1 = .ok (.istore 5, 2) := by decide +kernel
theorem dX6_tally_3 : decode cX6_tally 3 = .ok (.iconst 0, 1) := by decide +kernel
theorem dX6_tally_4 : decode cX6_tally 4 = .ok (.istore 6, 2) := by decide +kernel
theorem dX6_tally_6 : decode cX6_tally 6 = .ok (.iload 6, 2) := by decide +kernel
theorem dX6_tally_8 : decode cX6_tally 8 = .ok (.iconst 5, 1) := by decide +kernel
theorem dX6_tally_9 : decode cX6_tally 9 = .ok (.if_icmp .ge 82, 3) := by decide +kernel
theorem dX6_tally_12 : decode cX6_tally 12 = .ok (.iload 4, 2) := by decide +kernel
theorem dX6_tally_14 : decode cX6_tally 14 = .ok (.iload 6, 2) := by decide +kernel
theorem dX6_tally_16 : decode cX6_tally 16 = .ok (.invokestatic 9, 3) := by decide +kernel
theorem dX6_tally_19 : decode cX6_tally 19 = .ok (.ifCond .ne 6, 3) := by decide +kernel
theorem dX6_tally_22 : decode cX6_tally 22 = .ok (.goto 63, 3) := by decide +kernel
theorem dX6_tally_25 : decode cX6_tally 25 = .ok (.iconst 0, 1) := by decide +kernel
theorem dX6_tally_26 : decode cX6_tally 26 = .ok (.istore 7, 2) := by decide +kernel
theorem dX6_tally_28 : decode cX6_tally 28 = .ok (.iload 7, 2) := by decide +kernel
theorem dX6_tally_30 : decode cX6_tally 30 = .ok (.iconst 4, 1) := by decide +kernel
theorem dX6_tally_31 : decode cX6_tally 31 = .ok (.if_icmp .ge 54, 3) := by decide +kernel
theorem dX6_tally_34 : decode cX6_tally 34 = .ok (.iload_n 3, 1) := by decide +kernel
theorem dX6_tally_35 : decode cX6_tally 35 = .ok (.iload 7, 2) := by decide +kernel
theorem dX6_tally_37 : decode cX6_tally 37 = .ok (.invokestatic 9, 3) := by decide +kernel
theorem dX6_tally_40 : decode cX6_tally 40 = .ok (.ifCond .ne 6, 3) := by decide +kernel
theorem dX6_tally_43 : decode cX6_tally 43 = .ok (.goto 36, 3) := by decide +kernel
theorem dX6_tally_46 : decode cX6_tally 46 = .ok (.iconst 0, 1) := by decide +kernel
theorem dX6_tally_47 : decode cX6_tally 47 = .ok (.istore 8, 2) := by decide +kernel
theorem dX6_tally_49 : decode cX6_tally 49 = .ok (.iload 8, 2) := by decide +kernel
theorem dX6_tally_51 : decode cX6_tally 51 = .ok (.bipush 8, 2) := by decide +kernel
theorem dX6_tally_53 : decode cX6_tally 53 = .ok (.if_icmp .ge 26, 3) := by decide +kernel
theorem dX6_tally_56 : decode cX6_tally 56 = .ok (.iload 5, 2) := by decide +kernel
theorem dX6_tally_58 : decode cX6_tally 58 = .ok (.aload_n 0, 1) := by decide +kernel
theorem dX6_tally_59 : decode cX6_tally 59 = .ok (.iload_n 1, 1) := by decide +kernel
theorem dX6_tally_60 : decode cX6_tally 60 = .ok (.iload_n 2, 1) := by decide +kernel
theorem dX6_tally_61 : decode cX6_tally 61 = .ok (.iload 7, 2) := by decide +kernel
theorem dX6_tally_63 : decode cX6_tally 63 = .ok (.iload 6, 2) := by decide +kernel
theorem dX6_tally_65 : decode cX6_tally 65 = .ok (.iload 8, 2) := by decide +kernel
theorem dX6_tally_67 : decode cX6_tally 67 = .ok (.invokestatic 15, 3) := by decide +kernel
theorem dX6_tally_70 : decode cX6_tally 70 = .ok (.iadd, 1) := by decide +kernel
theorem dX6_tally_71 : decode cX6_tally 71 = .ok (.istore 5, 2) := by decide +kernel
theorem dX6_tally_73 : decode cX6_tally 73 = .ok (.iinc 8 1, 3) := by decide +kernel
theorem dX6_tally_76 : decode cX6_tally 76 = .ok (.goto (-27), 3) := by decide +kernel
theorem dX6_tally_79 : decode cX6_tally 79 = .ok (.iinc 7 1, 3) := by decide +kernel
theorem dX6_tally_82 : decode cX6_tally 82 = .ok (.goto (-54), 3) := by decide +kernel
theorem dX6_tally_85 : decode cX6_tally 85 = .ok (.iinc 6 1, 3) := by decide +kernel
theorem dX6_tally_88 : decode cX6_tally 88 = .ok (.goto (-82), 3) := by decide +kernel
theorem dX6_tally_91 : decode cX6_tally 91 = .ok (.iload 5, 2) := by decide +kernel
theorem dX6_tally_93 : decode cX6_tally 93 = .ok (.ireturn, 1) := by decide +kernel
theorem dX6_matches_0 : decode cX6_matches 0 = .ok (.iload_n 0, 1) := by decide +kernel
theorem dX6_matches_1 : decode cX6_matches 1 = .ok (.iconst (-1), 1) := by decide +kernel
theorem dX6_matches_2 : decode cX6_matches 2 = .ok (.if_icmp .eq 8, 3) := by decide +kernel
theorem dX6_matches_5 : decode cX6_matches 5 = .ok (.iload_n 0, 1) := by decide +kernel
theorem dX6_matches_6 : decode cX6_matches 6 = .ok (.iload_n 1, 1) := by decide +kernel
theorem dX6_matches_7 : decode cX6_matches 7 = .ok (.if_icmp .ne 7, 3) := by decide +kernel
theorem dX6_matches_10 : decode cX6_matches 10 = .ok (.iconst 1, 1) := by decide +kernel
theorem dX6_matches_11 : decode cX6_matches 11 = .ok (.goto 4, 3) := by decide +kernel
theorem dX6_matches_14 : decode cX6_matches 14 = .ok (.iconst 0, 1) := by decide +kernel
theorem dX6_matches_15 : decode cX6_matches 15 = .ok (.ireturn, 1) := by decide +kernel
theorem dX6_measured_0 : decode cX6_measured 0 = .ok (.aload_n 0, 1) := by decide +kernel
theorem dX6_measured_1 : decode cX6_measured 1 = .ok (.iload_n 3, 1) := by decide +kernel
theorem dX6_measured_2 : decode cX6_measured 2 = .ok (.iload 4, 2) := by decide +kernel
theorem dX6_measured_4 : decode cX6_measured 4 = .ok (.iload 5, 2) := by decide +kernel
theorem dX6_measured_6 : decode cX6_measured 6 = .ok (.invokevirtual 19, 3) := by decide +kernel
theorem dX6_measured_9 : decode cX6_measured 9 = .ok (.istore 6, 2) := by decide +kernel
theorem dX6_measured_11 : decode cX6_measured 11 = .ok (.aload_n 0, 1) := by decide +kernel
theorem dX6_measured_12 : decode cX6_measured 12 = .ok (.iload_n 3, 1) := by decide +kernel
theorem dX6_measured_13 : decode cX6_measured 13 = .ok (.iload 4, 2) := by decide +kernel
theorem dX6_measured_15 : decode cX6_measured 15 = .ok (.iload 5, 2) := by decide +kernel
theorem dX6_measured_17 : decode cX6_measured 17 = .ok (.invokevirtual 25, 3) := by decide +kernel
theorem dX6_measured_20 : decode cX6_measured 20 = .ok (.istore 7, 2) := by decide +kernel
theorem dX6_measured_22 : decode cX6_measured 22 = .ok (.aload_n 0, 1) := by decide +kernel
theorem dX6_measured_23 : decode cX6_measured 23 = .ok (.iload_n 3, 1) := by decide +kernel
theorem dX6_measured_24 : decode cX6_measured 24 = .ok (.iload 4, 2) := by decide +kernel
theorem dX6_measured_26 : decode cX6_measured 26 = .ok (.iload 5, 2) := by decide +kernel
theorem dX6_measured_28 : decode cX6_measured 28 = .ok (.invokevirtual 28, 3) := by decide +kernel
theorem dX6_measured_31 : decode cX6_measured 31 = .ok (.istore 8, 2) := by decide +kernel
theorem dX6_measured_33 : decode cX6_measured 33 = .ok (.iload_n 1, 1) := by decide +kernel
theorem dX6_measured_34 : decode cX6_measured 34 = .ok (.tableswitch 140 0 5 #[38, 61, 67, 81, 102, 117], 38) := by decide +kernel
theorem dX6_measured_72 : decode cX6_measured 72 = .ok (.iload_n 2, 1) := by decide +kernel
theorem dX6_measured_73 : decode cX6_measured 73 = .ok (.iload 6, 2) := by decide +kernel
theorem dX6_measured_75 : decode cX6_measured 75 = .ok (.invokestatic 9, 3) := by decide +kernel
theorem dX6_measured_78 : decode cX6_measured 78 = .ok (.ifCond .eq 15, 3) := by decide +kernel
theorem dX6_measured_81 : decode cX6_measured 81 = .ok (.aload_n 0, 1) := by decide +kernel
theorem dX6_measured_82 : decode cX6_measured 82 = .ok (.iload_n 3, 1) := by decide +kernel
theorem dX6_measured_83 : decode cX6_measured 83 = .ok (.iload 4, 2) := by decide +kernel
theorem dX6_measured_85 : decode cX6_measured 85 = .ok (.iload 5, 2) := by decide +kernel
theorem dX6_measured_87 : decode cX6_measured 87 = .ok (.invokevirtual 32, 3) := by decide +kernel
theorem dX6_measured_90 : decode cX6_measured 90 = .ok (.goto 4, 3) := by decide +kernel
theorem dX6_measured_93 : decode cX6_measured 93 = .ok (.iconst 0, 1) := by decide +kernel
theorem dX6_measured_94 : decode cX6_measured 94 = .ok (.ireturn, 1) := by decide +kernel
theorem dX6_measured_95 : decode cX6_measured 95 = .ok (.iload 8, 2) := by decide +kernel
theorem dX6_measured_97 : decode cX6_measured 97 = .ok (.invokestatic 35, 3) := by decide +kernel
theorem dX6_measured_100 : decode cX6_measured 100 = .ok (.ireturn, 1) := by decide +kernel
theorem dX6_measured_101 : decode cX6_measured 101 = .ok (.iload 8, 2) := by decide +kernel
theorem dX6_measured_103 : decode cX6_measured 103 = .ok (.ifCond .ne 7, 3) := by decide +kernel
theorem dX6_measured_106 : decode cX6_measured 106 = .ok (.iconst 1, 1) := by decide +kernel
theorem dX6_measured_107 : decode cX6_measured 107 = .ok (.goto 4, 3) := by decide +kernel
theorem dX6_measured_110 : decode cX6_measured 110 = .ok (.iconst 0, 1) := by decide +kernel
theorem dX6_measured_111 : decode cX6_measured 111 = .ok (.invokestatic 35, 3) := by decide +kernel
theorem dX6_measured_114 : decode cX6_measured 114 = .ok (.ireturn, 1) := by decide +kernel
theorem dX6_measured_115 : decode cX6_measured 115 = .ok (.iload 7, 2) := by decide +kernel
theorem dX6_measured_117 : decode cX6_measured 117 = .ok (.bipush (-6), 2) := by decide +kernel
theorem dX6_measured_119 : decode cX6_measured 119 = .ok (.if_icmp .eq 12, 3) := by decide +kernel
theorem dX6_measured_122 : decode cX6_measured 122 = .ok (.iload 8, 2) := by decide +kernel
theorem dX6_measured_124 : decode cX6_measured 124 = .ok (.ifCond .ne 7, 3) := by decide +kernel
theorem dX6_measured_127 : decode cX6_measured 127 = .ok (.iconst 1, 1) := by decide +kernel
theorem dX6_measured_128 : decode cX6_measured 128 = .ok (.goto 4, 3) := by decide +kernel
theorem dX6_measured_131 : decode cX6_measured 131 = .ok (.iconst 0, 1) := by decide +kernel
theorem dX6_measured_132 : decode cX6_measured 132 = .ok (.invokestatic 35, 3) := by decide +kernel
theorem dX6_measured_135 : decode cX6_measured 135 = .ok (.ireturn, 1) := by decide +kernel
theorem dX6_measured_136 : decode cX6_measured 136 = .ok (.iload 7, 2) := by decide +kernel
theorem dX6_measured_138 : decode cX6_measured 138 = .ok (.iload_n 2, 1) := by decide +kernel
theorem dX6_measured_139 : decode cX6_measured 139 = .ok (.if_icmp .ne 7, 3) := by decide +kernel
theorem dX6_measured_142 : decode cX6_measured 142 = .ok (.iconst 1, 1) := by decide +kernel
theorem dX6_measured_143 : decode cX6_measured 143 = .ok (.goto 4, 3) := by decide +kernel
theorem dX6_measured_146 : decode cX6_measured 146 = .ok (.iconst 0, 1) := by decide +kernel
theorem dX6_measured_147 : decode cX6_measured 147 = .ok (.invokestatic 35, 3) := by decide +kernel
theorem dX6_measured_150 : decode cX6_measured 150 = .ok (.ireturn, 1) := by decide +kernel
theorem dX6_measured_151 : decode cX6_measured 151 = .ok (.iload_n 2, 1) := by decide +kernel
theorem dX6_measured_152 : decode cX6_measured 152 = .ok (.iload 7, 2) := by decide +kernel
theorem dX6_measured_154 : decode cX6_measured 154 = .ok (.invokestatic 9, 3) := by decide +kernel
theorem dX6_measured_157 : decode cX6_measured 157 = .ok (.ifCond .eq 15, 3) := by decide +kernel
theorem dX6_measured_160 : decode cX6_measured 160 = .ok (.aload_n 0, 1) := by decide +kernel
theorem dX6_measured_161 : decode cX6_measured 161 = .ok (.iload_n 3, 1) := by decide +kernel
theorem dX6_measured_162 : decode cX6_measured 162 = .ok (.iload 4, 2) := by decide +kernel
theorem dX6_measured_164 : decode cX6_measured 164 = .ok (.iload 5, 2) := by decide +kernel
theorem dX6_measured_166 : decode cX6_measured 166 = .ok (.invokevirtual 39, 3) := by decide +kernel
theorem dX6_measured_169 : decode cX6_measured 169 = .ok (.goto 4, 3) := by decide +kernel
theorem dX6_measured_172 : decode cX6_measured 172 = .ok (.iconst 0, 1) := by decide +kernel
theorem dX6_measured_173 : decode cX6_measured 173 = .ok (.ireturn, 1) := by decide +kernel
theorem dX6_measured_174 : decode cX6_measured 174 = .ok (.iconst 0, 1) := by decide +kernel
theorem dX6_measured_175 : decode cX6_measured 175 = .ok (.ireturn, 1) := by decide +kernel
theorem dX6_isWhole_0 : decode cX6_isWhole 0 = .ok (.iconst 0, 1) := by decide +kernel
theorem dX6_isWhole_1 : decode cX6_isWhole 1 = .ok (.istore_n 2, 1) := by decide +kernel
theorem dX6_isWhole_2 : decode cX6_isWhole 2 = .ok (.iload_n 2, 1) := by decide +kernel
theorem dX6_isWhole_3 : decode cX6_isWhole 3 = .ok (.iconst 4, 1) := by decide +kernel
theorem dX6_isWhole_4 : decode cX6_isWhole 4 = .ok (.if_icmp .ge 35, 3) := by decide +kernel
theorem dX6_isWhole_7 : decode cX6_isWhole 7 = .ok (.iconst 0, 1) := by decide +kernel
theorem dX6_isWhole_8 : decode cX6_isWhole 8 = .ok (.istore_n 3, 1) := by decide +kernel
theorem dX6_isWhole_9 : decode cX6_isWhole 9 = .ok (.iload_n 3, 1) := by decide +kernel
theorem dX6_isWhole_10 : decode cX6_isWhole 10 = .ok (.bipush 8, 2) := by decide +kernel
theorem dX6_isWhole_12 : decode cX6_isWhole 12 = .ok (.if_icmp .ge 21, 3) := by decide +kernel
theorem dX6_isWhole_15 : decode cX6_isWhole 15 = .ok (.aload_n 0, 1) := by decide +kernel
theorem dX6_isWhole_16 : decode cX6_isWhole 16 = .ok (.iload_n 2, 1) := by decide +kernel
theorem dX6_isWhole_17 : decode cX6_isWhole 17 = .ok (.iload_n 1, 1) := by decide +kernel
theorem dX6_isWhole_18 : decode cX6_isWhole 18 = .ok (.iload_n 3, 1) := by decide +kernel
theorem dX6_isWhole_19 : decode cX6_isWhole 19 = .ok (.invokevirtual 28, 3) := by decide +kernel
theorem dX6_isWhole_22 : decode cX6_isWhole 22 = .ok (.ifCond .ne 5, 3) := by decide +kernel
theorem dX6_isWhole_25 : decode cX6_isWhole 25 = .ok (.iconst 0, 1) := by decide +kernel
theorem dX6_isWhole_26 : decode cX6_isWhole 26 = .ok (.ireturn, 1) := by decide +kernel
theorem dX6_isWhole_27 : decode cX6_isWhole 27 = .ok (.iinc 3 1, 3) := by decide +kernel
theorem dX6_isWhole_30 : decode cX6_isWhole 30 = .ok (.goto (-21), 3) := by decide +kernel
theorem dX6_isWhole_33 : decode cX6_isWhole 33 = .ok (.iinc 2 1, 3) := by decide +kernel
theorem dX6_isWhole_36 : decode cX6_isWhole 36 = .ok (.goto (-34), 3) := by decide +kernel
theorem dX6_isWhole_39 : decode cX6_isWhole 39 = .ok (.iconst 1, 1) := by decide +kernel
theorem dX6_isWhole_40 : decode cX6_isWhole 40 = .ok (.ireturn, 1) := by decide +kernel
theorem dX6_wholeRings_0 : decode cX6_wholeRings 0 = .ok (.iconst 0, 1) := by decide +kernel
theorem dX6_wholeRings_1 : decode cX6_wholeRings 1 = .ok (.istore_n 1, 1) := by decide +kernel
theorem dX6_wholeRings_2 : decode cX6_wholeRings 2 = .ok (.iconst 0, 1) := by decide +kernel
theorem dX6_wholeRings_3 : decode cX6_wholeRings 3 = .ok (.istore_n 2, 1) := by decide +kernel
theorem dX6_wholeRings_4 : decode cX6_wholeRings 4 = .ok (.iload_n 2, 1) := by decide +kernel
theorem dX6_wholeRings_5 : decode cX6_wholeRings 5 = .ok (.iconst 5, 1) := by decide +kernel
theorem dX6_wholeRings_6 : decode cX6_wholeRings 6 = .ok (.if_icmp .ge 23, 3) := by decide +kernel
theorem dX6_wholeRings_9 : decode cX6_wholeRings 9 = .ok (.aload_n 0, 1) := by decide +kernel
theorem dX6_wholeRings_10 : decode cX6_wholeRings 10 = .ok (.iload_n 2, 1) := by decide +kernel
theorem dX6_wholeRings_11 : decode cX6_wholeRings 11 = .ok (.invokestatic 42, 3) := by decide +kernel
theorem dX6_wholeRings_14 : decode cX6_wholeRings 14 = .ok (.ifCond .eq 9, 3) := by decide +kernel
theorem dX6_wholeRings_17 : decode cX6_wholeRings 17 = .ok (.iload_n 1, 1) := by decide +kernel
theorem dX6_wholeRings_18 : decode cX6_wholeRings 18 = .ok (.iconst 1, 1) := by decide +kernel
theorem dX6_wholeRings_19 : decode cX6_wholeRings 19 = .ok (.iload_n 2, 1) := by decide +kernel
theorem dX6_wholeRings_20 : decode cX6_wholeRings 20 = .ok (.ishl, 1) := by decide +kernel
theorem dX6_wholeRings_21 : decode cX6_wholeRings 21 = .ok (.ior, 1) := by decide +kernel
theorem dX6_wholeRings_22 : decode cX6_wholeRings 22 = .ok (.istore_n 1, 1) := by decide +kernel
theorem dX6_wholeRings_23 : decode cX6_wholeRings 23 = .ok (.iinc 2 1, 3) := by decide +kernel
theorem dX6_wholeRings_26 : decode cX6_wholeRings 26 = .ok (.goto (-22), 3) := by decide +kernel
theorem dX6_wholeRings_29 : decode cX6_wholeRings 29 = .ok (.iload_n 1, 1) := by decide +kernel
theorem dX6_wholeRings_30 : decode cX6_wholeRings 30 = .ok (.ireturn, 1) := by decide +kernel
theorem dX6_unlikePlaces_0 : decode cX6_unlikePlaces 0 = .ok (.iconst 0, 1) := by decide +kernel
theorem dX6_unlikePlaces_1 : decode cX6_unlikePlaces 1 = .ok (.istore_n 2, 1) := by decide +kernel
theorem dX6_unlikePlaces_2 : decode cX6_unlikePlaces 2 = .ok (.iconst 0, 1) := by decide +kernel
theorem dX6_unlikePlaces_3 : decode cX6_unlikePlaces 3 = .ok (.istore_n 3, 1) := by decide +kernel
theorem dX6_unlikePlaces_4 : decode cX6_unlikePlaces 4 = .ok (.iload_n 3, 1) := by decide +kernel
theorem dX6_unlikePlaces_5 : decode cX6_unlikePlaces 5 = .ok (.bipush 8, 2) := by decide +kernel
theorem dX6_unlikePlaces_7 : decode cX6_unlikePlaces 7 = .ok (.if_icmp .ge 24, 3) := by decide +kernel
theorem dX6_unlikePlaces_10 : decode cX6_unlikePlaces 10 = .ok (.aload_n 0, 1) := by decide +kernel
theorem dX6_unlikePlaces_11 : decode cX6_unlikePlaces 11 = .ok (.iload_n 1, 1) := by decide +kernel
theorem dX6_unlikePlaces_12 : decode cX6_unlikePlaces 12 = .ok (.iload_n 3, 1) := by decide +kernel
theorem dX6_unlikePlaces_13 : decode cX6_unlikePlaces 13 = .ok (.invokestatic 46, 3) := by decide +kernel
theorem dX6_unlikePlaces_16 : decode cX6_unlikePlaces 16 = .ok (.ifCond .eq 9, 3) := by decide +kernel
theorem dX6_unlikePlaces_19 : decode cX6_unlikePlaces 19 = .ok (.iload_n 2, 1) := by decide +kernel
theorem dX6_unlikePlaces_20 : decode cX6_unlikePlaces 20 = .ok (.iconst 1, 1) := by decide +kernel
theorem dX6_unlikePlaces_21 : decode cX6_unlikePlaces 21 = .ok (.iload_n 3, 1) := by decide +kernel
theorem dX6_unlikePlaces_22 : decode cX6_unlikePlaces 22 = .ok (.ishl, 1) := by decide +kernel
theorem dX6_unlikePlaces_23 : decode cX6_unlikePlaces 23 = .ok (.ior, 1) := by decide +kernel
theorem dX6_unlikePlaces_24 : decode cX6_unlikePlaces 24 = .ok (.istore_n 2, 1) := by decide +kernel
theorem dX6_unlikePlaces_25 : decode cX6_unlikePlaces 25 = .ok (.iinc 3 1, 3) := by decide +kernel
theorem dX6_unlikePlaces_28 : decode cX6_unlikePlaces 28 = .ok (.goto (-24), 3) := by decide +kernel
theorem dX6_unlikePlaces_31 : decode cX6_unlikePlaces 31 = .ok (.iload_n 2, 1) := by decide +kernel
theorem dX6_unlikePlaces_32 : decode cX6_unlikePlaces 32 = .ok (.ireturn, 1) := by decide +kernel
theorem dX6_isUnlike_0 : decode cX6_isUnlike 0 = .ok (.aload_n 0, 1) := by decide +kernel
theorem dX6_isUnlike_1 : decode cX6_isUnlike 1 = .ok (.iconst 0, 1) := by decide +kernel
theorem dX6_isUnlike_2 : decode cX6_isUnlike 2 = .ok (.iload_n 1, 1) := by decide +kernel
theorem dX6_isUnlike_3 : decode cX6_isUnlike 3 = .ok (.iload_n 2, 1) := by decide +kernel
theorem dX6_isUnlike_4 : decode cX6_isUnlike 4 = .ok (.invokevirtual 19, 3) := by decide +kernel
theorem dX6_isUnlike_7 : decode cX6_isUnlike 7 = .ok (.istore_n 3, 1) := by decide +kernel
theorem dX6_isUnlike_8 : decode cX6_isUnlike 8 = .ok (.iconst 1, 1) := by decide +kernel
theorem dX6_isUnlike_9 : decode cX6_isUnlike 9 = .ok (.istore 4, 2) := by decide +kernel
theorem dX6_isUnlike_11 : decode cX6_isUnlike 11 = .ok (.iload 4, 2) := by decide +kernel
theorem dX6_isUnlike_13 : decode cX6_isUnlike 13 = .ok (.iconst 4, 1) := by decide +kernel
theorem dX6_isUnlike_14 : decode cX6_isUnlike 14 = .ok (.if_icmp .ge 29, 3) := by decide +kernel
theorem dX6_isUnlike_17 : decode cX6_isUnlike 17 = .ok (.aload_n 0, 1) := by decide +kernel
theorem dX6_isUnlike_18 : decode cX6_isUnlike 18 = .ok (.iload 4, 2) := by decide +kernel
theorem dX6_isUnlike_20 : decode cX6_isUnlike 20 = .ok (.iload_n 1, 1) := by decide +kernel
theorem dX6_isUnlike_21 : decode cX6_isUnlike 21 = .ok (.aload_n 0, 1) := by decide +kernel
theorem dX6_isUnlike_22 : decode cX6_isUnlike 22 = .ok (.iload 4, 2) := by decide +kernel
theorem dX6_isUnlike_24 : decode cX6_isUnlike 24 = .ok (.iload_n 2, 1) := by decide +kernel
theorem dX6_isUnlike_25 : decode cX6_isUnlike 25 = .ok (.invokevirtual 50, 3) := by decide +kernel
theorem dX6_isUnlike_28 : decode cX6_isUnlike 28 = .ok (.invokevirtual 19, 3) := by decide +kernel
theorem dX6_isUnlike_31 : decode cX6_isUnlike 31 = .ok (.iload_n 3, 1) := by decide +kernel
theorem dX6_isUnlike_32 : decode cX6_isUnlike 32 = .ok (.if_icmp .eq 5, 3) := by decide +kernel
theorem dX6_isUnlike_35 : decode cX6_isUnlike 35 = .ok (.iconst 1, 1) := by decide +kernel
theorem dX6_isUnlike_36 : decode cX6_isUnlike 36 = .ok (.ireturn, 1) := by decide +kernel
theorem dX6_isUnlike_37 : decode cX6_isUnlike 37 = .ok (.iinc 4 1, 3) := by decide +kernel
theorem dX6_isUnlike_40 : decode cX6_isUnlike 40 = .ok (.goto (-29), 3) := by decide +kernel
theorem dX6_isUnlike_43 : decode cX6_isUnlike 43 = .ok (.iconst 0, 1) := by decide +kernel
theorem dX6_isUnlike_44 : decode cX6_isUnlike 44 = .ok (.ireturn, 1) := by decide +kernel
theorem dX6_neediest_0 : decode cX6_neediest 0 = .ok (.bipush (-6), 2) := by decide +kernel
theorem dX6_neediest_2 : decode cX6_neediest 2 = .ok (.istore_n 1, 1) := by decide +kernel
theorem dX6_neediest_3 : decode cX6_neediest 3 = .ok (.aload_n 0, 1) := by decide +kernel
theorem dX6_neediest_4 : decode cX6_neediest 4 = .ok (.iconst 0, 1) := by decide +kernel
theorem dX6_neediest_5 : decode cX6_neediest 5 = .ok (.invokevirtual 54, 3) := by decide +kernel
theorem dX6_neediest_8 : decode cX6_neediest 8 = .ok (.istore_n 2, 1) := by decide +kernel
theorem dX6_neediest_9 : decode cX6_neediest 9 = .ok (.aload_n 0, 1) := by decide +kernel
theorem dX6_neediest_10 : decode cX6_neediest 10 = .ok (.bipush 19, 2) := by decide +kernel
theorem dX6_neediest_12 : decode cX6_neediest 12 = .ok (.invokevirtual 58, 3) := by decide +kernel
theorem dX6_neediest_15 : decode cX6_neediest 15 = .ok (.istore_n 3, 1) := by decide +kernel
theorem dX6_neediest_16 : decode cX6_neediest 16 = .ok (.iload_n 3, 1) := by decide +kernel
theorem dX6_neediest_17 : decode cX6_neediest 17 = .ok (.iconst 5, 1) := by decide +kernel
theorem dX6_neediest_18 : decode cX6_neediest 18 = .ok (.if_icmp .ge 85, 3) := by decide +kernel
theorem dX6_neediest_21 : decode cX6_neediest 21 = .ok (.iconst 0, 1) := by decide +kernel
theorem dX6_neediest_22 : decode cX6_neediest 22 = .ok (.istore 4, 2) := by decide +kernel
theorem dX6_neediest_24 : decode cX6_neediest 24 = .ok (.iload 4, 2) := by decide +kernel
theorem dX6_neediest_26 : decode cX6_neediest 26 = .ok (.iconst 4, 1) := by decide +kernel
theorem dX6_neediest_27 : decode cX6_neediest 27 = .ok (.if_icmp .ge 70, 3) := by decide +kernel
theorem dX6_neediest_30 : decode cX6_neediest 30 = .ok (.iconst 0, 1) := by decide +kernel
theorem dX6_neediest_31 : decode cX6_neediest 31 = .ok (.istore 5, 2) := by decide +kernel
theorem dX6_neediest_33 : decode cX6_neediest 33 = .ok (.iload 5, 2) := by decide +kernel
theorem dX6_neediest_35 : decode cX6_neediest 35 = .ok (.bipush 8, 2) := by decide +kernel
theorem dX6_neediest_37 : decode cX6_neediest 37 = .ok (.if_icmp .ge 54, 3) := by decide +kernel
theorem dX6_neediest_40 : decode cX6_neediest 40 = .ok (.aload_n 0, 1) := by decide +kernel
theorem dX6_neediest_41 : decode cX6_neediest 41 = .ok (.iload 4, 2) := by decide +kernel
theorem dX6_neediest_43 : decode cX6_neediest 43 = .ok (.iload_n 3, 1) := by decide +kernel
theorem dX6_neediest_44 : decode cX6_neediest 44 = .ok (.iload 5, 2) := by decide +kernel
theorem dX6_neediest_46 : decode cX6_neediest 46 = .ok (.invokevirtual 32, 3) := by decide +kernel
theorem dX6_neediest_49 : decode cX6_neediest 49 = .ok (.istore 6, 2) := by decide +kernel
theorem dX6_neediest_51 : decode cX6_neediest 51 = .ok (.iload 6, 2) := by decide +kernel
theorem dX6_neediest_53 : decode cX6_neediest 53 = .ok (.iload_n 2, 1) := by decide +kernel
theorem dX6_neediest_54 : decode cX6_neediest 54 = .ok (.if_icmp .ge 31, 3) := by decide +kernel
theorem dX6_neediest_57 : decode cX6_neediest 57 = .ok (.aload_n 0, 1) := by decide +kernel
theorem dX6_neediest_58 : decode cX6_neediest 58 = .ok (.iload 4, 2) := by decide +kernel
theorem dX6_neediest_60 : decode cX6_neediest 60 = .ok (.iload_n 3, 1) := by decide +kernel
theorem dX6_neediest_61 : decode cX6_neediest 61 = .ok (.iload 5, 2) := by decide +kernel
theorem dX6_neediest_63 : decode cX6_neediest 63 = .ok (.invokestatic 61, 3) := by decide +kernel
theorem dX6_neediest_66 : decode cX6_neediest 66 = .ok (.ifCond .eq 19, 3) := by decide +kernel
theorem dX6_neediest_69 : decode cX6_neediest 69 = .ok (.iload 6, 2) := by decide +kernel
theorem dX6_neediest_71 : decode cX6_neediest 71 = .ok (.istore_n 2, 1) := by decide +kernel
theorem dX6_neediest_72 : decode cX6_neediest 72 = .ok (.iload_n 3, 1) := by decide +kernel
theorem dX6_neediest_73 : decode cX6_neediest 73 = .ok (.iconst 4, 1) := by decide +kernel
theorem dX6_neediest_74 : decode cX6_neediest 74 = .ok (.imul, 1) := by decide +kernel
theorem dX6_neediest_75 : decode cX6_neediest 75 = .ok (.iload 4, 2) := by decide +kernel
theorem dX6_neediest_77 : decode cX6_neediest 77 = .ok (.iadd, 1) := by decide +kernel
theorem dX6_neediest_78 : decode cX6_neediest 78 = .ok (.bipush 8, 2) := by decide +kernel
theorem dX6_neediest_80 : decode cX6_neediest 80 = .ok (.imul, 1) := by decide +kernel
theorem dX6_neediest_81 : decode cX6_neediest 81 = .ok (.iload 5, 2) := by decide +kernel
theorem dX6_neediest_83 : decode cX6_neediest 83 = .ok (.iadd, 1) := by decide +kernel
theorem dX6_neediest_84 : decode cX6_neediest 84 = .ok (.istore_n 1, 1) := by decide +kernel
theorem dX6_neediest_85 : decode cX6_neediest 85 = .ok (.iinc 5 1, 3) := by decide +kernel
theorem dX6_neediest_88 : decode cX6_neediest 88 = .ok (.goto (-55), 3) := by decide +kernel
theorem dX6_neediest_91 : decode cX6_neediest 91 = .ok (.iinc 4 1, 3) := by decide +kernel
theorem dX6_neediest_94 : decode cX6_neediest 94 = .ok (.goto (-70), 3) := by decide +kernel
theorem dX6_neediest_97 : decode cX6_neediest 97 = .ok (.iinc 3 1, 3) := by decide +kernel
theorem dX6_neediest_100 : decode cX6_neediest 100 = .ok (.goto (-84), 3) := by decide +kernel
theorem dX6_neediest_103 : decode cX6_neediest 103 = .ok (.iload_n 1, 1) := by decide +kernel
theorem dX6_neediest_104 : decode cX6_neediest 104 = .ok (.ireturn, 1) := by decide +kernel
theorem dX6_canBePoured_0 : decode cX6_canBePoured 0 = .ok (.aload_n 0, 1) := by decide +kernel
theorem dX6_canBePoured_1 : decode cX6_canBePoured 1 = .ok (.iload_n 1, 1) := by decide +kernel
theorem dX6_canBePoured_2 : decode cX6_canBePoured 2 = .ok (.iload_n 2, 1) := by decide +kernel
theorem dX6_canBePoured_3 : decode cX6_canBePoured 3 = .ok (.iload_n 3, 1) := by decide +kernel
theorem dX6_canBePoured_4 : decode cX6_canBePoured 4 = .ok (.invokevirtual 25, 3) := by decide +kernel
theorem dX6_canBePoured_7 : decode cX6_canBePoured 7 = .ok (.istore 4, 2) := by decide +kernel
theorem dX6_canBePoured_9 : decode cX6_canBePoured 9 = .ok (.aload_n 0, 1) := by decide +kernel
theorem dX6_canBePoured_10 : decode cX6_canBePoured 10 = .ok (.iload_n 1, 1) := by decide +kernel
theorem dX6_canBePoured_11 : decode cX6_canBePoured 11 = .ok (.iload_n 2, 1) := by decide +kernel
theorem dX6_canBePoured_12 : decode cX6_canBePoured 12 = .ok (.iload_n 3, 1) := by decide +kernel
theorem dX6_canBePoured_13 : decode cX6_canBePoured 13 = .ok (.invokevirtual 19, 3) := by decide +kernel
theorem dX6_canBePoured_16 : decode cX6_canBePoured 16 = .ok (.istore 5, 2) := by decide +kernel
theorem dX6_canBePoured_18 : decode cX6_canBePoured 18 = .ok (.iload 4, 2) := by decide +kernel
theorem dX6_canBePoured_20 : decode cX6_canBePoured 20 = .ok (.invokestatic 65, 3) := by decide +kernel
theorem dX6_canBePoured_23 : decode cX6_canBePoured 23 = .ok (.ifCond .eq 19, 3) := by decide +kernel
theorem dX6_canBePoured_26 : decode cX6_canBePoured 26 = .ok (.iload 5, 2) := by decide +kernel
theorem dX6_canBePoured_28 : decode cX6_canBePoured 28 = .ok (.ifCond .eq 10, 3) := by decide +kernel
theorem dX6_canBePoured_31 : decode cX6_canBePoured 31 = .ok (.iload 5, 2) := by decide +kernel
theorem dX6_canBePoured_33 : decode cX6_canBePoured 33 = .ok (.iload 4, 2) := by decide +kernel
theorem dX6_canBePoured_35 : decode cX6_canBePoured 35 = .ok (.if_icmp .ne 7, 3) := by decide +kernel
theorem dX6_canBePoured_38 : decode cX6_canBePoured 38 = .ok (.iconst 1, 1) := by decide +kernel
theorem dX6_canBePoured_39 : decode cX6_canBePoured 39 = .ok (.goto 4, 3) := by decide +kernel
theorem dX6_canBePoured_42 : decode cX6_canBePoured 42 = .ok (.iconst 0, 1) := by decide +kernel
theorem dX6_canBePoured_43 : decode cX6_canBePoured 43 = .ok (.ireturn, 1) := by decide +kernel
theorem dX6_rightOnlyInFirst_0 : decode cX6_rightOnlyInFirst 0 = .ok (.iconst 0, 1) := by decide +kernel
theorem dX6_rightOnlyInFirst_1 : decode cX6_rightOnlyInFirst 1 = .ok (.istore_n 3, 1) := by decide +kernel
theorem dX6_rightOnlyInFirst_2 : decode cX6_rightOnlyInFirst 2 = .ok (.iconst 0, 1) := by decide +kernel
theorem dX6_rightOnlyInFirst_3 : decode cX6_rightOnlyInFirst 3 = .ok (.istore 4, 2) := by decide +kernel
theorem dX6_rightOnlyInFirst_5 : decode cX6_rightOnlyInFirst 5 = .ok (.iload 4, 2) := by decide +kernel
theorem dX6_rightOnlyInFirst_7 : decode cX6_rightOnlyInFirst 7 = .ok (.iconst 5, 1) := by decide +kernel
theorem dX6_rightOnlyInFirst_8 : decode cX6_rightOnlyInFirst 8 = .ok (.if_icmp .ge 52, 3) := by decide +kernel
theorem dX6_rightOnlyInFirst_11 : decode cX6_rightOnlyInFirst 11 = .ok (.iconst 0, 1) := by decide +kernel
theorem dX6_rightOnlyInFirst_12 : decode cX6_rightOnlyInFirst 12 = .ok (.istore 5, 2) := by decide +kernel
theorem dX6_rightOnlyInFirst_14 : decode cX6_rightOnlyInFirst 14 = .ok (.iload 5, 2) := by decide +kernel
theorem dX6_rightOnlyInFirst_16 : decode cX6_rightOnlyInFirst 16 = .ok (.bipush 8, 2) := by decide +kernel
theorem dX6_rightOnlyInFirst_18 : decode cX6_rightOnlyInFirst 18 = .ok (.if_icmp .ge 36, 3) := by decide +kernel
theorem dX6_rightOnlyInFirst_21 : decode cX6_rightOnlyInFirst 21 = .ok (.aload_n 0, 1) := by decide +kernel
theorem dX6_rightOnlyInFirst_22 : decode cX6_rightOnlyInFirst 22 = .ok (.iload_n 2, 1) := by decide +kernel
theorem dX6_rightOnlyInFirst_23 : decode cX6_rightOnlyInFirst 23 = .ok (.iload 4, 2) := by decide +kernel
theorem dX6_rightOnlyInFirst_25 : decode cX6_rightOnlyInFirst 25 = .ok (.iload 5, 2) := by decide +kernel
theorem dX6_rightOnlyInFirst_27 : decode cX6_rightOnlyInFirst 27 = .ok (.invokevirtual 28, 3) := by decide +kernel
theorem dX6_rightOnlyInFirst_30 : decode cX6_rightOnlyInFirst 30 = .ok (.ifCond .eq 18, 3) := by decide +kernel
theorem dX6_rightOnlyInFirst_33 : decode cX6_rightOnlyInFirst 33 = .ok (.aload_n 1, 1) := by decide +kernel
theorem dX6_rightOnlyInFirst_34 : decode cX6_rightOnlyInFirst 34 = .ok (.iload_n 2, 1) := by decide +kernel
theorem dX6_rightOnlyInFirst_35 : decode cX6_rightOnlyInFirst 35 = .ok (.iload 4, 2) := by decide +kernel
theorem dX6_rightOnlyInFirst_37 : decode cX6_rightOnlyInFirst 37 = .ok (.iload 5, 2) := by decide +kernel
theorem dX6_rightOnlyInFirst_39 : decode cX6_rightOnlyInFirst 39 = .ok (.invokevirtual 28, 3) := by decide +kernel
theorem dX6_rightOnlyInFirst_42 : decode cX6_rightOnlyInFirst 42 = .ok (.ifCond .ne 6, 3) := by decide +kernel
theorem dX6_rightOnlyInFirst_45 : decode cX6_rightOnlyInFirst 45 = .ok (.iinc 3 1, 3) := by decide +kernel
theorem dX6_rightOnlyInFirst_48 : decode cX6_rightOnlyInFirst 48 = .ok (.iinc 5 1, 3) := by decide +kernel
theorem dX6_rightOnlyInFirst_51 : decode cX6_rightOnlyInFirst 51 = .ok (.goto (-37), 3) := by decide +kernel
theorem dX6_rightOnlyInFirst_54 : decode cX6_rightOnlyInFirst 54 = .ok (.iinc 4 1, 3) := by decide +kernel
theorem dX6_rightOnlyInFirst_57 : decode cX6_rightOnlyInFirst 57 = .ok (.goto (-52), 3) := by decide +kernel
theorem dX6_rightOnlyInFirst_60 : decode cX6_rightOnlyInFirst 60 = .ok (.iload_n 3, 1) := by decide +kernel
theorem dX6_rightOnlyInFirst_61 : decode cX6_rightOnlyInFirst 61 = .ok (.ireturn, 1) := by decide +kernel
theorem dX7_init_0 : decode cX7_init 0 = .ok (.aload_n 0, 1) := by decide +kernel
theorem dX7_init_1 : decode cX7_init 1 = .ok (.invokespecial 1, 3) := by decide +kernel
theorem dX7_init_4 : decode cX7_init 4 = .ok (.aload_n 0, 1) := by decide +kernel
theorem dX7_init_5 : decode cX7_init 5 = .ok (.new 7, 3) := by decide +kernel
theorem dX7_init_8 : decode cX7_init 8 = .ok (.dup, 1) := by decide +kernel
theorem dX7_init_9 : decode cX7_init 9 = .ok (.invokespecial 9, 3) := by decide +kernel
theorem dX7_init_12 : decode cX7_init 12 = .ok (.putfield 10, 3) := by decide +kernel
theorem dX7_init_15 : decode cX7_init 15 = .ok (.aload_n 0, 1) := by decide +kernel
theorem dX7_init_16 : decode cX7_init 16 = .ok (.new 7, 3) := by decide +kernel
theorem dX7_init_19 : decode cX7_init 19 = .ok (.dup, 1) := by decide +kernel
theorem dX7_init_20 : decode cX7_init 20 = .ok (.invokespecial 9, 3) := by decide +kernel
theorem dX7_init_23 : decode cX7_init 23 = .ok (.putfield 16, 3) := by decide +kernel
theorem dX7_init_26 : decode cX7_init 26 = .ok (.aload_n 0, 1) := by decide +kernel
theorem dX7_init_27 : decode cX7_init 27 = .ok (.new 19, 3) := by decide +kernel
theorem dX7_init_30 : decode cX7_init 30 = .ok (.dup, 1) := by decide +kernel
theorem dX7_init_31 : decode cX7_init 31 = .ok (.invokespecial 21, 3) := by decide +kernel
theorem dX7_init_34 : decode cX7_init 34 = .ok (.putfield 22, 3) := by decide +kernel
theorem dX7_init_37 : decode cX7_init 37 = .ok (.aload_n 0, 1) := by decide +kernel
theorem dX7_init_38 : decode cX7_init 38 = .ok (.new 26, 3) := by decide +kernel
theorem dX7_init_41 : decode cX7_init 41 = .ok (.dup, 1) := by decide +kernel
theorem dX7_init_42 : decode cX7_init 42 = .ok (.invokespecial 28, 3) := by decide +kernel
theorem dX7_init_45 : decode cX7_init 45 = .ok (.putfield 29, 3) := by decide +kernel
theorem dX7_init_48 : decode cX7_init 48 = .ok (.aload_n 0, 1) := by decide +kernel
theorem dX7_init_49 : decode cX7_init 49 = .ok (.new 33, 3) := by decide +kernel
theorem dX7_init_52 : decode cX7_init 52 = .ok (.dup, 1) := by decide +kernel
theorem dX7_init_53 : decode cX7_init 53 = .ok (.invokespecial 35, 3) := by decide +kernel
theorem dX7_init_56 : decode cX7_init 56 = .ok (.putfield 36, 3) := by decide +kernel
theorem dX7_init_59 : decode cX7_init 59 = .ok (.return_, 1) := by decide +kernel
theorem dX7_set_0 : decode cX7_set 0 = .ok (.aload_n 0, 1) := by decide +kernel
theorem dX7_set_1 : decode cX7_set 1 = .ok (.getfield 29, 3) := by decide +kernel
theorem dX7_set_4 : decode cX7_set 4 = .ok (.aload_n 0, 1) := by decide +kernel
theorem dX7_set_5 : decode cX7_set 5 = .ok (.getfield 10, 3) := by decide +kernel
theorem dX7_set_8 : decode cX7_set 8 = .ok (.invokevirtual 40, 3) := by decide +kernel
theorem dX7_set_11 : decode cX7_set 11 = .ok (.aload_n 0, 1) := by decide +kernel
theorem dX7_set_12 : decode cX7_set 12 = .ok (.getfield 29, 3) := by decide +kernel
theorem dX7_set_15 : decode cX7_set 15 = .ok (.aload_n 0, 1) := by decide +kernel
theorem dX7_set_16 : decode cX7_set 16 = .ok (.getfield 10, 3) := by decide +kernel
theorem dX7_set_19 : decode cX7_set 19 = .ok (.iload_n 1, 1) := by decide +kernel
theorem dX7_set_20 : decode cX7_set 20 = .ok (.iload_n 2, 1) := by decide +kernel
theorem dX7_set_21 : decode cX7_set 21 = .ok (.invokestatic 44, 3) := by decide +kernel
theorem dX7_set_24 : decode cX7_set 24 = .ok (.invokevirtual 50, 3) := by decide +kernel
theorem dX7_set_27 : decode cX7_set 27 = .ok (.ireturn, 1) := by decide +kernel
theorem dX7_pattern_0 : decode cX7_pattern 0 = .ok (.aload_n 0, 1) := by decide +kernel
theorem dX7_pattern_1 : decode cX7_pattern 1 = .ok (.getfield 29, 3) := by decide +kernel
theorem dX7_pattern_4 : decode cX7_pattern 4 = .ok (.aload_n 0, 1) := by decide +kernel
theorem dX7_pattern_5 : decode cX7_pattern 5 = .ok (.getfield 10, 3) := by decide +kernel
theorem dX7_pattern_8 : decode cX7_pattern 8 = .ok (.invokevirtual 40, 3) := by decide +kernel
theorem dX7_pattern_11 : decode cX7_pattern 11 = .ok (.aload_n 0, 1) := by decide +kernel
theorem dX7_pattern_12 : decode cX7_pattern 12 = .ok (.getfield 29, 3) := by decide +kernel
theorem dX7_pattern_15 : decode cX7_pattern 15 = .ok (.aload_n 0, 1) := by decide +kernel
theorem dX7_pattern_16 : decode cX7_pattern 16 = .ok (.getfield 10, 3) := by decide +kernel
theorem dX7_pattern_19 : decode cX7_pattern 19 = .ok (.iload_n 1, 1) := by decide +kernel
theorem dX7_pattern_20 : decode cX7_pattern 20 = .ok (.iload_n 2, 1) := by decide +kernel
theorem dX7_pattern_21 : decode cX7_pattern 21 = .ok (.invokestatic 54, 3) := by decide +kernel
theorem dX7_pattern_24 : decode cX7_pattern 24 = .ok (.invokevirtual 50, 3) := by decide +kernel
theorem dX7_pattern_27 : decode cX7_pattern 27 = .ok (.ireturn, 1) := by decide +kernel
theorem dX7_take_0 : decode cX7_take 0 = .ok (.aload_n 0, 1) := by decide +kernel
theorem dX7_take_1 : decode cX7_take 1 = .ok (.getfield 29, 3) := by decide +kernel
theorem dX7_take_4 : decode cX7_take 4 = .ok (.aload_n 0, 1) := by decide +kernel
theorem dX7_take_5 : decode cX7_take 5 = .ok (.getfield 10, 3) := by decide +kernel
theorem dX7_take_8 : decode cX7_take 8 = .ok (.invokevirtual 40, 3) := by decide +kernel
theorem dX7_take_11 : decode cX7_take 11 = .ok (.aload_n 0, 1) := by decide +kernel
theorem dX7_take_12 : decode cX7_take 12 = .ok (.getfield 29, 3) := by decide +kernel
theorem dX7_take_15 : decode cX7_take 15 = .ok (.aload_n 0, 1) := by decide +kernel
theorem dX7_take_16 : decode cX7_take 16 = .ok (.getfield 10, 3) := by decide +kernel
theorem dX7_take_19 : decode cX7_take 19 = .ok (.iload_n 1, 1) := by decide +kernel
theorem dX7_take_20 : decode cX7_take 20 = .ok (.iload_n 2, 1) := by decide +kernel
theorem dX7_take_21 : decode cX7_take 21 = .ok (.invokestatic 57, 3) := by decide +kernel
theorem dX7_take_24 : decode cX7_take 24 = .ok (.invokevirtual 50, 3) := by decide +kernel
theorem dX7_take_27 : decode cX7_take 27 = .ok (.ireturn, 1) := by decide +kernel
theorem dX7_fill_0 : decode cX7_fill 0 = .ok (.aload_n 0, 1) := by decide +kernel
theorem dX7_fill_1 : decode cX7_fill 1 = .ok (.getfield 29, 3) := by decide +kernel
theorem dX7_fill_4 : decode cX7_fill 4 = .ok (.aload_n 0, 1) := by decide +kernel
theorem dX7_fill_5 : decode cX7_fill 5 = .ok (.getfield 10, 3) := by decide +kernel
theorem dX7_fill_8 : decode cX7_fill 8 = .ok (.invokevirtual 40, 3) := by decide +kernel
theorem dX7_fill_11 : decode cX7_fill 11 = .ok (.aload_n 0, 1) := by decide +kernel
theorem dX7_fill_12 : decode cX7_fill 12 = .ok (.getfield 29, 3) := by decide +kernel
theorem dX7_fill_15 : decode cX7_fill 15 = .ok (.aload_n 0, 1) := by decide +kernel
theorem dX7_fill_16 : decode cX7_fill 16 = .ok (.getfield 10, 3) := by decide +kernel
theorem dX7_fill_19 : decode cX7_fill 19 = .ok (.iload_n 1, 1) := by decide +kernel
theorem dX7_fill_20 : decode cX7_fill 20 = .ok (.iload_n 2, 1) := by decide +kernel
theorem dX7_fill_21 : decode cX7_fill 21 = .ok (.invokestatic 60, 3) := by decide +kernel
theorem dX7_fill_24 : decode cX7_fill 24 = .ok (.invokevirtual 50, 3) := by decide +kernel
theorem dX7_fill_27 : decode cX7_fill 27 = .ok (.ireturn, 1) := by decide +kernel
theorem dX7_pour_0 : decode cX7_pour 0 = .ok (.aload_n 0, 1) := by decide +kernel
theorem dX7_pour_1 : decode cX7_pour 1 = .ok (.getfield 29, 3) := by decide +kernel
theorem dX7_pour_4 : decode cX7_pour 4 = .ok (.aload_n 0, 1) := by decide +kernel
theorem dX7_pour_5 : decode cX7_pour 5 = .ok (.getfield 10, 3) := by decide +kernel
theorem dX7_pour_8 : decode cX7_pour 8 = .ok (.invokevirtual 40, 3) := by decide +kernel
theorem dX7_pour_11 : decode cX7_pour 11 = .ok (.aload_n 0, 1) := by decide +kernel
theorem dX7_pour_12 : decode cX7_pour 12 = .ok (.getfield 29, 3) := by decide +kernel
theorem dX7_pour_15 : decode cX7_pour 15 = .ok (.aload_n 0, 1) := by decide +kernel
theorem dX7_pour_16 : decode cX7_pour 16 = .ok (.getfield 10, 3) := by decide +kernel
theorem dX7_pour_19 : decode cX7_pour 19 = .ok (.iload_n 1, 1) := by decide +kernel
theorem dX7_pour_20 : decode cX7_pour 20 = .ok (.iload_n 2, 1) := by decide +kernel
theorem dX7_pour_21 : decode cX7_pour 21 = .ok (.iload_n 3, 1) := by decide +kernel
theorem dX7_pour_22 : decode cX7_pour 22 = .ok (.iload 4, 2) := by decide +kernel
theorem dX7_pour_24 : decode cX7_pour 24 = .ok (.invokestatic 63, 3) := by decide +kernel
theorem dX7_pour_27 : decode cX7_pour 27 = .ok (.invokevirtual 50, 3) := by decide +kernel
theorem dX7_pour_30 : decode cX7_pour 30 = .ok (.ireturn, 1) := by decide +kernel
theorem dX7_scrape_0 : decode cX7_scrape 0 = .ok (.aload_n 0, 1) := by decide +kernel
theorem dX7_scrape_1 : decode cX7_scrape 1 = .ok (.getfield 29, 3) := by decide +kernel
theorem dX7_scrape_4 : decode cX7_scrape 4 = .ok (.aload_n 0, 1) := by decide +kernel
theorem dX7_scrape_5 : decode cX7_scrape 5 = .ok (.getfield 10, 3) := by decide +kernel
theorem dX7_scrape_8 : decode cX7_scrape 8 = .ok (.invokevirtual 40, 3) := by decide +kernel
theorem dX7_scrape_11 : decode cX7_scrape 11 = .ok (.aload_n 0, 1) := by decide +kernel
theorem dX7_scrape_12 : decode cX7_scrape 12 = .ok (.getfield 29, 3) := by decide +kernel
theorem dX7_scrape_15 : decode cX7_scrape 15 = .ok (.aload_n 0, 1) := by decide +kernel
theorem dX7_scrape_16 : decode cX7_scrape 16 = .ok (.getfield 10, 3) := by decide +kernel
theorem dX7_scrape_19 : decode cX7_scrape 19 = .ok (.iload_n 1, 1) := by decide +kernel
theorem dX7_scrape_20 : decode cX7_scrape 20 = .ok (.iload_n 2, 1) := by decide +kernel
theorem dX7_scrape_21 : decode cX7_scrape 21 = .ok (.iload_n 3, 1) := by decide +kernel
theorem dX7_scrape_22 : decode cX7_scrape 22 = .ok (.invokestatic 67, 3) := by decide +kernel
theorem dX7_scrape_25 : decode cX7_scrape 25 = .ok (.invokevirtual 50, 3) := by decide +kernel
theorem dX7_scrape_28 : decode cX7_scrape 28 = .ok (.ireturn, 1) := by decide +kernel
theorem dX7_breathe_0 : decode cX7_breathe 0 = .ok (.aload_n 0, 1) := by decide +kernel
theorem dX7_breathe_1 : decode cX7_breathe 1 = .ok (.getfield 29, 3) := by decide +kernel
theorem dX7_breathe_4 : decode cX7_breathe 4 = .ok (.aload_n 0, 1) := by decide +kernel
theorem dX7_breathe_5 : decode cX7_breathe 5 = .ok (.getfield 10, 3) := by decide +kernel
theorem dX7_breathe_8 : decode cX7_breathe 8 = .ok (.invokevirtual 40, 3) := by decide +kernel
theorem dX7_breathe_11 : decode cX7_breathe 11 = .ok (.aload_n 0, 1) := by decide +kernel
theorem dX7_breathe_12 : decode cX7_breathe 12 = .ok (.getfield 29, 3) := by decide +kernel
theorem dX7_breathe_15 : decode cX7_breathe 15 = .ok (.aload_n 0, 1) := by decide +kernel
theorem dX7_breathe_16 : decode cX7_breathe 16 = .ok (.getfield 10, 3) := by decide +kernel
theorem dX7_breathe_19 : decode cX7_breathe 19 = .ok (.aload_n 0, 1) := by decide +kernel
theorem dX7_breathe_20 : decode cX7_breathe 20 = .ok (.getfield 22, 3) := by decide +kernel
theorem dX7_breathe_23 : decode cX7_breathe 23 = .ok (.iload_n 1, 1) := by decide +kernel
theorem dX7_breathe_24 : decode cX7_breathe 24 = .ok (.iload_n 2, 1) := by decide +kernel
theorem dX7_breathe_25 : decode cX7_breathe 25 = .ok (.invokestatic 71, 3) := by decide +kernel
theorem dX7_breathe_28 : decode cX7_breathe 28 = .ok (.invokevirtual 50, 3) := by decide +kernel
theorem dX7_breathe_31 : decode cX7_breathe 31 = .ok (.ireturn, 1) := by decide +kernel
theorem dX7_close_0 : decode cX7_close 0 = .ok (.aload_n 0, 1) := by decide +kernel
theorem dX7_close_1 : decode cX7_close 1 = .ok (.getfield 29, 3) := by decide +kernel
theorem dX7_close_4 : decode cX7_close 4 = .ok (.aload_n 0, 1) := by decide +kernel
theorem dX7_close_5 : decode cX7_close 5 = .ok (.getfield 10, 3) := by decide +kernel
theorem dX7_close_8 : decode cX7_close 8 = .ok (.invokevirtual 40, 3) := by decide +kernel
theorem dX7_close_11 : decode cX7_close 11 = .ok (.aload_n 0, 1) := by decide +kernel
theorem dX7_close_12 : decode cX7_close 12 = .ok (.getfield 29, 3) := by decide +kernel
theorem dX7_close_15 : decode cX7_close 15 = .ok (.aload_n 0, 1) := by decide +kernel
theorem dX7_close_16 : decode cX7_close 16 = .ok (.getfield 10, 3) := by decide +kernel
theorem dX7_close_19 : decode cX7_close 19 = .ok (.invokestatic 75, 3) := by decide +kernel
theorem dX7_close_22 : decode cX7_close 22 = .ok (.invokevirtual 50, 3) := by decide +kernel
theorem dX7_close_25 : decode cX7_close 25 = .ok (.ireturn, 1) := by decide +kernel
theorem dX7_sweep_0 : decode cX7_sweep 0 = .ok (.aload_n 0, 1) := by decide +kernel
theorem dX7_sweep_1 : decode cX7_sweep 1 = .ok (.getfield 29, 3) := by decide +kernel
theorem dX7_sweep_4 : decode cX7_sweep 4 = .ok (.aload_n 0, 1) := by decide +kernel
theorem dX7_sweep_5 : decode cX7_sweep 5 = .ok (.getfield 10, 3) := by decide +kernel
theorem dX7_sweep_8 : decode cX7_sweep 8 = .ok (.invokevirtual 40, 3) := by decide +kernel
theorem dX7_sweep_11 : decode cX7_sweep 11 = .ok (.aload_n 0, 1) := by decide +kernel
theorem dX7_sweep_12 : decode cX7_sweep 12 = .ok (.getfield 29, 3) := by decide +kernel
theorem dX7_sweep_15 : decode cX7_sweep 15 = .ok (.aload_n 0, 1) := by decide +kernel
theorem dX7_sweep_16 : decode cX7_sweep 16 = .ok (.getfield 10, 3) := by decide +kernel
theorem dX7_sweep_19 : decode cX7_sweep 19 = .ok (.invokestatic 79, 3) := by decide +kernel
theorem dX7_sweep_22 : decode cX7_sweep 22 = .ok (.invokevirtual 50, 3) := by decide +kernel
theorem dX7_sweep_25 : decode cX7_sweep 25 = .ok (.ireturn, 1) := by decide +kernel
theorem dX7_at_0 : decode cX7_at 0 = .ok (.iload_n 1, 1) := by decide +kernel
theorem dX7_at_1 : decode cX7_at 1 = .ok (.iload_n 2, 1) := by decide +kernel
theorem dX7_at_2 : decode cX7_at 2 = .ok (.iload_n 3, 1) := by decide +kernel
theorem dX7_at_3 : decode cX7_at 3 = .ok (.invokestatic 82, 3) := by decide +kernel
theorem dX7_at_6 : decode cX7_at 6 = .ok (.ifCond .ne 5, 3) := by decide +kernel
theorem dX7_at_9 : decode cX7_at 9 = .ok (.iconst (-1), 1) := by decide +kernel
theorem dX7_at_10 : decode cX7_at 10 = .ok (.ireturn, 1) := by decide +kernel
theorem dX7_at_11 : decode cX7_at 11 = .ok (.iload 4, 2) := by decide +kernel
theorem dX7_at_13 : decode cX7_at 13 = .ok (.tableswitch 92 0 4 #[35, 46, 57, 68, 82], 35) := by decide +kernel
theorem dX7_at_48 : decode cX7_at 48 = .ok (.aload_n 0, 1) := by decide +kernel
theorem dX7_at_49 : decode cX7_at 49 = .ok (.getfield 10, 3) := by decide +kernel
theorem dX7_at_52 : decode cX7_at 52 = .ok (.iload_n 1, 1) := by decide +kernel
theorem dX7_at_53 : decode cX7_at 53 = .ok (.iload_n 2, 1) := by decide +kernel
theorem dX7_at_54 : decode cX7_at 54 = .ok (.iload_n 3, 1) := by decide +kernel
theorem dX7_at_55 : decode cX7_at 55 = .ok (.invokevirtual 86, 3) := by decide +kernel
theorem dX7_at_58 : decode cX7_at 58 = .ok (.ireturn, 1) := by decide +kernel
theorem dX7_at_59 : decode cX7_at 59 = .ok (.aload_n 0, 1) := by decide +kernel
theorem dX7_at_60 : decode cX7_at 60 = .ok (.getfield 10, 3) := by decide +kernel
theorem dX7_at_63 : decode cX7_at 63 = .ok (.iload_n 1, 1) := by decide +kernel
theorem dX7_at_64 : decode cX7_at 64 = .ok (.iload_n 2, 1) := by decide +kernel
theorem dX7_at_65 : decode cX7_at 65 = .ok (.iload_n 3, 1) := by decide +kernel
theorem dX7_at_66 : decode cX7_at 66 = .ok (.invokevirtual 90, 3) := by decide +kernel
theorem dX7_at_69 : decode cX7_at 69 = .ok (.ireturn, 1) := by decide +kernel
theorem dX7_at_70 : decode cX7_at 70 = .ok (.aload_n 0, 1) := by decide +kernel
theorem dX7_at_71 : decode cX7_at 71 = .ok (.getfield 10, 3) := by decide +kernel
theorem dX7_at_74 : decode cX7_at 74 = .ok (.iload_n 1, 1) := by decide +kernel
theorem dX7_at_75 : decode cX7_at 75 = .ok (.iload_n 2, 1) := by decide +kernel
theorem dX7_at_76 : decode cX7_at 76 = .ok (.iload_n 3, 1) := by decide +kernel
theorem dX7_at_77 : decode cX7_at 77 = .ok (.invokevirtual 93, 3) := by decide +kernel
theorem dX7_at_80 : decode cX7_at 80 = .ok (.ireturn, 1) := by decide +kernel
theorem dX7_at_81 : decode cX7_at 81 = .ok (.aload_n 0, 1) := by decide +kernel
theorem dX7_at_82 : decode cX7_at 82 = .ok (.getfield 10, 3) := by decide +kernel
theorem dX7_at_85 : decode cX7_at 85 = .ok (.iload_n 1, 1) := by decide +kernel
theorem dX7_at_86 : decode cX7_at 86 = .ok (.iload_n 2, 1) := by decide +kernel
theorem dX7_at_87 : decode cX7_at 87 = .ok (.iload_n 3, 1) := by decide +kernel
theorem dX7_at_88 : decode cX7_at 88 = .ok (.invokevirtual 96, 3) := by decide +kernel
theorem dX7_at_91 : decode cX7_at 91 = .ok (.invokestatic 99, 3) := by decide +kernel
theorem dX7_at_94 : decode cX7_at 94 = .ok (.ireturn, 1) := by decide +kernel
theorem dX7_at_95 : decode cX7_at 95 = .ok (.aload_n 0, 1) := by decide +kernel
theorem dX7_at_96 : decode cX7_at 96 = .ok (.getfield 10, 3) := by decide +kernel
theorem dX7_at_99 : decode cX7_at 99 = .ok (.iload_n 1, 1) := by decide +kernel
theorem dX7_at_100 : decode cX7_at 100 = .ok (.iload_n 3, 1) := by decide +kernel
theorem dX7_at_101 : decode cX7_at 101 = .ok (.invokevirtual 103, 3) := by decide +kernel
theorem dX7_at_104 : decode cX7_at 104 = .ok (.ireturn, 1) := by decide +kernel
theorem dX7_at_105 : decode cX7_at 105 = .ok (.bipush (-2), 2) := by decide +kernel
theorem dX7_at_107 : decode cX7_at 107 = .ok (.ireturn, 1) := by decide +kernel
theorem dX7_ofRing_0 : decode cX7_ofRing 0 = .ok (.iload_n 1, 1) := by decide +kernel
theorem dX7_ofRing_1 : decode cX7_ofRing 1 = .ok (.invokestatic 107, 3) := by decide +kernel
theorem dX7_ofRing_4 : decode cX7_ofRing 4 = .ok (.ifCond .ne 5, 3) := by decide +kernel
theorem dX7_ofRing_7 : decode cX7_ofRing 7 = .ok (.iconst (-1), 1) := by decide +kernel
theorem dX7_ofRing_8 : decode cX7_ofRing 8 = .ok (.ireturn, 1) := by decide +kernel
theorem dX7_ofRing_9 : decode cX7_ofRing 9 = .ok (.iload_n 2, 1) := by decide +kernel
theorem dX7_ofRing_10 : decode cX7_ofRing 10 = .ok (.tableswitch 123 0 6 #[42, 54, 66, 78, 87, 99, 111], 42) := by decide +kernel
theorem dX7_ofRing_52 : decode cX7_ofRing 52 = .ok (.aload_n 0, 1) := by decide +kernel
theorem dX7_ofRing_53 : decode cX7_ofRing 53 = .ok (.getfield 10, 3) := by decide +kernel
theorem dX7_ofRing_56 : decode cX7_ofRing 56 = .ok (.iload_n 1, 1) := by decide +kernel
theorem dX7_ofRing_57 : decode cX7_ofRing 57 = .ok (.invokevirtual 111, 3) := by decide +kernel
theorem dX7_ofRing_60 : decode cX7_ofRing 60 = .ok (.invokestatic 99, 3) := by decide +kernel
theorem dX7_ofRing_63 : decode cX7_ofRing 63 = .ok (.ireturn, 1) := by decide +kernel
theorem dX7_ofRing_64 : decode cX7_ofRing 64 = .ok (.aload_n 0, 1) := by decide +kernel
theorem dX7_ofRing_65 : decode cX7_ofRing 65 = .ok (.getfield 10, 3) := by decide +kernel
theorem dX7_ofRing_68 : decode cX7_ofRing 68 = .ok (.iload_n 1, 1) := by decide +kernel
theorem dX7_ofRing_69 : decode cX7_ofRing 69 = .ok (.invokevirtual 114, 3) := by decide +kernel
theorem dX7_ofRing_72 : decode cX7_ofRing 72 = .ok (.invokestatic 99, 3) := by decide +kernel
theorem dX7_ofRing_75 : decode cX7_ofRing 75 = .ok (.ireturn, 1) := by decide +kernel
theorem dX7_ofRing_76 : decode cX7_ofRing 76 = .ok (.aload_n 0, 1) := by decide +kernel
theorem dX7_ofRing_77 : decode cX7_ofRing 77 = .ok (.getfield 10, 3) := by decide +kernel
theorem dX7_ofRing_80 : decode cX7_ofRing 80 = .ok (.iload_n 1, 1) := by decide +kernel
theorem dX7_ofRing_81 : decode cX7_ofRing 81 = .ok (.invokestatic 117, 3) := by decide +kernel
theorem dX7_ofRing_84 : decode cX7_ofRing 84 = .ok (.invokestatic 99, 3) := by decide +kernel
theorem dX7_ofRing_87 : decode cX7_ofRing 87 = .ok (.ireturn, 1) := by decide +kernel
theorem dX7_ofRing_88 : decode cX7_ofRing 88 = .ok (.aload_n 0, 1) := by decide +kernel
theorem dX7_ofRing_89 : decode cX7_ofRing 89 = .ok (.getfield 10, 3) := by decide +kernel
theorem dX7_ofRing_92 : decode cX7_ofRing 92 = .ok (.iload_n 1, 1) := by decide +kernel
theorem dX7_ofRing_93 : decode cX7_ofRing 93 = .ok (.invokestatic 123, 3) := by decide +kernel
theorem dX7_ofRing_96 : decode cX7_ofRing 96 = .ok (.ireturn, 1) := by decide +kernel
theorem dX7_ofRing_97 : decode cX7_ofRing 97 = .ok (.aload_n 0, 1) := by decide +kernel
theorem dX7_ofRing_98 : decode cX7_ofRing 98 = .ok (.getfield 10, 3) := by decide +kernel
theorem dX7_ofRing_101 : decode cX7_ofRing 101 = .ok (.iconst 2, 1) := by decide +kernel
theorem dX7_ofRing_102 : decode cX7_ofRing 102 = .ok (.iconst (-1), 1) := by decide +kernel
theorem dX7_ofRing_103 : decode cX7_ofRing 103 = .ok (.iconst (-1), 1) := by decide +kernel
theorem dX7_ofRing_104 : decode cX7_ofRing 104 = .ok (.iload_n 1, 1) := by decide +kernel
theorem dX7_ofRing_105 : decode cX7_ofRing 105 = .ok (.invokestatic 127, 3) := by decide +kernel
theorem dX7_ofRing_108 : decode cX7_ofRing 108 = .ok (.ireturn, 1) := by decide +kernel
theorem dX7_ofRing_109 : decode cX7_ofRing 109 = .ok (.aload_n 0, 1) := by decide +kernel
theorem dX7_ofRing_110 : decode cX7_ofRing 110 = .ok (.getfield 10, 3) := by decide +kernel
theorem dX7_ofRing_113 : decode cX7_ofRing 113 = .ok (.iconst 0, 1) := by decide +kernel
theorem dX7_ofRing_114 : decode cX7_ofRing 114 = .ok (.iconst (-1), 1) := by decide +kernel
theorem dX7_ofRing_115 : decode cX7_ofRing 115 = .ok (.iconst (-1), 1) := by decide +kernel
theorem dX7_ofRing_116 : decode cX7_ofRing 116 = .ok (.iload_n 1, 1) := by decide +kernel
theorem dX7_ofRing_117 : decode cX7_ofRing 117 = .ok (.invokestatic 127, 3) := by decide +kernel
theorem dX7_ofRing_120 : decode cX7_ofRing 120 = .ok (.ireturn, 1) := by decide +kernel
theorem dX7_ofRing_121 : decode cX7_ofRing 121 = .ok (.aload_n 0, 1) := by decide +kernel
theorem dX7_ofRing_122 : decode cX7_ofRing 122 = .ok (.getfield 10, 3) := by decide +kernel
theorem dX7_ofRing_125 : decode cX7_ofRing 125 = .ok (.iconst 5, 1) := by decide +kernel
theorem dX7_ofRing_126 : decode cX7_ofRing 126 = .ok (.iconst (-1), 1) := by decide +kernel
theorem dX7_ofRing_127 : decode cX7_ofRing 127 = .ok (.iconst (-1), 1) := by decide +kernel
theorem dX7_ofRing_128 : decode cX7_ofRing 128 = .ok (.iload_n 1, 1) := by decide +kernel
theorem dX7_ofRing_129 : decode cX7_ofRing 129 = .ok (.invokestatic 127, 3) := by decide +kernel
theorem dX7_ofRing_132 : decode cX7_ofRing 132 = .ok (.ireturn, 1) := by decide +kernel
theorem dX7_ofRing_133 : decode cX7_ofRing 133 = .ok (.bipush (-2), 2) := by decide +kernel
theorem dX7_ofRing_135 : decode cX7_ofRing 135 = .ok (.ireturn, 1) := by decide +kernel
theorem dX7_ofQuarter_0 : decode cX7_ofQuarter 0 = .ok (.iload_n 1, 1) := by decide +kernel
theorem dX7_ofQuarter_1 : decode cX7_ofQuarter 1 = .ok (.invokestatic 130, 3) := by decide +kernel
theorem dX7_ofQuarter_4 : decode cX7_ofQuarter 4 = .ok (.ifCond .ne 5, 3) := by decide +kernel
theorem dX7_ofQuarter_7 : decode cX7_ofQuarter 7 = .ok (.iconst (-1), 1) := by decide +kernel
theorem dX7_ofQuarter_8 : decode cX7_ofQuarter 8 = .ok (.ireturn, 1) := by decide +kernel
theorem dX7_ofQuarter_9 : decode cX7_ofQuarter 9 = .ok (.iload_n 2, 1) := by decide +kernel
theorem dX7_ofQuarter_10 : decode cX7_ofQuarter 10 = .ok (.tableswitch 91 0 4 #[34, 46, 58, 67, 79], 34) := by decide +kernel
theorem dX7_ofQuarter_44 : decode cX7_ofQuarter 44 = .ok (.aload_n 0, 1) := by decide +kernel
theorem dX7_ofQuarter_45 : decode cX7_ofQuarter 45 = .ok (.getfield 10, 3) := by decide +kernel
theorem dX7_ofQuarter_48 : decode cX7_ofQuarter 48 = .ok (.iconst 0, 1) := by decide +kernel
theorem dX7_ofQuarter_49 : decode cX7_ofQuarter 49 = .ok (.iconst (-1), 1) := by decide +kernel
theorem dX7_ofQuarter_50 : decode cX7_ofQuarter 50 = .ok (.iload_n 1, 1) := by decide +kernel
theorem dX7_ofQuarter_51 : decode cX7_ofQuarter 51 = .ok (.iconst (-1), 1) := by decide +kernel
theorem dX7_ofQuarter_52 : decode cX7_ofQuarter 52 = .ok (.invokestatic 127, 3) := by decide +kernel
theorem dX7_ofQuarter_55 : decode cX7_ofQuarter 55 = .ok (.ireturn, 1) := by decide +kernel
theorem dX7_ofQuarter_56 : decode cX7_ofQuarter 56 = .ok (.aload_n 0, 1) := by decide +kernel
theorem dX7_ofQuarter_57 : decode cX7_ofQuarter 57 = .ok (.getfield 10, 3) := by decide +kernel
theorem dX7_ofQuarter_60 : decode cX7_ofQuarter 60 = .ok (.iconst 3, 1) := by decide +kernel
theorem dX7_ofQuarter_61 : decode cX7_ofQuarter 61 = .ok (.iconst (-1), 1) := by decide +kernel
theorem dX7_ofQuarter_62 : decode cX7_ofQuarter 62 = .ok (.iload_n 1, 1) := by decide +kernel
theorem dX7_ofQuarter_63 : decode cX7_ofQuarter 63 = .ok (.iconst (-1), 1) := by decide +kernel
theorem dX7_ofQuarter_64 : decode cX7_ofQuarter 64 = .ok (.invokestatic 127, 3) := by decide +kernel
theorem dX7_ofQuarter_67 : decode cX7_ofQuarter 67 = .ok (.ireturn, 1) := by decide +kernel
theorem dX7_ofQuarter_68 : decode cX7_ofQuarter 68 = .ok (.aload_n 0, 1) := by decide +kernel
theorem dX7_ofQuarter_69 : decode cX7_ofQuarter 69 = .ok (.getfield 10, 3) := by decide +kernel
theorem dX7_ofQuarter_72 : decode cX7_ofQuarter 72 = .ok (.iload_n 1, 1) := by decide +kernel
theorem dX7_ofQuarter_73 : decode cX7_ofQuarter 73 = .ok (.invokevirtual 133, 3) := by decide +kernel
theorem dX7_ofQuarter_76 : decode cX7_ofQuarter 76 = .ok (.ireturn, 1) := by decide +kernel
theorem dX7_ofQuarter_77 : decode cX7_ofQuarter 77 = .ok (.aload_n 0, 1) := by decide +kernel
theorem dX7_ofQuarter_78 : decode cX7_ofQuarter 78 = .ok (.getfield 10, 3) := by decide +kernel
theorem dX7_ofQuarter_81 : decode cX7_ofQuarter 81 = .ok (.iload_n 1, 1) := by decide +kernel
theorem dX7_ofQuarter_82 : decode cX7_ofQuarter 82 = .ok (.invokevirtual 136, 3) := by decide +kernel
theorem dX7_ofQuarter_85 : decode cX7_ofQuarter 85 = .ok (.invokestatic 99, 3) := by decide +kernel
theorem dX7_ofQuarter_88 : decode cX7_ofQuarter 88 = .ok (.ireturn, 1) := by decide +kernel
theorem dX7_ofQuarter_89 : decode cX7_ofQuarter 89 = .ok (.aload_n 0, 1) := by decide +kernel
theorem dX7_ofQuarter_90 : decode cX7_ofQuarter 90 = .ok (.getfield 10, 3) := by decide +kernel
theorem dX7_ofQuarter_93 : decode cX7_ofQuarter 93 = .ok (.iload_n 1, 1) := by decide +kernel
theorem dX7_ofQuarter_94 : decode cX7_ofQuarter 94 = .ok (.invokevirtual 139, 3) := by decide +kernel
theorem dX7_ofQuarter_97 : decode cX7_ofQuarter 97 = .ok (.invokestatic 99, 3) := by decide +kernel
theorem dX7_ofQuarter_100 : decode cX7_ofQuarter 100 = .ok (.ireturn, 1) := by decide +kernel
theorem dX7_ofQuarter_101 : decode cX7_ofQuarter 101 = .ok (.iload_n 2, 1) := by decide +kernel
theorem dX7_ofQuarter_102 : decode cX7_ofQuarter 102 = .ok (.iconst 4, 1) := by decide +kernel
theorem dX7_ofQuarter_103 : decode cX7_ofQuarter 103 = .ok (.isub, 1) := by decide +kernel
theorem dX7_ofQuarter_104 : decode cX7_ofQuarter 104 = .ok (.istore_n 3, 1) := by decide +kernel
theorem dX7_ofQuarter_105 : decode cX7_ofQuarter 105 = .ok (.iload_n 3, 1) := by decide +kernel
theorem dX7_ofQuarter_106 : decode cX7_ofQuarter 106 = .ok (.invokestatic 142, 3) := by decide +kernel
theorem dX7_ofQuarter_109 : decode cX7_ofQuarter 109 = .ok (.ifCond .ne 6, 3) := by decide +kernel
theorem dX7_ofQuarter_112 : decode cX7_ofQuarter 112 = .ok (.bipush (-2), 2) := by decide +kernel
theorem dX7_ofQuarter_114 : decode cX7_ofQuarter 114 = .ok (.ireturn, 1) := by decide +kernel
theorem dX7_ofQuarter_115 : decode cX7_ofQuarter 115 = .ok (.aload_n 0, 1) := by decide +kernel
theorem dX7_ofQuarter_116 : decode cX7_ofQuarter 116 = .ok (.getfield 10, 3) := by decide +kernel
theorem dX7_ofQuarter_119 : decode cX7_ofQuarter 119 = .ok (.iconst 0, 1) := by decide +kernel
theorem dX7_ofQuarter_120 : decode cX7_ofQuarter 120 = .ok (.iload_n 3, 1) := by decide +kernel
theorem dX7_ofQuarter_121 : decode cX7_ofQuarter 121 = .ok (.iload_n 1, 1) := by decide +kernel
theorem dX7_ofQuarter_122 : decode cX7_ofQuarter 122 = .ok (.iconst (-1), 1) := by decide +kernel
theorem dX7_ofQuarter_123 : decode cX7_ofQuarter 123 = .ok (.invokestatic 127, 3) := by decide +kernel
theorem dX7_ofQuarter_126 : decode cX7_ofQuarter 126 = .ok (.ireturn, 1) := by decide +kernel
theorem dX7_ofColour_0 : decode cX7_ofColour 0 = .ok (.iload_n 1, 1) := by decide +kernel
theorem dX7_ofColour_1 : decode cX7_ofColour 1 = .ok (.invokestatic 142, 3) := by decide +kernel
theorem dX7_ofColour_4 : decode cX7_ofColour 4 = .ok (.ifCond .ne 5, 3) := by decide +kernel
theorem dX7_ofColour_7 : decode cX7_ofColour 7 = .ok (.iconst (-1), 1) := by decide +kernel
theorem dX7_ofColour_8 : decode cX7_ofColour 8 = .ok (.ireturn, 1) := by decide +kernel
theorem dX7_ofColour_9 : decode cX7_ofColour 9 = .ok (.iload_n 2, 1) := by decide +kernel
theorem dX7_ofColour_10 : decode cX7_ofColour 10 = .ok (.tableswitch 88 0 4 #[34, 43, 52, 64, 76], 34) := by decide +kernel
theorem dX7_ofColour_44 : decode cX7_ofColour 44 = .ok (.aload_n 0, 1) := by decide +kernel
theorem dX7_ofColour_45 : decode cX7_ofColour 45 = .ok (.getfield 10, 3) := by decide +kernel
theorem dX7_ofColour_48 : decode cX7_ofColour 48 = .ok (.iload_n 1, 1) := by decide +kernel
theorem dX7_ofColour_49 : decode cX7_ofColour 49 = .ok (.invokevirtual 145, 3) := by decide +kernel
theorem dX7_ofColour_52 : decode cX7_ofColour 52 = .ok (.ireturn, 1) := by decide +kernel
theorem dX7_ofColour_53 : decode cX7_ofColour 53 = .ok (.aload_n 0, 1) := by decide +kernel
theorem dX7_ofColour_54 : decode cX7_ofColour 54 = .ok (.getfield 10, 3) := by decide +kernel
theorem dX7_ofColour_57 : decode cX7_ofColour 57 = .ok (.iload_n 1, 1) := by decide +kernel
theorem dX7_ofColour_58 : decode cX7_ofColour 58 = .ok (.invokevirtual 148, 3) := by decide +kernel
theorem dX7_ofColour_61 : decode cX7_ofColour 61 = .ok (.ireturn, 1) := by decide +kernel
theorem dX7_ofColour_62 : decode cX7_ofColour 62 = .ok (.aload_n 0, 1) := by decide +kernel
theorem dX7_ofColour_63 : decode cX7_ofColour 63 = .ok (.getfield 10, 3) := by decide +kernel
theorem dX7_ofColour_66 : decode cX7_ofColour 66 = .ok (.iconst 0, 1) := by decide +kernel
theorem dX7_ofColour_67 : decode cX7_ofColour 67 = .ok (.iload_n 1, 1) := by decide +kernel
theorem dX7_ofColour_68 : decode cX7_ofColour 68 = .ok (.iconst (-1), 1) := by decide +kernel
theorem dX7_ofColour_69 : decode cX7_ofColour 69 = .ok (.iconst (-1), 1) := by decide +kernel
theorem dX7_ofColour_70 : decode cX7_ofColour 70 = .ok (.invokestatic 127, 3) := by decide +kernel
theorem dX7_ofColour_73 : decode cX7_ofColour 73 = .ok (.ireturn, 1) := by decide +kernel
theorem dX7_ofColour_74 : decode cX7_ofColour 74 = .ok (.aload_n 0, 1) := by decide +kernel
theorem dX7_ofColour_75 : decode cX7_ofColour 75 = .ok (.getfield 10, 3) := by decide +kernel
theorem dX7_ofColour_78 : decode cX7_ofColour 78 = .ok (.iconst 4, 1) := by decide +kernel
theorem dX7_ofColour_79 : decode cX7_ofColour 79 = .ok (.iload_n 1, 1) := by decide +kernel
theorem dX7_ofColour_80 : decode cX7_ofColour 80 = .ok (.iconst (-1), 1) := by decide +kernel
theorem dX7_ofColour_81 : decode cX7_ofColour 81 = .ok (.iconst (-1), 1) := by decide +kernel
theorem dX7_ofColour_82 : decode cX7_ofColour 82 = .ok (.invokestatic 127, 3) := by decide +kernel
theorem dX7_ofColour_85 : decode cX7_ofColour 85 = .ok (.ireturn, 1) := by decide +kernel
theorem dX7_ofColour_86 : decode cX7_ofColour 86 = .ok (.aload_n 0, 1) := by decide +kernel
theorem dX7_ofColour_87 : decode cX7_ofColour 87 = .ok (.getfield 10, 3) := by decide +kernel
theorem dX7_ofColour_90 : decode cX7_ofColour 90 = .ok (.iconst 5, 1) := by decide +kernel
theorem dX7_ofColour_91 : decode cX7_ofColour 91 = .ok (.iload_n 1, 1) := by decide +kernel
theorem dX7_ofColour_92 : decode cX7_ofColour 92 = .ok (.iconst (-1), 1) := by decide +kernel
theorem dX7_ofColour_93 : decode cX7_ofColour 93 = .ok (.iconst (-1), 1) := by decide +kernel
theorem dX7_ofColour_94 : decode cX7_ofColour 94 = .ok (.invokestatic 127, 3) := by decide +kernel
theorem dX7_ofColour_97 : decode cX7_ofColour 97 = .ok (.ireturn, 1) := by decide +kernel
theorem dX7_ofColour_98 : decode cX7_ofColour 98 = .ok (.bipush (-2), 2) := by decide +kernel
theorem dX7_ofColour_100 : decode cX7_ofColour 100 = .ok (.ireturn, 1) := by decide +kernel
theorem dX7_count_0 : decode cX7_count 0 = .ok (.iload_n 1, 1) := by decide +kernel
theorem dX7_count_1 : decode cX7_count 1 = .ok (.tableswitch 176 0 11 #[63, 73, 83, 93, 103, 115, 123, 133, 142, 151, 160, 168], 63) := by decide +kernel
theorem dX7_count_64 : decode cX7_count 64 = .ok (.aload_n 0, 1) := by decide +kernel
theorem dX7_count_65 : decode cX7_count 65 = .ok (.getfield 10, 3) := by decide +kernel
theorem dX7_count_68 : decode cX7_count 68 = .ok (.bipush 19, 2) := by decide +kernel
theorem dX7_count_70 : decode cX7_count 70 = .ok (.invokevirtual 151, 3) := by decide +kernel
theorem dX7_count_73 : decode cX7_count 73 = .ok (.ireturn, 1) := by decide +kernel
theorem dX7_count_74 : decode cX7_count 74 = .ok (.aload_n 0, 1) := by decide +kernel
theorem dX7_count_75 : decode cX7_count 75 = .ok (.getfield 10, 3) := by decide +kernel
theorem dX7_count_78 : decode cX7_count 78 = .ok (.bipush 21, 2) := by decide +kernel
theorem dX7_count_80 : decode cX7_count 80 = .ok (.invokevirtual 151, 3) := by decide +kernel
theorem dX7_count_83 : decode cX7_count 83 = .ok (.ireturn, 1) := by decide +kernel
theorem dX7_count_84 : decode cX7_count 84 = .ok (.aload_n 0, 1) := by decide +kernel
theorem dX7_count_85 : decode cX7_count 85 = .ok (.getfield 10, 3) := by decide +kernel
theorem dX7_count_88 : decode cX7_count 88 = .ok (.bipush 22, 2) := by decide +kernel
theorem dX7_count_90 : decode cX7_count 90 = .ok (.invokevirtual 151, 3) := by decide +kernel
theorem dX7_count_93 : decode cX7_count 93 = .ok (.ireturn, 1) := by decide +kernel
theorem dX7_count_94 : decode cX7_count 94 = .ok (.aload_n 0, 1) := by decide +kernel
theorem dX7_count_95 : decode cX7_count 95 = .ok (.getfield 10, 3) := by decide +kernel
theorem dX7_count_98 : decode cX7_count 98 = .ok (.bipush 23, 2) := by decide +kernel
theorem dX7_count_100 : decode cX7_count 100 = .ok (.invokevirtual 151, 3) := by decide +kernel
theorem dX7_count_103 : decode cX7_count 103 = .ok (.ireturn, 1) := by decide +kernel
theorem dX7_count_104 : decode cX7_count 104 = .ok (.aload_n 0, 1) := by decide +kernel
theorem dX7_count_105 : decode cX7_count 105 = .ok (.getfield 10, 3) := by decide +kernel
theorem dX7_count_108 : decode cX7_count 108 = .ok (.iconst 0, 1) := by decide +kernel
theorem dX7_count_109 : decode cX7_count 109 = .ok (.iconst (-1), 1) := by decide +kernel
theorem dX7_count_110 : decode cX7_count 110 = .ok (.iconst (-1), 1) := by decide +kernel
theorem dX7_count_111 : decode cX7_count 111 = .ok (.iconst (-1), 1) := by decide +kernel
theorem dX7_count_112 : decode cX7_count 112 = .ok (.invokestatic 127, 3) := by decide +kernel
theorem dX7_count_115 : decode cX7_count 115 = .ok (.ireturn, 1) := by decide +kernel
theorem dX7_count_116 : decode cX7_count 116 = .ok (.aload_n 0, 1) := by decide +kernel
theorem dX7_count_117 : decode cX7_count 117 = .ok (.getfield 10, 3) := by decide +kernel
theorem dX7_count_120 : decode cX7_count 120 = .ok (.invokestatic 154, 3) := by decide +kernel
theorem dX7_count_123 : decode cX7_count 123 = .ok (.ireturn, 1) := by decide +kernel
theorem dX7_count_124 : decode cX7_count 124 = .ok (.aload_n 0, 1) := by decide +kernel
theorem dX7_count_125 : decode cX7_count 125 = .ok (.getfield 10, 3) := by decide +kernel
theorem dX7_count_128 : decode cX7_count 128 = .ok (.bipush 20, 2) := by decide +kernel
theorem dX7_count_130 : decode cX7_count 130 = .ok (.invokevirtual 151, 3) := by decide +kernel
theorem dX7_count_133 : decode cX7_count 133 = .ok (.ireturn, 1) := by decide +kernel
theorem dX7_count_134 : decode cX7_count 134 = .ok (.aload_n 0, 1) := by decide +kernel
theorem dX7_count_135 : decode cX7_count 135 = .ok (.getfield 10, 3) := by decide +kernel
theorem dX7_count_138 : decode cX7_count 138 = .ok (.iconst 0, 1) := by decide +kernel
theorem dX7_count_139 : decode cX7_count 139 = .ok (.invokevirtual 157, 3) := by decide +kernel
theorem dX7_count_142 : decode cX7_count 142 = .ok (.ireturn, 1) := by decide +kernel
theorem dX7_count_143 : decode cX7_count 143 = .ok (.aload_n 0, 1) := by decide +kernel
theorem dX7_count_144 : decode cX7_count 144 = .ok (.getfield 10, 3) := by decide +kernel
theorem dX7_count_147 : decode cX7_count 147 = .ok (.iconst 1, 1) := by decide +kernel
theorem dX7_count_148 : decode cX7_count 148 = .ok (.invokevirtual 157, 3) := by decide +kernel
theorem dX7_count_151 : decode cX7_count 151 = .ok (.ireturn, 1) := by decide +kernel
theorem dX7_count_152 : decode cX7_count 152 = .ok (.aload_n 0, 1) := by decide +kernel
theorem dX7_count_153 : decode cX7_count 153 = .ok (.getfield 10, 3) := by decide +kernel
theorem dX7_count_156 : decode cX7_count 156 = .ok (.iconst 2, 1) := by decide +kernel
theorem dX7_count_157 : decode cX7_count 157 = .ok (.invokevirtual 157, 3) := by decide +kernel
theorem dX7_count_160 : decode cX7_count 160 = .ok (.ireturn, 1) := by decide +kernel
theorem dX7_count_161 : decode cX7_count 161 = .ok (.aload_n 0, 1) := by decide +kernel
theorem dX7_count_162 : decode cX7_count 162 = .ok (.getfield 36, 3) := by decide +kernel
theorem dX7_count_165 : decode cX7_count 165 = .ok (.invokevirtual 160, 3) := by decide +kernel
theorem dX7_count_168 : decode cX7_count 168 = .ok (.ireturn, 1) := by decide +kernel
theorem dX7_count_169 : decode cX7_count 169 = .ok (.aload_n 0, 1) := by decide +kernel
theorem dX7_count_170 : decode cX7_count 170 = .ok (.getfield 29, 3) := by decide +kernel
theorem dX7_count_173 : decode cX7_count 173 = .ok (.invokevirtual 164, 3) := by decide +kernel
theorem dX7_count_176 : decode cX7_count 176 = .ok (.ireturn, 1) := by decide +kernel
theorem dX7_count_177 : decode cX7_count 177 = .ok (.bipush (-2), 2) := by decide +kernel
theorem dX7_count_179 : decode cX7_count 179 = .ok (.ireturn, 1) := by decide +kernel
theorem dX7_needed_0 : decode cX7_needed 0 = .ok (.iload_n 1, 1) := by decide +kernel
theorem dX7_needed_1 : decode cX7_needed 1 = .ok (.ifCond .lt 8, 3) := by decide +kernel
theorem dX7_needed_4 : decode cX7_needed 4 = .ok (.iload_n 1, 1) := by decide +kernel
theorem dX7_needed_5 : decode cX7_needed 5 = .ok (.iconst 4, 1) := by decide +kernel
theorem dX7_needed_6 : decode cX7_needed 6 = .ok (.if_icmp .le 6, 3) := by decide +kernel
theorem dX7_needed_9 : decode cX7_needed 9 = .ok (.bipush (-2), 2) := by decide +kernel
theorem dX7_needed_11 : decode cX7_needed 11 = .ok (.ireturn, 1) := by decide +kernel
theorem dX7_needed_12 : decode cX7_needed 12 = .ok (.aload_n 0, 1) := by decide +kernel
theorem dX7_needed_13 : decode cX7_needed 13 = .ok (.getfield 10, 3) := by decide +kernel
theorem dX7_needed_16 : decode cX7_needed 16 = .ok (.invokestatic 167, 3) := by decide +kernel
theorem dX7_needed_19 : decode cX7_needed 19 = .ok (.istore_n 2, 1) := by decide +kernel
theorem dX7_needed_20 : decode cX7_needed 20 = .ok (.iload_n 2, 1) := by decide +kernel
theorem dX7_needed_21 : decode cX7_needed 21 = .ok (.bipush (-6), 2) := by decide +kernel
theorem dX7_needed_23 : decode cX7_needed 23 = .ok (.if_icmp .ne 6, 3) := by decide +kernel
theorem dX7_needed_26 : decode cX7_needed 26 = .ok (.bipush (-6), 2) := by decide +kernel
theorem dX7_needed_28 : decode cX7_needed 28 = .ok (.ireturn, 1) := by decide +kernel
theorem dX7_needed_29 : decode cX7_needed 29 = .ok (.iload_n 2, 1) := by decide +kernel
theorem dX7_needed_30 : decode cX7_needed 30 = .ok (.bipush 8, 2) := by decide +kernel
theorem dX7_needed_32 : decode cX7_needed 32 = .ok (.idiv, 1) := by decide +kernel
theorem dX7_needed_33 : decode cX7_needed 33 = .ok (.iconst 4, 1) := by decide +kernel
theorem dX7_needed_34 : decode cX7_needed 34 = .ok (.irem, 1) := by decide +kernel
theorem dX7_needed_35 : decode cX7_needed 35 = .ok (.istore_n 3, 1) := by decide +kernel
theorem dX7_needed_36 : decode cX7_needed 36 = .ok (.iload_n 2, 1) := by decide +kernel
theorem dX7_needed_37 : decode cX7_needed 37 = .ok (.bipush 8, 2) := by decide +kernel
theorem dX7_needed_39 : decode cX7_needed 39 = .ok (.idiv, 1) := by decide +kernel
theorem dX7_needed_40 : decode cX7_needed 40 = .ok (.iconst 4, 1) := by decide +kernel
theorem dX7_needed_41 : decode cX7_needed 41 = .ok (.idiv, 1) := by decide +kernel
theorem dX7_needed_42 : decode cX7_needed 42 = .ok (.istore 4, 2) := by decide +kernel
theorem dX7_needed_44 : decode cX7_needed 44 = .ok (.iload_n 2, 1) := by decide +kernel
theorem dX7_needed_45 : decode cX7_needed 45 = .ok (.bipush 8, 2) := by decide +kernel
theorem dX7_needed_47 : decode cX7_needed 47 = .ok (.irem, 1) := by decide +kernel
theorem dX7_needed_48 : decode cX7_needed 48 = .ok (.istore 5, 2) := by decide +kernel
theorem dX7_needed_50 : decode cX7_needed 50 = .ok (.iload_n 1, 1) := by decide +kernel
theorem dX7_needed_51 : decode cX7_needed 51 = .ok (.tableswitch 50 0 3 #[29, 31, 34, 37], 29) := by decide +kernel
theorem dX7_needed_80 : decode cX7_needed 80 = .ok (.iload_n 3, 1) := by decide +kernel
theorem dX7_needed_81 : decode cX7_needed 81 = .ok (.ireturn, 1) := by decide +kernel
theorem dX7_needed_82 : decode cX7_needed 82 = .ok (.iload 4, 2) := by decide +kernel
theorem dX7_needed_84 : decode cX7_needed 84 = .ok (.ireturn, 1) := by decide +kernel
theorem dX7_needed_85 : decode cX7_needed 85 = .ok (.iload 5, 2) := by decide +kernel
theorem dX7_needed_87 : decode cX7_needed 87 = .ok (.ireturn, 1) := by decide +kernel
theorem dX7_needed_88 : decode cX7_needed 88 = .ok (.aload_n 0, 1) := by decide +kernel
theorem dX7_needed_89 : decode cX7_needed 89 = .ok (.getfield 10, 3) := by decide +kernel
theorem dX7_needed_92 : decode cX7_needed 92 = .ok (.iload_n 3, 1) := by decide +kernel
theorem dX7_needed_93 : decode cX7_needed 93 = .ok (.iload 4, 2) := by decide +kernel
theorem dX7_needed_95 : decode cX7_needed 95 = .ok (.iload 5, 2) := by decide +kernel
theorem dX7_needed_97 : decode cX7_needed 97 = .ok (.invokevirtual 93, 3) := by decide +kernel
theorem dX7_needed_100 : decode cX7_needed 100 = .ok (.ireturn, 1) := by decide +kernel
theorem dX7_needed_101 : decode cX7_needed 101 = .ok (.aload_n 0, 1) := by decide +kernel
theorem dX7_needed_102 : decode cX7_needed 102 = .ok (.getfield 10, 3) := by decide +kernel
theorem dX7_needed_105 : decode cX7_needed 105 = .ok (.iload_n 3, 1) := by decide +kernel
theorem dX7_needed_106 : decode cX7_needed 106 = .ok (.iload 4, 2) := by decide +kernel
theorem dX7_needed_108 : decode cX7_needed 108 = .ok (.iload 5, 2) := by decide +kernel
theorem dX7_needed_110 : decode cX7_needed 110 = .ok (.invokevirtual 170, 3) := by decide +kernel
theorem dX7_needed_113 : decode cX7_needed 113 = .ok (.ireturn, 1) := by decide +kernel
theorem dX7_lacking_0 : decode cX7_lacking 0 = .ok (.iconst 0, 1) := by decide +kernel
theorem dX7_lacking_1 : decode cX7_lacking 1 = .ok (.istore_n 1, 1) := by decide +kernel
theorem dX7_lacking_2 : decode cX7_lacking 2 = .ok (.iconst 1, 1) := by decide +kernel
theorem dX7_lacking_3 : decode cX7_lacking 3 = .ok (.istore_n 2, 1) := by decide +kernel
theorem dX7_lacking_4 : decode cX7_lacking 4 = .ok (.iload_n 2, 1) := by decide +kernel
theorem dX7_lacking_5 : decode cX7_lacking 5 = .ok (.bipush 6, 2) := by decide +kernel
theorem dX7_lacking_7 : decode cX7_lacking 7 = .ok (.if_icmp .gt 39, 3) := by decide +kernel
theorem dX7_lacking_10 : decode cX7_lacking 10 = .ok (.aload_n 0, 1) := by decide +kernel
theorem dX7_lacking_11 : decode cX7_lacking 11 = .ok (.getfield 10, 3) := by decide +kernel
theorem dX7_lacking_14 : decode cX7_lacking 14 = .ok (.iconst 5, 1) := by decide +kernel
theorem dX7_lacking_15 : decode cX7_lacking 15 = .ok (.iload_n 2, 1) := by decide +kernel
theorem dX7_lacking_16 : decode cX7_lacking 16 = .ok (.iconst (-1), 1) := by decide +kernel
theorem dX7_lacking_17 : decode cX7_lacking 17 = .ok (.iconst (-1), 1) := by decide +kernel
theorem dX7_lacking_18 : decode cX7_lacking 18 = .ok (.invokestatic 127, 3) := by decide +kernel
theorem dX7_lacking_21 : decode cX7_lacking 21 = .ok (.istore_n 3, 1) := by decide +kernel
theorem dX7_lacking_22 : decode cX7_lacking 22 = .ok (.iload_n 3, 1) := by decide +kernel
theorem dX7_lacking_23 : decode cX7_lacking 23 = .ok (.aload_n 0, 1) := by decide +kernel
theorem dX7_lacking_24 : decode cX7_lacking 24 = .ok (.getfield 10, 3) := by decide +kernel
theorem dX7_lacking_27 : decode cX7_lacking 27 = .ok (.iload_n 2, 1) := by decide +kernel
theorem dX7_lacking_28 : decode cX7_lacking 28 = .ok (.invokevirtual 145, 3) := by decide +kernel
theorem dX7_lacking_31 : decode cX7_lacking 31 = .ok (.if_icmp .le 9, 3) := by decide +kernel
theorem dX7_lacking_34 : decode cX7_lacking 34 = .ok (.iload_n 1, 1) := by decide +kernel
theorem dX7_lacking_35 : decode cX7_lacking 35 = .ok (.iconst 1, 1) := by decide +kernel
theorem dX7_lacking_36 : decode cX7_lacking 36 = .ok (.iload_n 2, 1) := by decide +kernel
theorem dX7_lacking_37 : decode cX7_lacking 37 = .ok (.ishl, 1) := by decide +kernel
theorem dX7_lacking_38 : decode cX7_lacking 38 = .ok (.ior, 1) := by decide +kernel
theorem dX7_lacking_39 : decode cX7_lacking 39 = .ok (.istore_n 1, 1) := by decide +kernel
theorem dX7_lacking_40 : decode cX7_lacking 40 = .ok (.iinc 2 1, 3) := by decide +kernel
theorem dX7_lacking_43 : decode cX7_lacking 43 = .ok (.goto (-39), 3) := by decide +kernel
theorem dX7_lacking_46 : decode cX7_lacking 46 = .ok (.iload_n 1, 1) := by decide +kernel
theorem dX7_lacking_47 : decode cX7_lacking 47 = .ok (.ireturn, 1) := by decide +kernel
theorem dX7_ifBreathed_0 : decode cX7_ifBreathed 0 = .ok (.iload_n 1, 1) := by decide +kernel
theorem dX7_ifBreathed_1 : decode cX7_ifBreathed 1 = .ok (.invokestatic 130, 3) := by decide +kernel
theorem dX7_ifBreathed_4 : decode cX7_ifBreathed 4 = .ok (.ifCond .ne 5, 3) := by decide +kernel
theorem dX7_ifBreathed_7 : decode cX7_ifBreathed 7 = .ok (.iconst (-1), 1) := by decide +kernel
theorem dX7_ifBreathed_8 : decode cX7_ifBreathed 8 = .ok (.ireturn, 1) := by decide +kernel
theorem dX7_ifBreathed_9 : decode cX7_ifBreathed 9 = .ok (.iload_n 2, 1) := by decide +kernel
theorem dX7_ifBreathed_10 : decode cX7_ifBreathed 10 = .ok (.invokestatic 173, 3) := by decide +kernel
theorem dX7_ifBreathed_13 : decode cX7_ifBreathed 13 = .ok (.ifCond .eq 12, 3) := by decide +kernel
theorem dX7_ifBreathed_16 : decode cX7_ifBreathed 16 = .ok (.iload_n 3, 1) := by decide +kernel
theorem dX7_ifBreathed_17 : decode cX7_ifBreathed 17 = .ok (.ifCond .lt 8, 3) := by decide +kernel
theorem dX7_ifBreathed_20 : decode cX7_ifBreathed 20 = .ok (.iload_n 3, 1) := by decide +kernel
theorem dX7_ifBreathed_21 : decode cX7_ifBreathed 21 = .ok (.iconst 2, 1) := by decide +kernel
theorem dX7_ifBreathed_22 : decode cX7_ifBreathed 22 = .ok (.if_icmp .le 6, 3) := by decide +kernel
theorem dX7_ifBreathed_25 : decode cX7_ifBreathed 25 = .ok (.bipush (-2), 2) := by decide +kernel
theorem dX7_ifBreathed_27 : decode cX7_ifBreathed 27 = .ok (.ireturn, 1) := by decide +kernel
theorem dX7_ifBreathed_28 : decode cX7_ifBreathed 28 = .ok (.aload_n 0, 1) := by decide +kernel
theorem dX7_ifBreathed_29 : decode cX7_ifBreathed 29 = .ok (.getfield 16, 3) := by decide +kernel
theorem dX7_ifBreathed_32 : decode cX7_ifBreathed 32 = .ok (.aload_n 0, 1) := by decide +kernel
theorem dX7_ifBreathed_33 : decode cX7_ifBreathed 33 = .ok (.getfield 10, 3) := by decide +kernel
theorem dX7_ifBreathed_36 : decode cX7_ifBreathed 36 = .ok (.invokevirtual 176, 3) := by decide +kernel
theorem dX7_ifBreathed_39 : decode cX7_ifBreathed 39 = .ok (.aload_n 0, 1) := by decide +kernel
theorem dX7_ifBreathed_40 : decode cX7_ifBreathed 40 = .ok (.getfield 22, 3) := by decide +kernel
theorem dX7_ifBreathed_43 : decode cX7_ifBreathed 43 = .ok (.aload_n 0, 1) := by decide +kernel
theorem dX7_ifBreathed_44 : decode cX7_ifBreathed 44 = .ok (.getfield 16, 3) := by decide +kernel
theorem dX7_ifBreathed_47 : decode cX7_ifBreathed 47 = .ok (.iload_n 1, 1) := by decide +kernel
theorem dX7_ifBreathed_48 : decode cX7_ifBreathed 48 = .ok (.iload_n 2, 1) := by decide +kernel
theorem dX7_ifBreathed_49 : decode cX7_ifBreathed 49 = .ok (.invokevirtual 179, 3) := by decide +kernel
theorem dX7_ifBreathed_52 : decode cX7_ifBreathed 52 = .ok (.istore 4, 2) := by decide +kernel
theorem dX7_ifBreathed_54 : decode cX7_ifBreathed 54 = .ok (.iload_n 3, 1) := by decide +kernel
theorem dX7_ifBreathed_55 : decode cX7_ifBreathed 55 = .ok (.lookupswitch 41 #[(0, 25), (1, 28)], 25) := by decide +kernel
theorem dX7_ifBreathed_80 : decode cX7_ifBreathed 80 = .ok (.iload 4, 2) := by decide +kernel
theorem dX7_ifBreathed_82 : decode cX7_ifBreathed 82 = .ok (.ireturn, 1) := by decide +kernel
theorem dX7_ifBreathed_83 : decode cX7_ifBreathed 83 = .ok (.aload_n 0, 1) := by decide +kernel
theorem dX7_ifBreathed_84 : decode cX7_ifBreathed 84 = .ok (.getfield 10, 3) := by decide +kernel
theorem dX7_ifBreathed_87 : decode cX7_ifBreathed 87 = .ok (.aload_n 0, 1) := by decide +kernel
theorem dX7_ifBreathed_88 : decode cX7_ifBreathed 88 = .ok (.getfield 16, 3) := by decide +kernel
theorem dX7_ifBreathed_91 : decode cX7_ifBreathed 91 = .ok (.iload_n 1, 1) := by decide +kernel
theorem dX7_ifBreathed_92 : decode cX7_ifBreathed 92 = .ok (.invokestatic 182, 3) := by decide +kernel
theorem dX7_ifBreathed_95 : decode cX7_ifBreathed 95 = .ok (.ireturn, 1) := by decide +kernel
theorem dX7_ifBreathed_96 : decode cX7_ifBreathed 96 = .ok (.aload_n 0, 1) := by decide +kernel
theorem dX7_ifBreathed_97 : decode cX7_ifBreathed 97 = .ok (.getfield 16, 3) := by decide +kernel
theorem dX7_ifBreathed_100 : decode cX7_ifBreathed 100 = .ok (.aload_n 0, 1) := by decide +kernel
theorem dX7_ifBreathed_101 : decode cX7_ifBreathed 101 = .ok (.getfield 10, 3) := by decide +kernel
theorem dX7_ifBreathed_104 : decode cX7_ifBreathed 104 = .ok (.iload_n 1, 1) := by decide +kernel
theorem dX7_ifBreathed_105 : decode cX7_ifBreathed 105 = .ok (.invokestatic 182, 3) := by decide +kernel
theorem dX7_ifBreathed_108 : decode cX7_ifBreathed 108 = .ok (.ireturn, 1) := by decide +kernel
theorem dX7_best_0 : decode cX7_best 0 = .ok (.iconst 0, 1) := by decide +kernel
theorem dX7_best_1 : decode cX7_best 1 = .ok (.istore_n 1, 1) := by decide +kernel
theorem dX7_best_2 : decode cX7_best 2 = .ok (.iconst 0, 1) := by decide +kernel
theorem dX7_best_3 : decode cX7_best 3 = .ok (.istore_n 2, 1) := by decide +kernel
theorem dX7_best_4 : decode cX7_best 4 = .ok (.iconst 0, 1) := by decide +kernel
theorem dX7_best_5 : decode cX7_best 5 = .ok (.istore_n 3, 1) := by decide +kernel
theorem dX7_best_6 : decode cX7_best 6 = .ok (.iload_n 3, 1) := by decide +kernel
theorem dX7_best_7 : decode cX7_best 7 = .ok (.iconst 4, 1) := by decide +kernel
theorem dX7_best_8 : decode cX7_best 8 = .ok (.if_icmp .ge 33, 3) := by decide +kernel
theorem dX7_best_11 : decode cX7_best 11 = .ok (.aload_n 0, 1) := by decide +kernel
theorem dX7_best_12 : decode cX7_best 12 = .ok (.getfield 10, 3) := by decide +kernel
theorem dX7_best_15 : decode cX7_best 15 = .ok (.iconst 1, 1) := by decide +kernel
theorem dX7_best_16 : decode cX7_best 16 = .ok (.iconst (-1), 1) := by decide +kernel
theorem dX7_best_17 : decode cX7_best 17 = .ok (.iload_n 3, 1) := by decide +kernel
theorem dX7_best_18 : decode cX7_best 18 = .ok (.iconst (-1), 1) := by decide +kernel
theorem dX7_best_19 : decode cX7_best 19 = .ok (.invokestatic 127, 3) := by decide +kernel
theorem dX7_best_22 : decode cX7_best 22 = .ok (.istore 4, 2) := by decide +kernel
theorem dX7_best_24 : decode cX7_best 24 = .ok (.iload 4, 2) := by decide +kernel
theorem dX7_best_26 : decode cX7_best 26 = .ok (.iload_n 2, 1) := by decide +kernel
theorem dX7_best_27 : decode cX7_best 27 = .ok (.if_icmp .le 8, 3) := by decide +kernel
theorem dX7_best_30 : decode cX7_best 30 = .ok (.iload 4, 2) := by decide +kernel
theorem dX7_best_32 : decode cX7_best 32 = .ok (.istore_n 2, 1) := by decide +kernel
theorem dX7_best_33 : decode cX7_best 33 = .ok (.iload_n 3, 1) := by decide +kernel
theorem dX7_best_34 : decode cX7_best 34 = .ok (.istore_n 1, 1) := by decide +kernel
theorem dX7_best_35 : decode cX7_best 35 = .ok (.iinc 3 1, 3) := by decide +kernel
theorem dX7_best_38 : decode cX7_best 38 = .ok (.goto (-32), 3) := by decide +kernel
theorem dX7_best_41 : decode cX7_best 41 = .ok (.iload_n 1, 1) := by decide +kernel
theorem dX7_best_42 : decode cX7_best 42 = .ok (.ireturn, 1) := by decide +kernel
theorem dX7_undo_0 : decode cX7_undo 0 = .ok (.aload_n 0, 1) := by decide +kernel
theorem dX7_undo_1 : decode cX7_undo 1 = .ok (.getfield 29, 3) := by decide +kernel
theorem dX7_undo_4 : decode cX7_undo 4 = .ok (.aload_n 0, 1) := by decide +kernel
theorem dX7_undo_5 : decode cX7_undo 5 = .ok (.getfield 10, 3) := by decide +kernel
theorem dX7_undo_8 : decode cX7_undo 8 = .ok (.invokevirtual 211, 3) := by decide +kernel
theorem dX7_undo_11 : decode cX7_undo 11 = .ok (.ireturn, 1) := by decide +kernel
theorem dX7_save_0 : decode cX7_save 0 = .ok (.iload_n 1, 1) := by decide +kernel
theorem dX7_save_1 : decode cX7_save 1 = .ok (.invokestatic 214, 3) := by decide +kernel
theorem dX7_save_4 : decode cX7_save 4 = .ok (.ifCond .ne 6, 3) := by decide +kernel
theorem dX7_save_7 : decode cX7_save 7 = .ok (.bipush (-2), 2) := by decide +kernel
theorem dX7_save_9 : decode cX7_save 9 = .ok (.ireturn, 1) := by decide +kernel
theorem dX7_save_10 : decode cX7_save 10 = .ok (.aload_n 0, 1) := by decide +kernel
theorem dX7_save_11 : decode cX7_save 11 = .ok (.getfield 29, 3) := by decide +kernel
theorem dX7_save_14 : decode cX7_save 14 = .ok (.iload_n 1, 1) := by decide +kernel
theorem dX7_save_15 : decode cX7_save 15 = .ok (.aload_n 0, 1) := by decide +kernel
theorem dX7_save_16 : decode cX7_save 16 = .ok (.getfield 10, 3) := by decide +kernel
theorem dX7_save_19 : decode cX7_save 19 = .ok (.invokevirtual 217, 3) := by decide +kernel
theorem dX7_save_22 : decode cX7_save 22 = .ok (.aload_n 0, 1) := by decide +kernel
theorem dX7_save_23 : decode cX7_save 23 = .ok (.getfield 10, 3) := by decide +kernel
theorem dX7_save_26 : decode cX7_save 26 = .ok (.bipush 19, 2) := by decide +kernel
theorem dX7_save_28 : decode cX7_save 28 = .ok (.invokevirtual 151, 3) := by decide +kernel
theorem dX7_save_31 : decode cX7_save 31 = .ok (.ireturn, 1) := by decide +kernel
theorem dX7_restore_0 : decode cX7_restore 0 = .ok (.iload_n 1, 1) := by decide +kernel
theorem dX7_restore_1 : decode cX7_restore 1 = .ok (.invokestatic 214, 3) := by decide +kernel
theorem dX7_restore_4 : decode cX7_restore 4 = .ok (.ifCond .ne 6, 3) := by decide +kernel
theorem dX7_restore_7 : decode cX7_restore 7 = .ok (.bipush (-2), 2) := by decide +kernel
theorem dX7_restore_9 : decode cX7_restore 9 = .ok (.ireturn, 1) := by decide +kernel
theorem dX7_restore_10 : decode cX7_restore 10 = .ok (.aload_n 0, 1) := by decide +kernel
theorem dX7_restore_11 : decode cX7_restore 11 = .ok (.getfield 29, 3) := by decide +kernel
theorem dX7_restore_14 : decode cX7_restore 14 = .ok (.iload_n 1, 1) := by decide +kernel
theorem dX7_restore_15 : decode cX7_restore 15 = .ok (.invokevirtual 221, 3) := by decide +kernel
theorem dX7_restore_18 : decode cX7_restore 18 = .ok (.ifCond .ne 6, 3) := by decide +kernel
theorem dX7_restore_21 : decode cX7_restore 21 = .ok (.bipush (-5), 2) := by decide +kernel
theorem dX7_restore_23 : decode cX7_restore 23 = .ok (.ireturn, 1) := by decide +kernel
theorem dX7_restore_24 : decode cX7_restore 24 = .ok (.aload_n 0, 1) := by decide +kernel
theorem dX7_restore_25 : decode cX7_restore 25 = .ok (.getfield 29, 3) := by decide +kernel
theorem dX7_restore_28 : decode cX7_restore 28 = .ok (.aload_n 0, 1) := by decide +kernel
theorem dX7_restore_29 : decode cX7_restore 29 = .ok (.getfield 10, 3) := by decide +kernel
theorem dX7_restore_32 : decode cX7_restore 32 = .ok (.invokevirtual 40, 3) := by decide +kernel
theorem dX7_restore_35 : decode cX7_restore 35 = .ok (.aload_n 0, 1) := by decide +kernel
theorem dX7_restore_36 : decode cX7_restore 36 = .ok (.getfield 29, 3) := by decide +kernel
theorem dX7_restore_39 : decode cX7_restore 39 = .ok (.iload_n 1, 1) := by decide +kernel
theorem dX7_restore_40 : decode cX7_restore 40 = .ok (.aload_n 0, 1) := by decide +kernel
theorem dX7_restore_41 : decode cX7_restore 41 = .ok (.getfield 10, 3) := by decide +kernel
theorem dX7_restore_44 : decode cX7_restore 44 = .ok (.invokevirtual 224, 3) := by decide +kernel
theorem dX7_restore_47 : decode cX7_restore 47 = .ok (.aload_n 0, 1) := by decide +kernel
theorem dX7_restore_48 : decode cX7_restore 48 = .ok (.getfield 29, 3) := by decide +kernel
theorem dX7_restore_51 : decode cX7_restore 51 = .ok (.aload_n 0, 1) := by decide +kernel
theorem dX7_restore_52 : decode cX7_restore 52 = .ok (.getfield 10, 3) := by decide +kernel
theorem dX7_restore_55 : decode cX7_restore 55 = .ok (.bipush 19, 2) := by decide +kernel
theorem dX7_restore_57 : decode cX7_restore 57 = .ok (.invokevirtual 151, 3) := by decide +kernel
theorem dX7_restore_60 : decode cX7_restore 60 = .ok (.invokevirtual 50, 3) := by decide +kernel
theorem dX7_restore_63 : decode cX7_restore 63 = .ok (.ireturn, 1) := by decide +kernel
theorem dX7_isQuarter_0 : decode cX7_isQuarter 0 = .ok (.iload_n 0, 1) := by decide +kernel
theorem dX7_isQuarter_1 : decode cX7_isQuarter 1 = .ok (.ifCond .lt 12, 3) := by decide +kernel
theorem dX7_isQuarter_4 : decode cX7_isQuarter 4 = .ok (.iload_n 0, 1) := by decide +kernel
theorem dX7_isQuarter_5 : decode cX7_isQuarter 5 = .ok (.iconst 4, 1) := by decide +kernel
theorem dX7_isQuarter_6 : decode cX7_isQuarter 6 = .ok (.if_icmp .ge 7, 3) := by decide +kernel
theorem dX7_isQuarter_9 : decode cX7_isQuarter 9 = .ok (.iconst 1, 1) := by decide +kernel
theorem dX7_isQuarter_10 : decode cX7_isQuarter 10 = .ok (.goto 4, 3) := by decide +kernel
theorem dX7_isQuarter_13 : decode cX7_isQuarter 13 = .ok (.iconst 0, 1) := by decide +kernel
theorem dX7_isQuarter_14 : decode cX7_isQuarter 14 = .ok (.ireturn, 1) := by decide +kernel
theorem dX7_isRing_0 : decode cX7_isRing 0 = .ok (.iload_n 0, 1) := by decide +kernel
theorem dX7_isRing_1 : decode cX7_isRing 1 = .ok (.ifCond .lt 12, 3) := by decide +kernel
theorem dX7_isRing_4 : decode cX7_isRing 4 = .ok (.iload_n 0, 1) := by decide +kernel
theorem dX7_isRing_5 : decode cX7_isRing 5 = .ok (.iconst 5, 1) := by decide +kernel
theorem dX7_isRing_6 : decode cX7_isRing 6 = .ok (.if_icmp .ge 7, 3) := by decide +kernel
theorem dX7_isRing_9 : decode cX7_isRing 9 = .ok (.iconst 1, 1) := by decide +kernel
theorem dX7_isRing_10 : decode cX7_isRing 10 = .ok (.goto 4, 3) := by decide +kernel
theorem dX7_isRing_13 : decode cX7_isRing 13 = .ok (.iconst 0, 1) := by decide +kernel
theorem dX7_isRing_14 : decode cX7_isRing 14 = .ok (.ireturn, 1) := by decide +kernel
theorem dX7_isPlace_0 : decode cX7_isPlace 0 = .ok (.iload_n 0, 1) := by decide +kernel
theorem dX7_isPlace_1 : decode cX7_isPlace 1 = .ok (.invokestatic 130, 3) := by decide +kernel
theorem dX7_isPlace_4 : decode cX7_isPlace 4 = .ok (.ifCond .eq 24, 3) := by decide +kernel
theorem dX7_isPlace_7 : decode cX7_isPlace 7 = .ok (.iload_n 1, 1) := by decide +kernel
theorem dX7_isPlace_8 : decode cX7_isPlace 8 = .ok (.invokestatic 107, 3) := by decide +kernel
theorem dX7_isPlace_11 : decode cX7_isPlace 11 = .ok (.ifCond .eq 17, 3) := by decide +kernel
theorem dX7_isPlace_14 : decode cX7_isPlace 14 = .ok (.iload_n 2, 1) := by decide +kernel
theorem dX7_isPlace_15 : decode cX7_isPlace 15 = .ok (.ifCond .lt 13, 3) := by decide +kernel
theorem dX7_isPlace_18 : decode cX7_isPlace 18 = .ok (.iload_n 2, 1) := by decide +kernel
theorem dX7_isPlace_19 : decode cX7_isPlace 19 = .ok (.bipush 8, 2) := by decide +kernel
theorem dX7_isPlace_21 : decode cX7_isPlace 21 = .ok (.if_icmp .ge 7, 3) := by decide +kernel
theorem dX7_isPlace_24 : decode cX7_isPlace 24 = .ok (.iconst 1, 1) := by decide +kernel
theorem dX7_isPlace_25 : decode cX7_isPlace 25 = .ok (.goto 4, 3) := by decide +kernel
theorem dX7_isPlace_28 : decode cX7_isPlace 28 = .ok (.iconst 0, 1) := by decide +kernel
theorem dX7_isPlace_29 : decode cX7_isPlace 29 = .ok (.ireturn, 1) := by decide +kernel
theorem dX7_isColour_0 : decode cX7_isColour 0 = .ok (.iload_n 0, 1) := by decide +kernel
theorem dX7_isColour_1 : decode cX7_isColour 1 = .ok (.iconst 1, 1) := by decide +kernel
theorem dX7_isColour_2 : decode cX7_isColour 2 = .ok (.if_icmp .lt 13, 3) := by decide +kernel
theorem dX7_isColour_5 : decode cX7_isColour 5 = .ok (.iload_n 0, 1) := by decide +kernel
theorem dX7_isColour_6 : decode cX7_isColour 6 = .ok (.bipush 6, 2) := by decide +kernel
theorem dX7_isColour_8 : decode cX7_isColour 8 = .ok (.if_icmp .gt 7, 3) := by decide +kernel
theorem dX7_isColour_11 : decode cX7_isColour 11 = .ok (.iconst 1, 1) := by decide +kernel
theorem dX7_isColour_12 : decode cX7_isColour 12 = .ok (.goto 4, 3) := by decide +kernel
theorem dX7_isColour_15 : decode cX7_isColour 15 = .ok (.iconst 0, 1) := by decide +kernel
theorem dX7_isColour_16 : decode cX7_isColour 16 = .ok (.ireturn, 1) := by decide +kernel
theorem dX7_isDirection_0 : decode cX7_isDirection 0 = .ok (.iload_n 0, 1) := by decide +kernel
theorem dX7_isDirection_1 : decode cX7_isDirection 1 = .ok (.ifCond .eq 8, 3) := by decide +kernel
theorem dX7_isDirection_4 : decode cX7_isDirection 4 = .ok (.iload_n 0, 1) := by decide +kernel
theorem dX7_isDirection_5 : decode cX7_isDirection 5 = .ok (.iconst 1, 1) := by decide +kernel
theorem dX7_isDirection_6 : decode cX7_isDirection 6 = .ok (.if_icmp .ne 7, 3) := by decide +kernel
theorem dX7_isDirection_9 : decode cX7_isDirection 9 = .ok (.iconst 1, 1) := by decide +kernel
theorem dX7_isDirection_10 : decode cX7_isDirection 10 = .ok (.goto 4, 3) := by decide +kernel
theorem dX7_isDirection_13 : decode cX7_isDirection 13 = .ok (.iconst 0, 1) := by decide +kernel
theorem dX7_isDirection_14 : decode cX7_isDirection 14 = .ok (.ireturn, 1) := by decide +kernel
theorem dX7_bit_0 : decode cX7_bit 0 = .ok (.iload_n 0, 1) := by decide +kernel
theorem dX7_bit_1 : decode cX7_bit 1 = .ok (.ifCond .eq 7, 3) := by decide +kernel
theorem dX7_bit_4 : decode cX7_bit 4 = .ok (.iconst 1, 1) := by decide +kernel
theorem dX7_bit_5 : decode cX7_bit 5 = .ok (.goto 4, 3) := by decide +kernel
theorem dX7_bit_8 : decode cX7_bit 8 = .ok (.iconst 0, 1) := by decide +kernel
theorem dX7_bit_9 : decode cX7_bit 9 = .ok (.ireturn, 1) := by decide +kernel
