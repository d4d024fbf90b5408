theorem dX5_init_0 : decode cX5_init 0 = .ok (.aload_n 0, 1) := by decide +kernel
theorem dX5_init_1 : decode cX5_init 1 = .ok (.invokespecial 3, 3) := by decide +kernel
theorem dX5_init_4 : decode cX5_init 4 = .ok (.aload_n 0, 1) := by decide +kernel
theorem dX5_init_5 : decode cX5_init 5 = .ok (.iconst 3, 1) := by decide +kernel
theorem dX5_init_6 : decode cX5_init 6 = .ok (.putfield 9, 3) := by decide +kernel
theorem dX5_init_9 : decode cX5_init 9 = .ok (.aload_n 0, 1) := by decide +kernel
theorem dX5_init_10 : decode cX5_init 10 = .ok (.bipush 6, 2) := by decide +kernel
theorem dX5_init_12 : decode cX5_init 12 = .ok (.newarray .int, 2) := by decide +kernel
theorem dX5_init_14 : decode cX5_init 14 = .ok (.putfield 13, 3) := by decide +kernel
theorem dX5_init_17 : decode cX5_init 17 = .ok (.aload_n 0, 1) := by decide +kernel
theorem dX5_init_18 : decode cX5_init 18 = .ok (.bipush 6, 2) := by decide +kernel
theorem dX5_init_20 : decode cX5_init 20 = .ok (.newarray .int, 2) := by decide +kernel
theorem dX5_init_22 : decode cX5_init 22 = .ok (.putfield 17, 3) := by decide +kernel
theorem dX5_init_25 : decode cX5_init 25 = .ok (.aload_n 0, 1) := by decide +kernel
theorem dX5_init_26 : decode cX5_init 26 = .ok (.sipush 2400, 3) := by decide +kernel
theorem dX5_init_29 : decode cX5_init 29 = .ok (.newarray .int, 2) := by decide +kernel
theorem dX5_init_31 : decode cX5_init 31 = .ok (.putfield 20, 3) := by decide +kernel
theorem dX5_init_34 : decode cX5_init 34 = .ok (.aload_n 0, 1) := by decide +kernel
theorem dX5_init_35 : decode cX5_init 35 = .ok (.iconst 5, 1) := by decide +kernel
theorem dX5_init_36 : decode cX5_init 36 = .ok (.newarray .int, 2) := by decide +kernel
theorem dX5_init_38 : decode cX5_init 38 = .ok (.putfield 23, 3) := by decide +kernel
theorem dX5_init_41 : decode cX5_init 41 = .ok (.aload_n 0, 1) := by decide +kernel
theorem dX5_init_42 : decode cX5_init 42 = .ok (.iconst 5, 1) := by decide +kernel
theorem dX5_init_43 : decode cX5_init 43 = .ok (.newarray .int, 2) := by decide +kernel
theorem dX5_init_45 : decode cX5_init 45 = .ok (.putfield 26, 3) := by decide +kernel
theorem dX5_init_48 : decode cX5_init 48 = .ok (.aload_n 0, 1) := by decide +kernel
theorem dX5_init_49 : decode cX5_init 49 = .ok (.iconst 5, 1) := by decide +kernel
theorem dX5_init_50 : decode cX5_init 50 = .ok (.newarray .int, 2) := by decide +kernel
theorem dX5_init_52 : decode cX5_init 52 = .ok (.putfield 29, 3) := by decide +kernel
theorem dX5_init_55 : decode cX5_init 55 = .ok (.aload_n 0, 1) := by decide +kernel
theorem dX5_init_56 : decode cX5_init 56 = .ok (.iconst 5, 1) := by decide +kernel
theorem dX5_init_57 : decode cX5_init 57 = .ok (.newarray .int, 2) := by decide +kernel
theorem dX5_init_59 : decode cX5_init 59 = .ok (.putfield 32, 3) := by decide +kernel
theorem dX5_init_62 : decode cX5_init 62 = .ok (.aload_n 0, 1) := by decide +kernel
theorem dX5_init_63 : decode cX5_init 63 = .ok (.iconst 5, 1) := by decide +kernel
theorem dX5_init_64 : decode cX5_init 64 = .ok (.newarray .int, 2) := by decide +kernel
theorem dX5_init_66 : decode cX5_init 66 = .ok (.putfield 35, 3) := by decide +kernel
theorem dX5_init_69 : decode cX5_init 69 = .ok (.aload_n 0, 1) := by decide +kernel
theorem dX5_init_70 : decode cX5_init 70 = .ok (.sipush 400, 3) := by decide +kernel
theorem dX5_init_73 : decode cX5_init 73 = .ok (.newarray .int, 2) := by decide +kernel
theorem dX5_init_75 : decode cX5_init 75 = .ok (.putfield 38, 3) := by decide +kernel
theorem dX5_init_78 : decode cX5_init 78 = .ok (.aload_n 0, 1) := by decide +kernel
theorem dX5_init_79 : decode cX5_init 79 = .ok (.bipush 10, 2) := by decide +kernel
theorem dX5_init_81 : decode cX5_init 81 = .ok (.newarray .int, 2) := by decide +kernel
theorem dX5_init_83 : decode cX5_init 83 = .ok (.putfield 41, 3) := by decide +kernel
theorem dX5_init_86 : decode cX5_init 86 = .ok (.aload_n 0, 1) := by decide +kernel
theorem dX5_init_87 : decode cX5_init 87 = .ok (.bipush 10, 2) := by decide +kernel
theorem dX5_init_89 : decode cX5_init 89 = .ok (.newarray .int, 2) := by decide +kernel
theorem dX5_init_91 : decode cX5_init 91 = .ok (.putfield 44, 3) := by decide +kernel
theorem dX5_init_94 : decode cX5_init 94 = .ok (.aload_n 0, 1) := by decide +kernel
theorem dX5_init_95 : decode cX5_init 95 = .ok (.bipush 10, 2) := by decide +kernel
theorem dX5_init_97 : decode cX5_init 97 = .ok (.newarray .int, 2) := by decide +kernel
theorem dX5_init_99 : decode cX5_init 99 = .ok (.putfield 47, 3) := by decide +kernel
theorem dX5_init_102 : decode cX5_init 102 = .ok (.aload_n 0, 1) := by decide +kernel
theorem dX5_init_103 : decode cX5_init 103 = .ok (.bipush 50, 2) := by decide +kernel
theorem dX5_init_105 : decode cX5_init 105 = .ok (.newarray .int, 2) := by decide +kernel
theorem dX5_init_107 : decode cX5_init 107 = .ok (.putfield 50, 3) := by decide +kernel
theorem dX5_init_110 : decode cX5_init 110 = .ok (.return_, 1) := by decide +kernel
theorem dX5_thrown_0 : decode cX5_thrown 0 = .ok (.aload_n 0, 1) := by decide +kernel
theorem dX5_thrown_1 : decode cX5_thrown 1 = .ok (.getfield 53, 3) := by decide +kernel
theorem dX5_thrown_4 : decode cX5_thrown 4 = .ok (.ireturn, 1) := by decide +kernel
theorem dX5_no_0 : decode cX5_no 0 = .ok (.aload_n 0, 1) := by decide +kernel
theorem dX5_no_1 : decode cX5_no 1 = .ok (.iload_n 1, 1) := by decide +kernel
theorem dX5_no_2 : decode cX5_no 2 = .ok (.putfield 53, 3) := by decide +kernel
theorem dX5_no_5 : decode cX5_no 5 = .ok (.iconst 0, 1) := by decide +kernel
theorem dX5_no_6 : decode cX5_no 6 = .ok (.ireturn, 1) := by decide +kernel
theorem dX5_isIn_0 : decode cX5_isIn 0 = .ok (.iload_n 0, 1) := by decide +kernel
theorem dX5_isIn_1 : decode cX5_isIn 1 = .ok (.iload_n 1, 1) := by decide +kernel
theorem dX5_isIn_2 : decode cX5_isIn 2 = .ok (.if_icmp .lt 12, 3) := by decide +kernel
theorem dX5_isIn_5 : decode cX5_isIn 5 = .ok (.iload_n 0, 1) := by decide +kernel
theorem dX5_isIn_6 : decode cX5_isIn 6 = .ok (.iload_n 2, 1) := by decide +kernel
theorem dX5_isIn_7 : decode cX5_isIn 7 = .ok (.if_icmp .gt 7, 3) := by decide +kernel
theorem dX5_isIn_10 : decode cX5_isIn 10 = .ok (.iconst 1, 1) := by decide +kernel
theorem dX5_isIn_11 : decode cX5_isIn 11 = .ok (.goto 4, 3) := by decide +kernel
theorem dX5_isIn_14 : decode cX5_isIn 14 = .ok (.iconst 0, 1) := by decide +kernel
theorem dX5_isIn_15 : decode cX5_isIn 15 = .ok (.ireturn, 1) := by decide +kernel
theorem dX5_isSpot_0 : decode cX5_isSpot 0 = .ok (.iload_n 0, 1) := by decide +kernel
theorem dX5_isSpot_1 : decode cX5_isSpot 1 = .ok (.iconst 0, 1) := by decide +kernel
theorem dX5_isSpot_2 : decode cX5_isSpot 2 = .ok (.bipush 19, 2) := by decide +kernel
theorem dX5_isSpot_4 : decode cX5_isSpot 4 = .ok (.invokestatic 56, 3) := by decide +kernel
theorem dX5_isSpot_7 : decode cX5_isSpot 7 = .ok (.ifCond .eq 17, 3) := by decide +kernel
theorem dX5_isSpot_10 : decode cX5_isSpot 10 = .ok (.iload_n 1, 1) := by decide +kernel
theorem dX5_isSpot_11 : decode cX5_isSpot 11 = .ok (.iconst 0, 1) := by decide +kernel
theorem dX5_isSpot_12 : decode cX5_isSpot 12 = .ok (.bipush 19, 2) := by decide +kernel
theorem dX5_isSpot_14 : decode cX5_isSpot 14 = .ok (.invokestatic 56, 3) := by decide +kernel
theorem dX5_isSpot_17 : decode cX5_isSpot 17 = .ok (.ifCond .eq 7, 3) := by decide +kernel
theorem dX5_isSpot_20 : decode cX5_isSpot 20 = .ok (.iconst 1, 1) := by decide +kernel
theorem dX5_isSpot_21 : decode cX5_isSpot 21 = .ok (.goto 4, 3) := by decide +kernel
theorem dX5_isSpot_24 : decode cX5_isSpot 24 = .ok (.iconst 0, 1) := by decide +kernel
theorem dX5_isSpot_25 : decode cX5_isSpot 25 = .ok (.ireturn, 1) := by decide +kernel
theorem dX5_isDowser_0 : decode cX5_isDowser 0 = .ok (.iload_n 1, 1) := by decide +kernel
theorem dX5_isDowser_1 : decode cX5_isDowser 1 = .ok (.iconst 0, 1) := by decide +kernel
theorem dX5_isDowser_2 : decode cX5_isDowser 2 = .ok (.aload_n 0, 1) := by decide +kernel
theorem dX5_isDowser_3 : decode cX5_isDowser 3 = .ok (.getfield 60, 3) := by decide +kernel
theorem dX5_isDowser_6 : decode cX5_isDowser 6 = .ok (.iconst 1, 1) := by decide +kernel
theorem dX5_isDowser_7 : decode cX5_isDowser 7 = .ok (.isub, 1) := by decide +kernel
theorem dX5_isDowser_8 : decode cX5_isDowser 8 = .ok (.invokestatic 56, 3) := by decide +kernel
theorem dX5_isDowser_11 : decode cX5_isDowser 11 = .ok (.ireturn, 1) := by decide +kernel
theorem dX5_isPit_0 : decode cX5_isPit 0 = .ok (.iload_n 1, 1) := by decide +kernel
theorem dX5_isPit_1 : decode cX5_isPit 1 = .ok (.iconst 0, 1) := by decide +kernel
theorem dX5_isPit_2 : decode cX5_isPit 2 = .ok (.aload_n 0, 1) := by decide +kernel
theorem dX5_isPit_3 : decode cX5_isPit 3 = .ok (.getfield 63, 3) := by decide +kernel
theorem dX5_isPit_6 : decode cX5_isPit 6 = .ok (.iconst 1, 1) := by decide +kernel
theorem dX5_isPit_7 : decode cX5_isPit 7 = .ok (.isub, 1) := by decide +kernel
theorem dX5_isPit_8 : decode cX5_isPit 8 = .ok (.invokestatic 56, 3) := by decide +kernel
theorem dX5_isPit_11 : decode cX5_isPit 11 = .ok (.ireturn, 1) := by decide +kernel
theorem dX5_far_0 : decode cX5_far 0 = .ok (.iload_n 0, 1) := by decide +kernel
theorem dX5_far_1 : decode cX5_far 1 = .ok (.bipush 20, 2) := by decide +kernel
theorem dX5_far_3 : decode cX5_far 3 = .ok (.irem, 1) := by decide +kernel
theorem dX5_far_4 : decode cX5_far 4 = .ok (.iload_n 1, 1) := by decide +kernel
theorem dX5_far_5 : decode cX5_far 5 = .ok (.bipush 20, 2) := by decide +kernel
theorem dX5_far_7 : decode cX5_far 7 = .ok (.irem, 1) := by decide +kernel
theorem dX5_far_8 : decode cX5_far 8 = .ok (.isub, 1) := by decide +kernel
theorem dX5_far_9 : decode cX5_far 9 = .ok (.invokestatic 66, 3) := by decide +kernel
theorem dX5_far_12 : decode cX5_far 12 = .ok (.iload_n 0, 1) := by decide +kernel
theorem dX5_far_13 : decode cX5_far 13 = .ok (.bipush 20, 2) := by decide +kernel
theorem dX5_far_15 : decode cX5_far 15 = .ok (.idiv, 1) := by decide +kernel
theorem dX5_far_16 : decode cX5_far 16 = .ok (.iload_n 1, 1) := by decide +kernel
theorem dX5_far_17 : decode cX5_far 17 = .ok (.bipush 20, 2) := by decide +kernel
theorem dX5_far_19 : decode cX5_far 19 = .ok (.idiv, 1) := by decide +kernel
theorem dX5_far_20 : decode cX5_far 20 = .ok (.isub, 1) := by decide +kernel
theorem dX5_far_21 : decode cX5_far 21 = .ok (.invokestatic 66, 3) := by decide +kernel
theorem dX5_far_24 : decode cX5_far 24 = .ok (.iadd, 1) := by decide +kernel
theorem dX5_far_25 : decode cX5_far 25 = .ok (.ireturn, 1) := by decide +kernel
theorem dX5_water_0 : decode cX5_water 0 = .ok (.iconst 0, 1) := by decide +kernel
theorem dX5_water_1 : decode cX5_water 1 = .ok (.istore_n 2, 1) := by decide +kernel
theorem dX5_water_2 : decode cX5_water 2 = .ok (.iconst 0, 1) := by decide +kernel
theorem dX5_water_3 : decode cX5_water 3 = .ok (.istore_n 3, 1) := by decide +kernel
theorem dX5_water_4 : decode cX5_water 4 = .ok (.iload_n 3, 1) := by decide +kernel
theorem dX5_water_5 : decode cX5_water 5 = .ok (.aload_n 0, 1) := by decide +kernel
theorem dX5_water_6 : decode cX5_water 6 = .ok (.getfield 72, 3) := by decide +kernel
theorem dX5_water_9 : decode cX5_water 9 = .ok (.if_icmp .ge 38, 3) := by decide +kernel
theorem dX5_water_12 : decode cX5_water 12 = .ok (.iload_n 2, 1) := by decide +kernel
theorem dX5_water_13 : decode cX5_water 13 = .ok (.aload_n 0, 1) := by decide +kernel
theorem dX5_water_14 : decode cX5_water 14 = .ok (.getfield 20, 3) := by decide +kernel
theorem dX5_water_17 : decode cX5_water 17 = .ok (.sipush 400, 3) := by decide +kernel
theorem dX5_water_20 : decode cX5_water 20 = .ok (.iload_n 3, 1) := by decide +kernel
theorem dX5_water_21 : decode cX5_water 21 = .ok (.imul, 1) := by decide +kernel
theorem dX5_water_22 : decode cX5_water 22 = .ok (.iload_n 1, 1) := by decide +kernel
theorem dX5_water_23 : decode cX5_water 23 = .ok (.iadd, 1) := by decide +kernel
theorem dX5_water_24 : decode cX5_water 24 = .ok (.iaload, 1) := by decide +kernel
theorem dX5_water_25 : decode cX5_water 25 = .ok (.iconst 2, 1) := by decide +kernel
theorem dX5_water_26 : decode cX5_water 26 = .ok (.if_icmp .ne 12, 3) := by decide +kernel
theorem dX5_water_29 : decode cX5_water 29 = .ok (.aload_n 0, 1) := by decide +kernel
theorem dX5_water_30 : decode cX5_water 30 = .ok (.getfield 17, 3) := by decide +kernel
theorem dX5_water_33 : decode cX5_water 33 = .ok (.iload_n 3, 1) := by decide +kernel
theorem dX5_water_34 : decode cX5_water 34 = .ok (.iaload, 1) := by decide +kernel
theorem dX5_water_35 : decode cX5_water 35 = .ok (.goto 4, 3) := by decide +kernel
theorem dX5_water_38 : decode cX5_water 38 = .ok (.iconst 0, 1) := by decide +kernel
theorem dX5_water_39 : decode cX5_water 39 = .ok (.iadd, 1) := by decide +kernel
theorem dX5_water_40 : decode cX5_water 40 = .ok (.istore_n 2, 1) := by decide +kernel
theorem dX5_water_41 : decode cX5_water 41 = .ok (.iinc 3 1, 3) := by decide +kernel
theorem dX5_water_44 : decode cX5_water 44 = .ok (.goto (-40), 3) := by decide +kernel
theorem dX5_water_47 : decode cX5_water 47 = .ok (.iload_n 2, 1) := by decide +kernel
theorem dX5_water_48 : decode cX5_water 48 = .ok (.ireturn, 1) := by decide +kernel
theorem dX5_depth_0 : decode cX5_depth 0 = .ok (.iconst 0, 1) := by decide +kernel
theorem dX5_depth_1 : decode cX5_depth 1 = .ok (.istore_n 2, 1) := by decide +kernel
theorem dX5_depth_2 : decode cX5_depth 2 = .ok (.iconst 0, 1) := by decide +kernel
theorem dX5_depth_3 : decode cX5_depth 3 = .ok (.istore_n 3, 1) := by decide +kernel
theorem dX5_depth_4 : decode cX5_depth 4 = .ok (.iload_n 3, 1) := by decide +kernel
theorem dX5_depth_5 : decode cX5_depth 5 = .ok (.aload_n 0, 1) := by decide +kernel
theorem dX5_depth_6 : decode cX5_depth 6 = .ok (.getfield 72, 3) := by decide +kernel
theorem dX5_depth_9 : decode cX5_depth 9 = .ok (.if_icmp .ge 46, 3) := by decide +kernel
theorem dX5_depth_12 : decode cX5_depth 12 = .ok (.aload_n 0, 1) := by decide +kernel
theorem dX5_depth_13 : decode cX5_depth 13 = .ok (.getfield 20, 3) := by decide +kernel
theorem dX5_depth_16 : decode cX5_depth 16 = .ok (.sipush 400, 3) := by decide +kernel
theorem dX5_depth_19 : decode cX5_depth 19 = .ok (.iload_n 3, 1) := by decide +kernel
theorem dX5_depth_20 : decode cX5_depth 20 = .ok (.imul, 1) := by decide +kernel
theorem dX5_depth_21 : decode cX5_depth 21 = .ok (.iload_n 1, 1) := by decide +kernel
theorem dX5_depth_22 : decode cX5_depth 22 = .ok (.iadd, 1) := by decide +kernel
theorem dX5_depth_23 : decode cX5_depth 23 = .ok (.iaload, 1) := by decide +kernel
theorem dX5_depth_24 : decode cX5_depth 24 = .ok (.iconst 2, 1) := by decide +kernel
theorem dX5_depth_25 : decode cX5_depth 25 = .ok (.if_icmp .ne 24, 3) := by decide +kernel
theorem dX5_depth_28 : decode cX5_depth 28 = .ok (.iload_n 2, 1) := by decide +kernel
theorem dX5_depth_29 : decode cX5_depth 29 = .ok (.ifCond .eq 13, 3) := by decide +kernel
theorem dX5_depth_32 : decode cX5_depth 32 = .ok (.aload_n 0, 1) := by decide +kernel
theorem dX5_depth_33 : decode cX5_depth 33 = .ok (.getfield 13, 3) := by decide +kernel
theorem dX5_depth_36 : decode cX5_depth 36 = .ok (.iload_n 3, 1) := by decide +kernel
theorem dX5_depth_37 : decode cX5_depth 37 = .ok (.iaload, 1) := by decide +kernel
theorem dX5_depth_38 : decode cX5_depth 38 = .ok (.iload_n 2, 1) := by decide +kernel
theorem dX5_depth_39 : decode cX5_depth 39 = .ok (.if_icmp .ge 10, 3) := by decide +kernel
theorem dX5_depth_42 : decode cX5_depth 42 = .ok (.aload_n 0, 1) := by decide +kernel
theorem dX5_depth_43 : decode cX5_depth 43 = .ok (.getfield 13, 3) := by decide +kernel
theorem dX5_depth_46 : decode cX5_depth 46 = .ok (.iload_n 3, 1) := by decide +kernel
theorem dX5_depth_47 : decode cX5_depth 47 = .ok (.iaload, 1) := by decide +kernel
theorem dX5_depth_48 : decode cX5_depth 48 = .ok (.istore_n 2, 1) := by decide +kernel
theorem dX5_depth_49 : decode cX5_depth 49 = .ok (.iinc 3 1, 3) := by decide +kernel
theorem dX5_depth_52 : decode cX5_depth 52 = .ok (.goto (-48), 3) := by decide +kernel
theorem dX5_depth_55 : decode cX5_depth 55 = .ok (.iload_n 2, 1) := by decide +kernel
theorem dX5_depth_56 : decode cX5_depth 56 = .ok (.ireturn, 1) := by decide +kernel
theorem dX5_bends_0 : decode cX5_bends 0 = .ok (.aload_n 0, 1) := by decide +kernel
theorem dX5_bends_1 : decode cX5_bends 1 = .ok (.getfield 26, 3) := by decide +kernel
theorem dX5_bends_4 : decode cX5_bends 4 = .ok (.iload_n 1, 1) := by decide +kernel
theorem dX5_bends_5 : decode cX5_bends 5 = .ok (.iaload, 1) := by decide +kernel
theorem dX5_bends_6 : decode cX5_bends 6 = .ok (.istore_n 3, 1) := by decide +kernel
theorem dX5_bends_7 : decode cX5_bends 7 = .ok (.iconst 0, 1) := by decide +kernel
theorem dX5_bends_8 : decode cX5_bends 8 = .ok (.istore 4, 2) := by decide +kernel
theorem dX5_bends_10 : decode cX5_bends 10 = .ok (.iload 4, 2) := by decide +kernel
theorem dX5_bends_12 : decode cX5_bends 12 = .ok (.aload_n 0, 1) := by decide +kernel
theorem dX5_bends_13 : decode cX5_bends 13 = .ok (.getfield 72, 3) := by decide +kernel
theorem dX5_bends_16 : decode cX5_bends 16 = .ok (.if_icmp .ge 76, 3) := by decide +kernel
theorem dX5_bends_19 : decode cX5_bends 19 = .ok (.aload_n 0, 1) := by decide +kernel
theorem dX5_bends_20 : decode cX5_bends 20 = .ok (.getfield 17, 3) := by decide +kernel
theorem dX5_bends_23 : decode cX5_bends 23 = .ok (.iload 4, 2) := by decide +kernel
theorem dX5_bends_25 : decode cX5_bends 25 = .ok (.iaload, 1) := by decide +kernel
theorem dX5_bends_26 : decode cX5_bends 26 = .ok (.aload_n 0, 1) := by decide +kernel
theorem dX5_bends_27 : decode cX5_bends 27 = .ok (.getfield 23, 3) := by decide +kernel
theorem dX5_bends_30 : decode cX5_bends 30 = .ok (.iload_n 1, 1) := by decide +kernel
theorem dX5_bends_31 : decode cX5_bends 31 = .ok (.iaload, 1) := by decide +kernel
theorem dX5_bends_32 : decode cX5_bends 32 = .ok (.imul, 1) := by decide +kernel
theorem dX5_bends_33 : decode cX5_bends 33 = .ok (.aload_n 0, 1) := by decide +kernel
theorem dX5_bends_34 : decode cX5_bends 34 = .ok (.getfield 13, 3) := by decide +kernel
theorem dX5_bends_37 : decode cX5_bends 37 = .ok (.iload 4, 2) := by decide +kernel
theorem dX5_bends_39 : decode cX5_bends 39 = .ok (.iaload, 1) := by decide +kernel
theorem dX5_bends_40 : decode cX5_bends 40 = .ok (.idiv, 1) := by decide +kernel
theorem dX5_bends_41 : decode cX5_bends 41 = .ok (.istore 5, 2) := by decide +kernel
theorem dX5_bends_43 : decode cX5_bends 43 = .ok (.aload_n 0, 1) := by decide +kernel
theorem dX5_bends_44 : decode cX5_bends 44 = .ok (.getfield 20, 3) := by decide +kernel
theorem dX5_bends_47 : decode cX5_bends 47 = .ok (.sipush 400, 3) := by decide +kernel
theorem dX5_bends_50 : decode cX5_bends 50 = .ok (.iload 4, 2) := by decide +kernel
theorem dX5_bends_52 : decode cX5_bends 52 = .ok (.imul, 1) := by decide +kernel
theorem dX5_bends_53 : decode cX5_bends 53 = .ok (.iload_n 2, 1) := by decide +kernel
theorem dX5_bends_54 : decode cX5_bends 54 = .ok (.iadd, 1) := by decide +kernel
theorem dX5_bends_55 : decode cX5_bends 55 = .ok (.iaload, 1) := by decide +kernel
theorem dX5_bends_56 : decode cX5_bends 56 = .ok (.istore 6, 2) := by decide +kernel
theorem dX5_bends_58 : decode cX5_bends 58 = .ok (.iload_n 3, 1) := by decide +kernel
theorem dX5_bends_59 : decode cX5_bends 59 = .ok (.iload 6, 2) := by decide +kernel
theorem dX5_bends_61 : decode cX5_bends 61 = .ok (.iconst 2, 1) := by decide +kernel
theorem dX5_bends_62 : decode cX5_bends 62 = .ok (.if_icmp .ne 8, 3) := by decide +kernel
theorem dX5_bends_65 : decode cX5_bends 65 = .ok (.iload 5, 2) := by decide +kernel
theorem dX5_bends_67 : decode cX5_bends 67 = .ok (.goto 17, 3) := by decide +kernel
theorem dX5_bends_70 : decode cX5_bends 70 = .ok (.iload 6, 2) := by decide +kernel
theorem dX5_bends_72 : decode cX5_bends 72 = .ok (.iconst 1, 1) := by decide +kernel
theorem dX5_bends_73 : decode cX5_bends 73 = .ok (.if_icmp .ne 10, 3) := by decide +kernel
theorem dX5_bends_76 : decode cX5_bends 76 = .ok (.iload 5, 2) := by decide +kernel
theorem dX5_bends_78 : decode cX5_bends 78 = .ok (.iconst 2, 1) := by decide +kernel
theorem dX5_bends_79 : decode cX5_bends 79 = .ok (.idiv, 1) := by decide +kernel
theorem dX5_bends_80 : decode cX5_bends 80 = .ok (.goto 4, 3) := by decide +kernel
theorem dX5_bends_83 : decode cX5_bends 83 = .ok (.iconst 0, 1) := by decide +kernel
theorem dX5_bends_84 : decode cX5_bends 84 = .ok (.iadd, 1) := by decide +kernel
theorem dX5_bends_85 : decode cX5_bends 85 = .ok (.istore_n 3, 1) := by decide +kernel
theorem dX5_bends_86 : decode cX5_bends 86 = .ok (.iinc 4 1, 3) := by decide +kernel
theorem dX5_bends_89 : decode cX5_bends 89 = .ok (.goto (-79), 3) := by decide +kernel
theorem dX5_bends_92 : decode cX5_bends 92 = .ok (.iconst 0, 1) := by decide +kernel
theorem dX5_bends_93 : decode cX5_bends 93 = .ok (.iload_n 3, 1) := by decide +kernel
theorem dX5_bends_94 : decode cX5_bends 94 = .ok (.invokestatic 75, 3) := by decide +kernel
theorem dX5_bends_97 : decode cX5_bends 97 = .ok (.ireturn, 1) := by decide +kernel
theorem dX5_pitAt_0 : decode cX5_pitAt 0 = .ok (.iconst 0, 1) := by decide +kernel
theorem dX5_pitAt_1 : decode cX5_pitAt 1 = .ok (.istore_n 2, 1) := by decide +kernel
theorem dX5_pitAt_2 : decode cX5_pitAt 2 = .ok (.iload_n 2, 1) := by decide +kernel
theorem dX5_pitAt_3 : decode cX5_pitAt 3 = .ok (.aload_n 0, 1) := by decide +kernel
theorem dX5_pitAt_4 : decode cX5_pitAt 4 = .ok (.getfield 63, 3) := by decide +kernel
theorem dX5_pitAt_7 : decode cX5_pitAt 7 = .ok (.if_icmp .ge 21, 3) := by decide +kernel
theorem dX5_pitAt_10 : decode cX5_pitAt 10 = .ok (.aload_n 0, 1) := by decide +kernel
theorem dX5_pitAt_11 : decode cX5_pitAt 11 = .ok (.getfield 41, 3) := by decide +kernel
theorem dX5_pitAt_14 : decode cX5_pitAt 14 = .ok (.iload_n 2, 1) := by decide +kernel
theorem dX5_pitAt_15 : decode cX5_pitAt 15 = .ok (.iaload, 1) := by decide +kernel
theorem dX5_pitAt_16 : decode cX5_pitAt 16 = .ok (.iload_n 1, 1) := by decide +kernel
theorem dX5_pitAt_17 : decode cX5_pitAt 17 = .ok (.if_icmp .ne 5, 3) := by decide +kernel
theorem dX5_pitAt_20 : decode cX5_pitAt 20 = .ok (.iload_n 2, 1) := by decide +kernel
theorem dX5_pitAt_21 : decode cX5_pitAt 21 = .ok (.ireturn, 1) := by decide +kernel
theorem dX5_pitAt_22 : decode cX5_pitAt 22 = .ok (.iinc 2 1, 3) := by decide +kernel
theorem dX5_pitAt_25 : decode cX5_pitAt 25 = .ok (.goto (-23), 3) := by decide +kernel
theorem dX5_pitAt_28 : decode cX5_pitAt 28 = .ok (.iconst (-1), 1) := by decide +kernel
theorem dX5_pitAt_29 : decode cX5_pitAt 29 = .ok (.ireturn, 1) := by decide +kernel
theorem dX5_pegsNear_0 : decode cX5_pegsNear 0 = .ok (.iconst 0, 1) := by decide +kernel
theorem dX5_pegsNear_1 : decode cX5_pegsNear 1 = .ok (.istore_n 2, 1) := by decide +kernel
theorem dX5_pegsNear_2 : decode cX5_pegsNear 2 = .ok (.iconst 0, 1) := by decide +kernel
theorem dX5_pegsNear_3 : decode cX5_pegsNear 3 = .ok (.istore_n 3, 1) := by decide +kernel
theorem dX5_pegsNear_4 : decode cX5_pegsNear 4 = .ok (.iload_n 3, 1) := by decide +kernel
theorem dX5_pegsNear_5 : decode cX5_pegsNear 5 = .ok (.sipush 400, 3) := by decide +kernel
theorem dX5_pegsNear_8 : decode cX5_pegsNear 8 = .ok (.if_icmp .ge 35, 3) := by decide +kernel
theorem dX5_pegsNear_11 : decode cX5_pegsNear 11 = .ok (.iload_n 2, 1) := by decide +kernel
theorem dX5_pegsNear_12 : decode cX5_pegsNear 12 = .ok (.aload_n 0, 1) := by decide +kernel
theorem dX5_pegsNear_13 : decode cX5_pegsNear 13 = .ok (.getfield 38, 3) := by decide +kernel
theorem dX5_pegsNear_16 : decode cX5_pegsNear 16 = .ok (.iload_n 3, 1) := by decide +kernel
theorem dX5_pegsNear_17 : decode cX5_pegsNear 17 = .ok (.iaload, 1) := by decide +kernel
theorem dX5_pegsNear_18 : decode cX5_pegsNear 18 = .ok (.ifCond .le 16, 3) := by decide +kernel
theorem dX5_pegsNear_21 : decode cX5_pegsNear 21 = .ok (.iload_n 3, 1) := by decide +kernel
theorem dX5_pegsNear_22 : decode cX5_pegsNear 22 = .ok (.iload_n 1, 1) := by decide +kernel
theorem dX5_pegsNear_23 : decode cX5_pegsNear 23 = .ok (.invokestatic 79, 3) := by decide +kernel
theorem dX5_pegsNear_26 : decode cX5_pegsNear 26 = .ok (.iconst 1, 1) := by decide +kernel
theorem dX5_pegsNear_27 : decode cX5_pegsNear 27 = .ok (.if_icmp .ne 7, 3) := by decide +kernel
theorem dX5_pegsNear_30 : decode cX5_pegsNear 30 = .ok (.iconst 1, 1) := by decide +kernel
theorem dX5_pegsNear_31 : decode cX5_pegsNear 31 = .ok (.goto 4, 3) := by decide +kernel
theorem dX5_pegsNear_34 : decode cX5_pegsNear 34 = .ok (.iconst 0, 1) := by decide +kernel
theorem dX5_pegsNear_35 : decode cX5_pegsNear 35 = .ok (.iadd, 1) := by decide +kernel
theorem dX5_pegsNear_36 : decode cX5_pegsNear 36 = .ok (.istore_n 2, 1) := by decide +kernel
theorem dX5_pegsNear_37 : decode cX5_pegsNear 37 = .ok (.iinc 3 1, 3) := by decide +kernel
theorem dX5_pegsNear_40 : decode cX5_pegsNear 40 = .ok (.goto (-36), 3) := by decide +kernel
theorem dX5_pegsNear_43 : decode cX5_pegsNear 43 = .ok (.iload_n 2, 1) := by decide +kernel
theorem dX5_pegsNear_44 : decode cX5_pegsNear 44 = .ok (.ireturn, 1) := by decide +kernel
theorem dX5_nearest_0 : decode cX5_nearest 0 = .ok (.iconst (-1), 1) := by decide +kernel
theorem dX5_nearest_1 : decode cX5_nearest 1 = .ok (.istore_n 2, 1) := by decide +kernel
theorem dX5_nearest_2 : decode cX5_nearest 2 = .ok (.iconst 0, 1) := by decide +kernel
theorem dX5_nearest_3 : decode cX5_nearest 3 = .ok (.istore_n 3, 1) := by decide +kernel
theorem dX5_nearest_4 : decode cX5_nearest 4 = .ok (.iload_n 3, 1) := by decide +kernel
theorem dX5_nearest_5 : decode cX5_nearest 5 = .ok (.sipush 400, 3) := by decide +kernel
theorem dX5_nearest_8 : decode cX5_nearest 8 = .ok (.if_icmp .ge 38, 3) := by decide +kernel
theorem dX5_nearest_11 : decode cX5_nearest 11 = .ok (.aload_n 0, 1) := by decide +kernel
theorem dX5_nearest_12 : decode cX5_nearest 12 = .ok (.getfield 38, 3) := by decide +kernel
theorem dX5_nearest_15 : decode cX5_nearest 15 = .ok (.iload_n 3, 1) := by decide +kernel
theorem dX5_nearest_16 : decode cX5_nearest 16 = .ok (.iaload, 1) := by decide +kernel
theorem dX5_nearest_17 : decode cX5_nearest 17 = .ok (.ifCond .le 23, 3) := by decide +kernel
theorem dX5_nearest_20 : decode cX5_nearest 20 = .ok (.iload_n 2, 1) := by decide +kernel
theorem dX5_nearest_21 : decode cX5_nearest 21 = .ok (.iconst (-1), 1) := by decide +kernel
theorem dX5_nearest_22 : decode cX5_nearest 22 = .ok (.if_icmp .eq 12, 3) := by decide +kernel
theorem dX5_nearest_25 : decode cX5_nearest 25 = .ok (.iload_n 3, 1) := by decide +kernel
theorem dX5_nearest_26 : decode cX5_nearest 26 = .ok (.iload_n 1, 1) := by decide +kernel
theorem dX5_nearest_27 : decode cX5_nearest 27 = .ok (.invokestatic 79, 3) := by decide +kernel
theorem dX5_nearest_30 : decode cX5_nearest 30 = .ok (.iload_n 2, 1) := by decide +kernel
theorem dX5_nearest_31 : decode cX5_nearest 31 = .ok (.if_icmp .ge 9, 3) := by decide +kernel
theorem dX5_nearest_34 : decode cX5_nearest 34 = .ok (.iload_n 3, 1) := by decide +kernel
theorem dX5_nearest_35 : decode cX5_nearest 35 = .ok (.iload_n 1, 1) := by decide +kernel
theorem dX5_nearest_36 : decode cX5_nearest 36 = .ok (.invokestatic 79, 3) := by decide +kernel
theorem dX5_nearest_39 : decode cX5_nearest 39 = .ok (.istore_n 2, 1) := by decide +kernel
theorem dX5_nearest_40 : decode cX5_nearest 40 = .ok (.iinc 3 1, 3) := by decide +kernel
theorem dX5_nearest_43 : decode cX5_nearest 43 = .ok (.goto (-39), 3) := by decide +kernel
theorem dX5_nearest_46 : decode cX5_nearest 46 = .ok (.iload_n 2, 1) := by decide +kernel
theorem dX5_nearest_47 : decode cX5_nearest 47 = .ok (.ireturn, 1) := by decide +kernel
theorem dX5_layOut_0 : decode cX5_layOut 0 = .ok (.iload_n 3, 1) := by decide +kernel
theorem dX5_layOut_1 : decode cX5_layOut 1 = .ok (.bipush 20, 2) := by decide +kernel
theorem dX5_layOut_3 : decode cX5_layOut 3 = .ok (.irem, 1) := by decide +kernel
theorem dX5_layOut_4 : decode cX5_layOut 4 = .ok (.iload_n 2, 1) := by decide +kernel
theorem dX5_layOut_5 : decode cX5_layOut 5 = .ok (.bipush 20, 2) := by decide +kernel
theorem dX5_layOut_7 : decode cX5_layOut 7 = .ok (.irem, 1) := by decide +kernel
theorem dX5_layOut_8 : decode cX5_layOut 8 = .ok (.isub, 1) := by decide +kernel
theorem dX5_layOut_9 : decode cX5_layOut 9 = .ok (.invokestatic 66, 3) := by decide +kernel
theorem dX5_layOut_12 : decode cX5_layOut 12 = .ok (.iload_n 3, 1) := by decide +kernel
theorem dX5_layOut_13 : decode cX5_layOut 13 = .ok (.bipush 20, 2) := by decide +kernel
theorem dX5_layOut_15 : decode cX5_layOut 15 = .ok (.idiv, 1) := by decide +kernel
theorem dX5_layOut_16 : decode cX5_layOut 16 = .ok (.iload_n 2, 1) := by decide +kernel
theorem dX5_layOut_17 : decode cX5_layOut 17 = .ok (.bipush 20, 2) := by decide +kernel
theorem dX5_layOut_19 : decode cX5_layOut 19 = .ok (.idiv, 1) := by decide +kernel
theorem dX5_layOut_20 : decode cX5_layOut 20 = .ok (.isub, 1) := by decide +kernel
theorem dX5_layOut_21 : decode cX5_layOut 21 = .ok (.invokestatic 66, 3) := by decide +kernel
theorem dX5_layOut_24 : decode cX5_layOut 24 = .ok (.invokestatic 75, 3) := by decide +kernel
theorem dX5_layOut_27 : decode cX5_layOut 27 = .ok (.istore 4, 2) := by decide +kernel
theorem dX5_layOut_29 : decode cX5_layOut 29 = .ok (.iload 4, 2) := by decide +kernel
theorem dX5_layOut_31 : decode cX5_layOut 31 = .ok (.ifCond .ne 7, 3) := by decide +kernel
theorem dX5_layOut_34 : decode cX5_layOut 34 = .ok (.iconst 0, 1) := by decide +kernel
theorem dX5_layOut_35 : decode cX5_layOut 35 = .ok (.goto 9, 3) := by decide +kernel
theorem dX5_layOut_38 : decode cX5_layOut 38 = .ok (.iload_n 3, 1) := by decide +kernel
theorem dX5_layOut_39 : decode cX5_layOut 39 = .ok (.iload_n 2, 1) := by decide +kernel
theorem dX5_layOut_40 : decode cX5_layOut 40 = .ok (.isub, 1) := by decide +kernel
theorem dX5_layOut_41 : decode cX5_layOut 41 = .ok (.iload 4, 2) := by decide +kernel
theorem dX5_layOut_43 : decode cX5_layOut 43 = .ok (.idiv, 1) := by decide +kernel
theorem dX5_layOut_44 : decode cX5_layOut 44 = .ok (.istore 5, 2) := by decide +kernel
theorem dX5_layOut_46 : decode cX5_layOut 46 = .ok (.iconst 0, 1) := by decide +kernel
theorem dX5_layOut_47 : decode cX5_layOut 47 = .ok (.istore 6, 2) := by decide +kernel
theorem dX5_layOut_49 : decode cX5_layOut 49 = .ok (.iload 6, 2) := by decide +kernel
theorem dX5_layOut_51 : decode cX5_layOut 51 = .ok (.iload 4, 2) := by decide +kernel
theorem dX5_layOut_53 : decode cX5_layOut 53 = .ok (.if_icmp .gt 28, 3) := by decide +kernel
theorem dX5_layOut_56 : decode cX5_layOut 56 = .ok (.aload_n 0, 1) := by decide +kernel
theorem dX5_layOut_57 : decode cX5_layOut 57 = .ok (.getfield 20, 3) := by decide +kernel
theorem dX5_layOut_60 : decode cX5_layOut 60 = .ok (.sipush 400, 3) := by decide +kernel
theorem dX5_layOut_63 : decode cX5_layOut 63 = .ok (.iload_n 1, 1) := by decide +kernel
theorem dX5_layOut_64 : decode cX5_layOut 64 = .ok (.imul, 1) := by decide +kernel
theorem dX5_layOut_65 : decode cX5_layOut 65 = .ok (.iload_n 2, 1) := by decide +kernel
theorem dX5_layOut_66 : decode cX5_layOut 66 = .ok (.iadd, 1) := by decide +kernel
theorem dX5_layOut_67 : decode cX5_layOut 67 = .ok (.iload 6, 2) := by decide +kernel
theorem dX5_layOut_69 : decode cX5_layOut 69 = .ok (.iload 5, 2) := by decide +kernel
theorem dX5_layOut_71 : decode cX5_layOut 71 = .ok (.imul, 1) := by decide +kernel
theorem dX5_layOut_72 : decode cX5_layOut 72 = .ok (.iadd, 1) := by decide +kernel
theorem dX5_layOut_73 : decode cX5_layOut 73 = .ok (.iconst 2, 1) := by decide +kernel
theorem dX5_layOut_74 : decode cX5_layOut 74 = .ok (.iastore, 1) := by decide +kernel
theorem dX5_layOut_75 : decode cX5_layOut 75 = .ok (.iinc 6 1, 3) := by decide +kernel
theorem dX5_layOut_78 : decode cX5_layOut 78 = .ok (.goto (-29), 3) := by decide +kernel
theorem dX5_layOut_81 : decode cX5_layOut 81 = .ok (.iconst 0, 1) := by decide +kernel
theorem dX5_layOut_82 : decode cX5_layOut 82 = .ok (.istore 6, 2) := by decide +kernel
theorem dX5_layOut_84 : decode cX5_layOut 84 = .ok (.iload 6, 2) := by decide +kernel
theorem dX5_layOut_86 : decode cX5_layOut 86 = .ok (.sipush 400, 3) := by decide +kernel
theorem dX5_layOut_89 : decode cX5_layOut 89 = .ok (.if_icmp .ge 49, 3) := by decide +kernel
theorem dX5_layOut_92 : decode cX5_layOut 92 = .ok (.aload_n 0, 1) := by decide +kernel
theorem dX5_layOut_93 : decode cX5_layOut 93 = .ok (.getfield 20, 3) := by decide +kernel
theorem dX5_layOut_96 : decode cX5_layOut 96 = .ok (.sipush 400, 3) := by decide +kernel
theorem dX5_layOut_99 : decode cX5_layOut 99 = .ok (.iload_n 1, 1) := by decide +kernel
theorem dX5_layOut_100 : decode cX5_layOut 100 = .ok (.imul, 1) := by decide +kernel
theorem dX5_layOut_101 : decode cX5_layOut 101 = .ok (.iload 6, 2) := by decide +kernel
theorem dX5_layOut_103 : decode cX5_layOut 103 = .ok (.iadd, 1) := by decide +kernel
theorem dX5_layOut_104 : decode cX5_layOut 104 = .ok (.iaload, 1) := by decide +kernel
theorem dX5_layOut_105 : decode cX5_layOut 105 = .ok (.ifCond .ne 27, 3) := by decide +kernel
theorem dX5_layOut_108 : decode cX5_layOut 108 = .ok (.aload_n 0, 1) := by decide +kernel
theorem dX5_layOut_109 : decode cX5_layOut 109 = .ok (.iload_n 1, 1) := by decide +kernel
theorem dX5_layOut_110 : decode cX5_layOut 110 = .ok (.iload 6, 2) := by decide +kernel
theorem dX5_layOut_112 : decode cX5_layOut 112 = .ok (.invokevirtual 82, 3) := by decide +kernel
theorem dX5_layOut_115 : decode cX5_layOut 115 = .ok (.ifCond .eq 17, 3) := by decide +kernel
theorem dX5_layOut_118 : decode cX5_layOut 118 = .ok (.aload_n 0, 1) := by decide +kernel
theorem dX5_layOut_119 : decode cX5_layOut 119 = .ok (.getfield 20, 3) := by decide +kernel
theorem dX5_layOut_122 : decode cX5_layOut 122 = .ok (.sipush 400, 3) := by decide +kernel
theorem dX5_layOut_125 : decode cX5_layOut 125 = .ok (.iload_n 1, 1) := by decide +kernel
theorem dX5_layOut_126 : decode cX5_layOut 126 = .ok (.imul, 1) := by decide +kernel
theorem dX5_layOut_127 : decode cX5_layOut 127 = .ok (.iload 6, 2) := by decide +kernel
theorem dX5_layOut_129 : decode cX5_layOut 129 = .ok (.iadd, 1) := by decide +kernel
theorem dX5_layOut_130 : decode cX5_layOut 130 = .ok (.iconst 1, 1) := by decide +kernel
theorem dX5_layOut_131 : decode cX5_layOut 131 = .ok (.iastore, 1) := by decide +kernel
theorem dX5_layOut_132 : decode cX5_layOut 132 = .ok (.iinc 6 1, 3) := by decide +kernel
theorem dX5_layOut_135 : decode cX5_layOut 135 = .ok (.goto (-51), 3) := by decide +kernel
theorem dX5_layOut_138 : decode cX5_layOut 138 = .ok (.return_, 1) := by decide +kernel
theorem dX5_isBeside_0 : decode cX5_isBeside 0 = .ok (.iconst 0, 1) := by decide +kernel
theorem dX5_isBeside_1 : decode cX5_isBeside 1 = .ok (.istore_n 3, 1) := by decide +kernel
theorem dX5_isBeside_2 : decode cX5_isBeside 2 = .ok (.iload_n 3, 1) := by decide +kernel
theorem dX5_isBeside_3 : decode cX5_isBeside 3 = .ok (.sipush 400, 3) := by decide +kernel
theorem dX5_isBeside_6 : decode cX5_isBeside 6 = .ok (.if_icmp .ge 36, 3) := by decide +kernel
theorem dX5_isBeside_9 : decode cX5_isBeside 9 = .ok (.aload_n 0, 1) := by decide +kernel
theorem dX5_isBeside_10 : decode cX5_isBeside 10 = .ok (.getfield 20, 3) := by decide +kernel
theorem dX5_isBeside_13 : decode cX5_isBeside 13 = .ok (.sipush 400, 3) := by decide +kernel
theorem dX5_isBeside_16 : decode cX5_isBeside 16 = .ok (.iload_n 1, 1) := by decide +kernel
theorem dX5_isBeside_17 : decode cX5_isBeside 17 = .ok (.imul, 1) := by decide +kernel
theorem dX5_isBeside_18 : decode cX5_isBeside 18 = .ok (.iload_n 3, 1) := by decide +kernel
theorem dX5_isBeside_19 : decode cX5_isBeside 19 = .ok (.iadd, 1) := by decide +kernel
theorem dX5_isBeside_20 : decode cX5_isBeside 20 = .ok (.iaload, 1) := by decide +kernel
theorem dX5_isBeside_21 : decode cX5_isBeside 21 = .ok (.iconst 2, 1) := by decide +kernel
theorem dX5_isBeside_22 : decode cX5_isBeside 22 = .ok (.if_icmp .ne 14, 3) := by decide +kernel
theorem dX5_isBeside_25 : decode cX5_isBeside 25 = .ok (.iload_n 3, 1) := by decide +kernel
theorem dX5_isBeside_26 : decode cX5_isBeside 26 = .ok (.iload_n 2, 1) := by decide +kernel
theorem dX5_isBeside_27 : decode cX5_isBeside 27 = .ok (.invokestatic 79, 3) := by decide +kernel
theorem dX5_isBeside_30 : decode cX5_isBeside 30 = .ok (.iconst 1, 1) := by decide +kernel
theorem dX5_isBeside_31 : decode cX5_isBeside 31 = .ok (.if_icmp .ne 5, 3) := by decide +kernel
theorem dX5_isBeside_34 : decode cX5_isBeside 34 = .ok (.iconst 1, 1) := by decide +kernel
theorem dX5_isBeside_35 : decode cX5_isBeside 35 = .ok (.ireturn, 1) := by decide +kernel
theorem dX5_isBeside_36 : decode cX5_isBeside 36 = .ok (.iinc 3 1, 3) := by decide +kernel
theorem dX5_isBeside_39 : decode cX5_isBeside 39 = .ok (.goto (-37), 3) := by decide +kernel
theorem dX5_isBeside_42 : decode cX5_isBeside 42 = .ok (.iconst 0, 1) := by decide +kernel
theorem dX5_isBeside_43 : decode cX5_isBeside 43 = .ok (.ireturn, 1) := by decide +kernel
theorem dX5_vein_0 : decode cX5_vein 0 = .ok (.aload_n 0, 1) := by decide +kernel
theorem dX5_vein_1 : decode cX5_vein 1 = .ok (.iconst 0, 1) := by decide +kernel
theorem dX5_vein_2 : decode cX5_vein 2 = .ok (.putfield 53, 3) := by decide +kernel
theorem dX5_vein_5 : decode cX5_vein 5 = .ok (.iload_n 1, 1) := by decide +kernel
theorem dX5_vein_6 : decode cX5_vein 6 = .ok (.iload_n 2, 1) := by decide +kernel
theorem dX5_vein_7 : decode cX5_vein 7 = .ok (.invokestatic 86, 3) := by decide +kernel
theorem dX5_vein_10 : decode cX5_vein 10 = .ok (.ifCond .eq 12, 3) := by decide +kernel
theorem dX5_vein_13 : decode cX5_vein 13 = .ok (.iload_n 3, 1) := by decide +kernel
theorem dX5_vein_14 : decode cX5_vein 14 = .ok (.iload 4, 2) := by decide +kernel
theorem dX5_vein_16 : decode cX5_vein 16 = .ok (.invokestatic 86, 3) := by decide +kernel
theorem dX5_vein_19 : decode cX5_vein 19 = .ok (.ifCond .ne 9, 3) := by decide +kernel
theorem dX5_vein_22 : decode cX5_vein 22 = .ok (.aload_n 0, 1) := by decide +kernel
theorem dX5_vein_23 : decode cX5_vein 23 = .ok (.iconst 1, 1) := by decide +kernel
theorem dX5_vein_24 : decode cX5_vein 24 = .ok (.invokevirtual 89, 3) := by decide +kernel
theorem dX5_vein_27 : decode cX5_vein 27 = .ok (.ireturn, 1) := by decide +kernel
theorem dX5_vein_28 : decode cX5_vein 28 = .ok (.iload_n 1, 1) := by decide +kernel
theorem dX5_vein_29 : decode cX5_vein 29 = .ok (.iload_n 3, 1) := by decide +kernel
theorem dX5_vein_30 : decode cX5_vein 30 = .ok (.if_icmp .eq 25, 3) := by decide +kernel
theorem dX5_vein_33 : decode cX5_vein 33 = .ok (.iload_n 2, 1) := by decide +kernel
theorem dX5_vein_34 : decode cX5_vein 34 = .ok (.iload 4, 2) := by decide +kernel
theorem dX5_vein_36 : decode cX5_vein 36 = .ok (.if_icmp .eq 19, 3) := by decide +kernel
theorem dX5_vein_39 : decode cX5_vein 39 = .ok (.iload_n 1, 1) := by decide +kernel
theorem dX5_vein_40 : decode cX5_vein 40 = .ok (.iload_n 3, 1) := by decide +kernel
theorem dX5_vein_41 : decode cX5_vein 41 = .ok (.isub, 1) := by decide +kernel
theorem dX5_vein_42 : decode cX5_vein 42 = .ok (.invokestatic 66, 3) := by decide +kernel
theorem dX5_vein_45 : decode cX5_vein 45 = .ok (.iload_n 2, 1) := by decide +kernel
theorem dX5_vein_46 : decode cX5_vein 46 = .ok (.iload 4, 2) := by decide +kernel
theorem dX5_vein_48 : decode cX5_vein 48 = .ok (.isub, 1) := by decide +kernel
theorem dX5_vein_49 : decode cX5_vein 49 = .ok (.invokestatic 66, 3) := by decide +kernel
theorem dX5_vein_52 : decode cX5_vein 52 = .ok (.if_icmp .ne 7, 3) := by decide +kernel
theorem dX5_vein_55 : decode cX5_vein 55 = .ok (.iconst 1, 1) := by decide +kernel
theorem dX5_vein_56 : decode cX5_vein 56 = .ok (.goto 4, 3) := by decide +kernel
theorem dX5_vein_59 : decode cX5_vein 59 = .ok (.iconst 0, 1) := by decide +kernel
theorem dX5_vein_60 : decode cX5_vein 60 = .ok (.istore 7, 2) := by decide +kernel
theorem dX5_vein_62 : decode cX5_vein 62 = .ok (.iload 7, 2) := by decide +kernel
theorem dX5_vein_64 : decode cX5_vein 64 = .ok (.ifCond .eq 25, 3) := by decide +kernel
theorem dX5_vein_67 : decode cX5_vein 67 = .ok (.iload 5, 2) := by decide +kernel
theorem dX5_vein_69 : decode cX5_vein 69 = .ok (.iconst 1, 1) := by decide +kernel
theorem dX5_vein_70 : decode cX5_vein 70 = .ok (.bipush 20, 2) := by decide +kernel
theorem dX5_vein_72 : decode cX5_vein 72 = .ok (.invokestatic 56, 3) := by decide +kernel
theorem dX5_vein_75 : decode cX5_vein 75 = .ok (.ifCond .eq 14, 3) := by decide +kernel
theorem dX5_vein_78 : decode cX5_vein 78 = .ok (.iload 6, 2) := by decide +kernel
theorem dX5_vein_80 : decode cX5_vein 80 = .ok (.iconst 1, 1) := by decide +kernel
theorem dX5_vein_81 : decode cX5_vein 81 = .ok (.bipush 9, 2) := by decide +kernel
theorem dX5_vein_83 : decode cX5_vein 83 = .ok (.invokestatic 56, 3) := by decide +kernel
theorem dX5_vein_86 : decode cX5_vein 86 = .ok (.ifCond .ne 9, 3) := by decide +kernel
theorem dX5_vein_89 : decode cX5_vein 89 = .ok (.aload_n 0, 1) := by decide +kernel
theorem dX5_vein_90 : decode cX5_vein 90 = .ok (.iconst 2, 1) := by decide +kernel
theorem dX5_vein_91 : decode cX5_vein 91 = .ok (.invokevirtual 89, 3) := by decide +kernel
theorem dX5_vein_94 : decode cX5_vein 94 = .ok (.ireturn, 1) := by decide +kernel
theorem dX5_vein_95 : decode cX5_vein 95 = .ok (.aload_n 0, 1) := by decide +kernel
theorem dX5_vein_96 : decode cX5_vein 96 = .ok (.getfield 72, 3) := by decide +kernel
theorem dX5_vein_99 : decode cX5_vein 99 = .ok (.bipush 6, 2) := by decide +kernel
theorem dX5_vein_101 : decode cX5_vein 101 = .ok (.if_icmp .ne 9, 3) := by decide +kernel
theorem dX5_vein_104 : decode cX5_vein 104 = .ok (.aload_n 0, 1) := by decide +kernel
theorem dX5_vein_105 : decode cX5_vein 105 = .ok (.iconst 3, 1) := by decide +kernel
theorem dX5_vein_106 : decode cX5_vein 106 = .ok (.invokevirtual 89, 3) := by decide +kernel
theorem dX5_vein_109 : decode cX5_vein 109 = .ok (.ireturn, 1) := by decide +kernel
theorem dX5_vein_110 : decode cX5_vein 110 = .ok (.aload_n 0, 1) := by decide +kernel
theorem dX5_vein_111 : decode cX5_vein 111 = .ok (.getfield 13, 3) := by decide +kernel
theorem dX5_vein_114 : decode cX5_vein 114 = .ok (.aload_n 0, 1) := by decide +kernel
theorem dX5_vein_115 : decode cX5_vein 115 = .ok (.getfield 72, 3) := by decide +kernel
theorem dX5_vein_118 : decode cX5_vein 118 = .ok (.iload 5, 2) := by decide +kernel
theorem dX5_vein_120 : decode cX5_vein 120 = .ok (.iastore, 1) := by decide +kernel
theorem dX5_vein_121 : decode cX5_vein 121 = .ok (.aload_n 0, 1) := by decide +kernel
theorem dX5_vein_122 : decode cX5_vein 122 = .ok (.getfield 17, 3) := by decide +kernel
theorem dX5_vein_125 : decode cX5_vein 125 = .ok (.aload_n 0, 1) := by decide +kernel
theorem dX5_vein_126 : decode cX5_vein 126 = .ok (.getfield 72, 3) := by decide +kernel
theorem dX5_vein_129 : decode cX5_vein 129 = .ok (.iload 6, 2) := by decide +kernel
theorem dX5_vein_131 : decode cX5_vein 131 = .ok (.iastore, 1) := by decide +kernel
theorem dX5_vein_132 : decode cX5_vein 132 = .ok (.aload_n 0, 1) := by decide +kernel
theorem dX5_vein_133 : decode cX5_vein 133 = .ok (.aload_n 0, 1) := by decide +kernel
theorem dX5_vein_134 : decode cX5_vein 134 = .ok (.getfield 72, 3) := by decide +kernel
theorem dX5_vein_137 : decode cX5_vein 137 = .ok (.bipush 20, 2) := by decide +kernel
theorem dX5_vein_139 : decode cX5_vein 139 = .ok (.iload_n 2, 1) := by decide +kernel
theorem dX5_vein_140 : decode cX5_vein 140 = .ok (.imul, 1) := by decide +kernel
theorem dX5_vein_141 : decode cX5_vein 141 = .ok (.iload_n 1, 1) := by decide +kernel
theorem dX5_vein_142 : decode cX5_vein 142 = .ok (.iadd, 1) := by decide +kernel
theorem dX5_vein_143 : decode cX5_vein 143 = .ok (.bipush 20, 2) := by decide +kernel
theorem dX5_vein_145 : decode cX5_vein 145 = .ok (.iload 4, 2) := by decide +kernel
theorem dX5_vein_147 : decode cX5_vein 147 = .ok (.imul, 1) := by decide +kernel
theorem dX5_vein_148 : decode cX5_vein 148 = .ok (.iload_n 3, 1) := by decide +kernel
theorem dX5_vein_149 : decode cX5_vein 149 = .ok (.iadd, 1) := by decide +kernel
theorem dX5_vein_150 : decode cX5_vein 150 = .ok (.invokevirtual 92, 3) := by decide +kernel
theorem dX5_vein_153 : decode cX5_vein 153 = .ok (.aload_n 0, 1) := by decide +kernel
theorem dX5_vein_154 : decode cX5_vein 154 = .ok (.dup, 1) := by decide +kernel
theorem dX5_vein_155 : decode cX5_vein 155 = .ok (.getfield 72, 3) := by decide +kernel
theorem dX5_vein_158 : decode cX5_vein 158 = .ok (.iconst 1, 1) := by decide +kernel
theorem dX5_vein_159 : decode cX5_vein 159 = .ok (.iadd, 1) := by decide +kernel
theorem dX5_vein_160 : decode cX5_vein 160 = .ok (.putfield 72, 3) := by decide +kernel
theorem dX5_vein_163 : decode cX5_vein 163 = .ok (.aload_n 0, 1) := by decide +kernel
theorem dX5_vein_164 : decode cX5_vein 164 = .ok (.getfield 72, 3) := by decide +kernel
theorem dX5_vein_167 : decode cX5_vein 167 = .ok (.iconst 1, 1) := by decide +kernel
theorem dX5_vein_168 : decode cX5_vein 168 = .ok (.isub, 1) := by decide +kernel
theorem dX5_vein_169 : decode cX5_vein 169 = .ok (.ireturn, 1) := by decide +kernel
theorem dX5_dowser_0 : decode cX5_dowser 0 = .ok (.aload_n 0, 1) := by decide +kernel
theorem dX5_dowser_1 : decode cX5_dowser 1 = .ok (.iconst 0, 1) := by decide +kernel
theorem dX5_dowser_2 : decode cX5_dowser 2 = .ok (.putfield 53, 3) := by decide +kernel
theorem dX5_dowser_5 : decode cX5_dowser 5 = .ok (.iload_n 1, 1) := by decide +kernel
theorem dX5_dowser_6 : decode cX5_dowser 6 = .ok (.iconst 0, 1) := by decide +kernel
theorem dX5_dowser_7 : decode cX5_dowser 7 = .ok (.bipush 9, 2) := by decide +kernel
theorem dX5_dowser_9 : decode cX5_dowser 9 = .ok (.invokestatic 56, 3) := by decide +kernel
theorem dX5_dowser_12 : decode cX5_dowser 12 = .ok (.ifCond .eq 13, 3) := by decide +kernel
theorem dX5_dowser_15 : decode cX5_dowser 15 = .ok (.iload_n 2, 1) := by decide +kernel
theorem dX5_dowser_16 : decode cX5_dowser 16 = .ok (.bipush (-3), 2) := by decide +kernel
theorem dX5_dowser_18 : decode cX5_dowser 18 = .ok (.iconst 3, 1) := by decide +kernel
theorem dX5_dowser_19 : decode cX5_dowser 19 = .ok (.invokestatic 56, 3) := by decide +kernel
theorem dX5_dowser_22 : decode cX5_dowser 22 = .ok (.ifCond .ne 9, 3) := by decide +kernel
theorem dX5_dowser_25 : decode cX5_dowser 25 = .ok (.aload_n 0, 1) := by decide +kernel
theorem dX5_dowser_26 : decode cX5_dowser 26 = .ok (.iconst 1, 1) := by decide +kernel
theorem dX5_dowser_27 : decode cX5_dowser 27 = .ok (.invokevirtual 89, 3) := by decide +kernel
theorem dX5_dowser_30 : decode cX5_dowser 30 = .ok (.ireturn, 1) := by decide +kernel
theorem dX5_dowser_31 : decode cX5_dowser 31 = .ok (.aload_n 0, 1) := by decide +kernel
theorem dX5_dowser_32 : decode cX5_dowser 32 = .ok (.getfield 60, 3) := by decide +kernel
theorem dX5_dowser_35 : decode cX5_dowser 35 = .ok (.iconst 5, 1) := by decide +kernel
theorem dX5_dowser_36 : decode cX5_dowser 36 = .ok (.if_icmp .ne 9, 3) := by decide +kernel
theorem dX5_dowser_39 : decode cX5_dowser 39 = .ok (.aload_n 0, 1) := by decide +kernel
theorem dX5_dowser_40 : decode cX5_dowser 40 = .ok (.iconst 2, 1) := by decide +kernel
theorem dX5_dowser_41 : decode cX5_dowser 41 = .ok (.invokevirtual 89, 3) := by decide +kernel
theorem dX5_dowser_44 : decode cX5_dowser 44 = .ok (.ireturn, 1) := by decide +kernel
theorem dX5_dowser_45 : decode cX5_dowser 45 = .ok (.aload_n 0, 1) := by decide +kernel
theorem dX5_dowser_46 : decode cX5_dowser 46 = .ok (.getfield 23, 3) := by decide +kernel
theorem dX5_dowser_49 : decode cX5_dowser 49 = .ok (.aload_n 0, 1) := by decide +kernel
theorem dX5_dowser_50 : decode cX5_dowser 50 = .ok (.getfield 60, 3) := by decide +kernel
theorem dX5_dowser_53 : decode cX5_dowser 53 = .ok (.iload_n 1, 1) := by decide +kernel
theorem dX5_dowser_54 : decode cX5_dowser 54 = .ok (.iastore, 1) := by decide +kernel
theorem dX5_dowser_55 : decode cX5_dowser 55 = .ok (.aload_n 0, 1) := by decide +kernel
theorem dX5_dowser_56 : decode cX5_dowser 56 = .ok (.getfield 26, 3) := by decide +kernel
theorem dX5_dowser_59 : decode cX5_dowser 59 = .ok (.aload_n 0, 1) := by decide +kernel
theorem dX5_dowser_60 : decode cX5_dowser 60 = .ok (.getfield 60, 3) := by decide +kernel
theorem dX5_dowser_63 : decode cX5_dowser 63 = .ok (.iload_n 2, 1) := by decide +kernel
theorem dX5_dowser_64 : decode cX5_dowser 64 = .ok (.iastore, 1) := by decide +kernel
theorem dX5_dowser_65 : decode cX5_dowser 65 = .ok (.aload_n 0, 1) := by decide +kernel
theorem dX5_dowser_66 : decode cX5_dowser 66 = .ok (.getfield 29, 3) := by decide +kernel
theorem dX5_dowser_69 : decode cX5_dowser 69 = .ok (.aload_n 0, 1) := by decide +kernel
theorem dX5_dowser_70 : decode cX5_dowser 70 = .ok (.getfield 60, 3) := by decide +kernel
theorem dX5_dowser_73 : decode cX5_dowser 73 = .ok (.bipush 50, 2) := by decide +kernel
theorem dX5_dowser_75 : decode cX5_dowser 75 = .ok (.iastore, 1) := by decide +kernel
theorem dX5_dowser_76 : decode cX5_dowser 76 = .ok (.aload_n 0, 1) := by decide +kernel
theorem dX5_dowser_77 : decode cX5_dowser 77 = .ok (.dup, 1) := by decide +kernel
theorem dX5_dowser_78 : decode cX5_dowser 78 = .ok (.getfield 60, 3) := by decide +kernel
theorem dX5_dowser_81 : decode cX5_dowser 81 = .ok (.iconst 1, 1) := by decide +kernel
theorem dX5_dowser_82 : decode cX5_dowser 82 = .ok (.iadd, 1) := by decide +kernel
theorem dX5_dowser_83 : decode cX5_dowser 83 = .ok (.putfield 60, 3) := by decide +kernel
theorem dX5_dowser_86 : decode cX5_dowser 86 = .ok (.aload_n 0, 1) := by decide +kernel
theorem dX5_dowser_87 : decode cX5_dowser 87 = .ok (.getfield 60, 3) := by decide +kernel
theorem dX5_dowser_90 : decode cX5_dowser 90 = .ok (.iconst 1, 1) := by decide +kernel
theorem dX5_dowser_91 : decode cX5_dowser 91 = .ok (.isub, 1) := by decide +kernel
theorem dX5_dowser_92 : decode cX5_dowser 92 = .ok (.ireturn, 1) := by decide +kernel
theorem dX5_setMark_0 : decode cX5_setMark 0 = .ok (.aload_n 0, 1) := by decide +kernel
theorem dX5_setMark_1 : decode cX5_setMark 1 = .ok (.iconst 0, 1) := by decide +kernel
theorem dX5_setMark_2 : decode cX5_setMark 2 = .ok (.putfield 53, 3) := by decide +kernel
theorem dX5_setMark_5 : decode cX5_setMark 5 = .ok (.iload_n 1, 1) := by decide +kernel
theorem dX5_setMark_6 : decode cX5_setMark 6 = .ok (.iconst 1, 1) := by decide +kernel
theorem dX5_setMark_7 : decode cX5_setMark 7 = .ok (.bipush 30, 2) := by decide +kernel
theorem dX5_setMark_9 : decode cX5_setMark 9 = .ok (.invokestatic 56, 3) := by decide +kernel
theorem dX5_setMark_12 : decode cX5_setMark 12 = .ok (.ifCond .ne 9, 3) := by decide +kernel
theorem dX5_setMark_15 : decode cX5_setMark 15 = .ok (.aload_n 0, 1) := by decide +kernel
theorem dX5_setMark_16 : decode cX5_setMark 16 = .ok (.iconst 1, 1) := by decide +kernel
theorem dX5_setMark_17 : decode cX5_setMark 17 = .ok (.invokevirtual 89, 3) := by decide +kernel
theorem dX5_setMark_20 : decode cX5_setMark 20 = .ok (.ireturn, 1) := by decide +kernel
theorem dX5_setMark_21 : decode cX5_setMark 21 = .ok (.aload_n 0, 1) := by decide +kernel
theorem dX5_setMark_22 : decode cX5_setMark 22 = .ok (.getfield 9, 3) := by decide +kernel
theorem dX5_setMark_25 : decode cX5_setMark 25 = .ok (.istore_n 2, 1) := by decide +kernel
theorem dX5_setMark_26 : decode cX5_setMark 26 = .ok (.aload_n 0, 1) := by decide +kernel
theorem dX5_setMark_27 : decode cX5_setMark 27 = .ok (.iload_n 1, 1) := by decide +kernel
theorem dX5_setMark_28 : decode cX5_setMark 28 = .ok (.putfield 9, 3) := by decide +kernel
theorem dX5_setMark_31 : decode cX5_setMark 31 = .ok (.iload_n 2, 1) := by decide +kernel
theorem dX5_setMark_32 : decode cX5_setMark 32 = .ok (.ireturn, 1) := by decide +kernel
theorem dX5_marks_0 : decode cX5_marks 0 = .ok (.aload_n 0, 1) := by decide +kernel
theorem dX5_marks_1 : decode cX5_marks 1 = .ok (.getfield 96, 3) := by decide +kernel
theorem dX5_marks_4 : decode cX5_marks 4 = .ok (.bipush 60, 2) := by decide +kernel
theorem dX5_marks_6 : decode cX5_marks 6 = .ok (.if_icmp .eq 25, 3) := by decide +kernel
theorem dX5_marks_9 : decode cX5_marks 9 = .ok (.aload_n 0, 1) := by decide +kernel
theorem dX5_marks_10 : decode cX5_marks 10 = .ok (.getfield 38, 3) := by decide +kernel
theorem dX5_marks_13 : decode cX5_marks 13 = .ok (.iload_n 2, 1) := by decide +kernel
theorem dX5_marks_14 : decode cX5_marks 14 = .ok (.iaload, 1) := by decide +kernel
theorem dX5_marks_15 : decode cX5_marks 15 = .ok (.ifCond .gt 16, 3) := by decide +kernel
theorem dX5_marks_18 : decode cX5_marks 18 = .ok (.aload_n 0, 1) := by decide +kernel
theorem dX5_marks_19 : decode cX5_marks 19 = .ok (.iload_n 1, 1) := by decide +kernel
theorem dX5_marks_20 : decode cX5_marks 20 = .ok (.iload_n 2, 1) := by decide +kernel
theorem dX5_marks_21 : decode cX5_marks 21 = .ok (.invokevirtual 99, 3) := by decide +kernel
theorem dX5_marks_24 : decode cX5_marks 24 = .ok (.aload_n 0, 1) := by decide +kernel
theorem dX5_marks_25 : decode cX5_marks 25 = .ok (.getfield 9, 3) := by decide +kernel
theorem dX5_marks_28 : decode cX5_marks 28 = .ok (.if_icmp .ge 5, 3) := by decide +kernel
theorem dX5_marks_31 : decode cX5_marks 31 = .ok (.iconst 0, 1) := by decide +kernel
theorem dX5_marks_32 : decode cX5_marks 32 = .ok (.ireturn, 1) := by decide +kernel
theorem dX5_marks_33 : decode cX5_marks 33 = .ok (.aload_n 0, 1) := by decide +kernel
theorem dX5_marks_34 : decode cX5_marks 34 = .ok (.getfield 38, 3) := by decide +kernel
theorem dX5_marks_37 : decode cX5_marks 37 = .ok (.iload_n 2, 1) := by decide +kernel
theorem dX5_marks_38 : decode cX5_marks 38 = .ok (.iload_n 1, 1) := by decide +kernel
theorem dX5_marks_39 : decode cX5_marks 39 = .ok (.iconst 1, 1) := by decide +kernel
theorem dX5_marks_40 : decode cX5_marks 40 = .ok (.iadd, 1) := by decide +kernel
theorem dX5_marks_41 : decode cX5_marks 41 = .ok (.iastore, 1) := by decide +kernel
theorem dX5_marks_42 : decode cX5_marks 42 = .ok (.aload_n 0, 1) := by decide +kernel
theorem dX5_marks_43 : decode cX5_marks 43 = .ok (.dup, 1) := by decide +kernel
theorem dX5_marks_44 : decode cX5_marks 44 = .ok (.getfield 96, 3) := by decide +kernel
theorem dX5_marks_47 : decode cX5_marks 47 = .ok (.iconst 1, 1) := by decide +kernel
theorem dX5_marks_48 : decode cX5_marks 48 = .ok (.iadd, 1) := by decide +kernel
theorem dX5_marks_49 : decode cX5_marks 49 = .ok (.putfield 96, 3) := by decide +kernel
theorem dX5_marks_52 : decode cX5_marks 52 = .ok (.iconst 1, 1) := by decide +kernel
theorem dX5_marks_53 : decode cX5_marks 53 = .ok (.ireturn, 1) := by decide +kernel
theorem dX5_walk_0 : decode cX5_walk 0 = .ok (.aload_n 0, 1) := by decide +kernel
theorem dX5_walk_1 : decode cX5_walk 1 = .ok (.iconst 0, 1) := by decide +kernel
theorem dX5_walk_2 : decode cX5_walk 2 = .ok (.putfield 53, 3) := by decide +kernel
theorem dX5_walk_5 : decode cX5_walk 5 = .ok (.aload_n 0, 1) := by decide +kernel
theorem dX5_walk_6 : decode cX5_walk 6 = .ok (.iload_n 1, 1) := by decide +kernel
theorem dX5_walk_7 : decode cX5_walk 7 = .ok (.invokevirtual 102, 3) := by decide +kernel
theorem dX5_walk_10 : decode cX5_walk 10 = .ok (.ifCond .eq 21, 3) := by decide +kernel
theorem dX5_walk_13 : decode cX5_walk 13 = .ok (.iload_n 2, 1) := by decide +kernel
theorem dX5_walk_14 : decode cX5_walk 14 = .ok (.iload_n 3, 1) := by decide +kernel
theorem dX5_walk_15 : decode cX5_walk 15 = .ok (.invokestatic 86, 3) := by decide +kernel
theorem dX5_walk_18 : decode cX5_walk 18 = .ok (.ifCond .eq 13, 3) := by decide +kernel
theorem dX5_walk_21 : decode cX5_walk 21 = .ok (.iload 4, 2) := by decide +kernel
theorem dX5_walk_23 : decode cX5_walk 23 = .ok (.iload 5, 2) := by decide +kernel
theorem dX5_walk_25 : decode cX5_walk 25 = .ok (.invokestatic 86, 3) := by decide +kernel
theorem dX5_walk_28 : decode cX5_walk 28 = .ok (.ifCond .ne 9, 3) := by decide +kernel
theorem dX5_walk_31 : decode cX5_walk 31 = .ok (.aload_n 0, 1) := by decide +kernel
theorem dX5_walk_32 : decode cX5_walk 32 = .ok (.iconst 1, 1) := by decide +kernel
theorem dX5_walk_33 : decode cX5_walk 33 = .ok (.invokevirtual 89, 3) := by decide +kernel
theorem dX5_walk_36 : decode cX5_walk 36 = .ok (.ireturn, 1) := by decide +kernel
theorem dX5_walk_37 : decode cX5_walk 37 = .ok (.iload 4, 2) := by decide +kernel
theorem dX5_walk_39 : decode cX5_walk 39 = .ok (.iload_n 2, 1) := by decide +kernel
theorem dX5_walk_40 : decode cX5_walk 40 = .ok (.if_icmp .ge 7, 3) := by decide +kernel
theorem dX5_walk_43 : decode cX5_walk 43 = .ok (.iconst (-1), 1) := by decide +kernel
theorem dX5_walk_44 : decode cX5_walk 44 = .ok (.goto 4, 3) := by decide +kernel
theorem dX5_walk_47 : decode cX5_walk 47 = .ok (.iconst 1, 1) := by decide +kernel
theorem dX5_walk_48 : decode cX5_walk 48 = .ok (.istore 6, 2) := by decide +kernel
theorem dX5_walk_50 : decode cX5_walk 50 = .ok (.iload 5, 2) := by decide +kernel
theorem dX5_walk_52 : decode cX5_walk 52 = .ok (.iload_n 3, 1) := by decide +kernel
theorem dX5_walk_53 : decode cX5_walk 53 = .ok (.if_icmp .ge 7, 3) := by decide +kernel
theorem dX5_walk_56 : decode cX5_walk 56 = .ok (.iconst (-1), 1) := by decide +kernel
theorem dX5_walk_57 : decode cX5_walk 57 = .ok (.goto 4, 3) := by decide +kernel
theorem dX5_walk_60 : decode cX5_walk 60 = .ok (.iconst 1, 1) := by decide +kernel
theorem dX5_walk_61 : decode cX5_walk 61 = .ok (.istore 7, 2) := by decide +kernel
theorem dX5_walk_63 : decode cX5_walk 63 = .ok (.iconst 0, 1) := by decide +kernel
theorem dX5_walk_64 : decode cX5_walk 64 = .ok (.istore 8, 2) := by decide +kernel
theorem dX5_walk_66 : decode cX5_walk 66 = .ok (.iload_n 2, 1) := by decide +kernel
theorem dX5_walk_67 : decode cX5_walk 67 = .ok (.istore 9, 2) := by decide +kernel
theorem dX5_walk_69 : decode cX5_walk 69 = .ok (.iload 9, 2) := by decide +kernel
theorem dX5_walk_71 : decode cX5_walk 71 = .ok (.iload 4, 2) := by decide +kernel
theorem dX5_walk_73 : decode cX5_walk 73 = .ok (.if_icmp .eq 30, 3) := by decide +kernel
theorem dX5_walk_76 : decode cX5_walk 76 = .ok (.iload 8, 2) := by decide +kernel
theorem dX5_walk_78 : decode cX5_walk 78 = .ok (.aload_n 0, 1) := by decide +kernel
theorem dX5_walk_79 : decode cX5_walk 79 = .ok (.iload_n 1, 1) := by decide +kernel
theorem dX5_walk_80 : decode cX5_walk 80 = .ok (.bipush 20, 2) := by decide +kernel
theorem dX5_walk_82 : decode cX5_walk 82 = .ok (.iload_n 3, 1) := by decide +kernel
theorem dX5_walk_83 : decode cX5_walk 83 = .ok (.imul, 1) := by decide +kernel
theorem dX5_walk_84 : decode cX5_walk 84 = .ok (.iload 9, 2) := by decide +kernel
theorem dX5_walk_86 : decode cX5_walk 86 = .ok (.iadd, 1) := by decide +kernel
theorem dX5_walk_87 : decode cX5_walk 87 = .ok (.invokevirtual 106, 3) := by decide +kernel
theorem dX5_walk_90 : decode cX5_walk 90 = .ok (.iadd, 1) := by decide +kernel
theorem dX5_walk_91 : decode cX5_walk 91 = .ok (.istore 8, 2) := by decide +kernel
theorem dX5_walk_93 : decode cX5_walk 93 = .ok (.iload 9, 2) := by decide +kernel
theorem dX5_walk_95 : decode cX5_walk 95 = .ok (.iload 6, 2) := by decide +kernel
theorem dX5_walk_97 : decode cX5_walk 97 = .ok (.iadd, 1) := by decide +kernel
theorem dX5_walk_98 : decode cX5_walk 98 = .ok (.istore 9, 2) := by decide +kernel
theorem dX5_walk_100 : decode cX5_walk 100 = .ok (.goto (-31), 3) := by decide +kernel
theorem dX5_walk_103 : decode cX5_walk 103 = .ok (.iload_n 3, 1) := by decide +kernel
theorem dX5_walk_104 : decode cX5_walk 104 = .ok (.istore 9, 2) := by decide +kernel
theorem dX5_walk_106 : decode cX5_walk 106 = .ok (.iload 9, 2) := by decide +kernel
theorem dX5_walk_108 : decode cX5_walk 108 = .ok (.iload 5, 2) := by decide +kernel
theorem dX5_walk_110 : decode cX5_walk 110 = .ok (.if_icmp .eq 31, 3) := by decide +kernel
theorem dX5_walk_113 : decode cX5_walk 113 = .ok (.iload 8, 2) := by decide +kernel
theorem dX5_walk_115 : decode cX5_walk 115 = .ok (.aload_n 0, 1) := by decide +kernel
theorem dX5_walk_116 : decode cX5_walk 116 = .ok (.iload_n 1, 1) := by decide +kernel
theorem dX5_walk_117 : decode cX5_walk 117 = .ok (.bipush 20, 2) := by decide +kernel
theorem dX5_walk_119 : decode cX5_walk 119 = .ok (.iload 9, 2) := by decide +kernel
theorem dX5_walk_121 : decode cX5_walk 121 = .ok (.imul, 1) := by decide +kernel
theorem dX5_walk_122 : decode cX5_walk 122 = .ok (.iload 4, 2) := by decide +kernel
theorem dX5_walk_124 : decode cX5_walk 124 = .ok (.iadd, 1) := by decide +kernel
theorem dX5_walk_125 : decode cX5_walk 125 = .ok (.invokevirtual 106, 3) := by decide +kernel
theorem dX5_walk_128 : decode cX5_walk 128 = .ok (.iadd, 1) := by decide +kernel
theorem dX5_walk_129 : decode cX5_walk 129 = .ok (.istore 8, 2) := by decide +kernel
theorem dX5_walk_131 : decode cX5_walk 131 = .ok (.iload 9, 2) := by decide +kernel
theorem dX5_walk_133 : decode cX5_walk 133 = .ok (.iload 7, 2) := by decide +kernel
theorem dX5_walk_135 : decode cX5_walk 135 = .ok (.iadd, 1) := by decide +kernel
theorem dX5_walk_136 : decode cX5_walk 136 = .ok (.istore 9, 2) := by decide +kernel
theorem dX5_walk_138 : decode cX5_walk 138 = .ok (.goto (-32), 3) := by decide +kernel
theorem dX5_walk_141 : decode cX5_walk 141 = .ok (.iload 8, 2) := by decide +kernel
theorem dX5_walk_143 : decode cX5_walk 143 = .ok (.aload_n 0, 1) := by decide +kernel
theorem dX5_walk_144 : decode cX5_walk 144 = .ok (.iload_n 1, 1) := by decide +kernel
theorem dX5_walk_145 : decode cX5_walk 145 = .ok (.bipush 20, 2) := by decide +kernel
theorem dX5_walk_147 : decode cX5_walk 147 = .ok (.iload 5, 2) := by decide +kernel
theorem dX5_walk_149 : decode cX5_walk 149 = .ok (.imul, 1) := by decide +kernel
theorem dX5_walk_150 : decode cX5_walk 150 = .ok (.iload 4, 2) := by decide +kernel
theorem dX5_walk_152 : decode cX5_walk 152 = .ok (.iadd, 1) := by decide +kernel
theorem dX5_walk_153 : decode cX5_walk 153 = .ok (.invokevirtual 106, 3) := by decide +kernel
theorem dX5_walk_156 : decode cX5_walk 156 = .ok (.iadd, 1) := by decide +kernel
theorem dX5_walk_157 : decode cX5_walk 157 = .ok (.ireturn, 1) := by decide +kernel
theorem dX5_pull_0 : decode cX5_pull 0 = .ok (.aload_n 0, 1) := by decide +kernel
theorem dX5_pull_1 : decode cX5_pull 1 = .ok (.iconst 0, 1) := by decide +kernel
theorem dX5_pull_2 : decode cX5_pull 2 = .ok (.putfield 53, 3) := by decide +kernel
theorem dX5_pull_5 : decode cX5_pull 5 = .ok (.iload_n 1, 1) := by decide +kernel
theorem dX5_pull_6 : decode cX5_pull 6 = .ok (.iload_n 2, 1) := by decide +kernel
theorem dX5_pull_7 : decode cX5_pull 7 = .ok (.invokestatic 86, 3) := by decide +kernel
theorem dX5_pull_10 : decode cX5_pull 10 = .ok (.ifCond .ne 9, 3) := by decide +kernel
theorem dX5_pull_13 : decode cX5_pull 13 = .ok (.aload_n 0, 1) := by decide +kernel
theorem dX5_pull_14 : decode cX5_pull 14 = .ok (.iconst 1, 1) := by decide +kernel
theorem dX5_pull_15 : decode cX5_pull 15 = .ok (.invokevirtual 89, 3) := by decide +kernel
theorem dX5_pull_18 : decode cX5_pull 18 = .ok (.ireturn, 1) := by decide +kernel
theorem dX5_pull_19 : decode cX5_pull 19 = .ok (.aload_n 0, 1) := by decide +kernel
theorem dX5_pull_20 : decode cX5_pull 20 = .ok (.getfield 38, 3) := by decide +kernel
theorem dX5_pull_23 : decode cX5_pull 23 = .ok (.bipush 20, 2) := by decide +kernel
theorem dX5_pull_25 : decode cX5_pull 25 = .ok (.iload_n 2, 1) := by decide +kernel
theorem dX5_pull_26 : decode cX5_pull 26 = .ok (.imul, 1) := by decide +kernel
theorem dX5_pull_27 : decode cX5_pull 27 = .ok (.iload_n 1, 1) := by decide +kernel
theorem dX5_pull_28 : decode cX5_pull 28 = .ok (.iadd, 1) := by decide +kernel
theorem dX5_pull_29 : decode cX5_pull 29 = .ok (.iaload, 1) := by decide +kernel
theorem dX5_pull_30 : decode cX5_pull 30 = .ok (.istore_n 3, 1) := by decide +kernel
theorem dX5_pull_31 : decode cX5_pull 31 = .ok (.iload_n 3, 1) := by decide +kernel
theorem dX5_pull_32 : decode cX5_pull 32 = .ok (.ifCond .ne 9, 3) := by decide +kernel
theorem dX5_pull_35 : decode cX5_pull 35 = .ok (.aload_n 0, 1) := by decide +kernel
theorem dX5_pull_36 : decode cX5_pull 36 = .ok (.iconst 2, 1) := by decide +kernel
theorem dX5_pull_37 : decode cX5_pull 37 = .ok (.invokevirtual 89, 3) := by decide +kernel
theorem dX5_pull_40 : decode cX5_pull 40 = .ok (.ireturn, 1) := by decide +kernel
theorem dX5_pull_41 : decode cX5_pull 41 = .ok (.aload_n 0, 1) := by decide +kernel
theorem dX5_pull_42 : decode cX5_pull 42 = .ok (.getfield 38, 3) := by decide +kernel
theorem dX5_pull_45 : decode cX5_pull 45 = .ok (.bipush 20, 2) := by decide +kernel
theorem dX5_pull_47 : decode cX5_pull 47 = .ok (.iload_n 2, 1) := by decide +kernel
theorem dX5_pull_48 : decode cX5_pull 48 = .ok (.imul, 1) := by decide +kernel
theorem dX5_pull_49 : decode cX5_pull 49 = .ok (.iload_n 1, 1) := by decide +kernel
theorem dX5_pull_50 : decode cX5_pull 50 = .ok (.iadd, 1) := by decide +kernel
theorem dX5_pull_51 : decode cX5_pull 51 = .ok (.iconst 0, 1) := by decide +kernel
theorem dX5_pull_52 : decode cX5_pull 52 = .ok (.iastore, 1) := by decide +kernel
theorem dX5_pull_53 : decode cX5_pull 53 = .ok (.aload_n 0, 1) := by decide +kernel
theorem dX5_pull_54 : decode cX5_pull 54 = .ok (.dup, 1) := by decide +kernel
theorem dX5_pull_55 : decode cX5_pull 55 = .ok (.getfield 96, 3) := by decide +kernel
theorem dX5_pull_58 : decode cX5_pull 58 = .ok (.iconst 1, 1) := by decide +kernel
theorem dX5_pull_59 : decode cX5_pull 59 = .ok (.isub, 1) := by decide +kernel
theorem dX5_pull_60 : decode cX5_pull 60 = .ok (.putfield 96, 3) := by decide +kernel
theorem dX5_pull_63 : decode cX5_pull 63 = .ok (.iload_n 3, 1) := by decide +kernel
theorem dX5_pull_64 : decode cX5_pull 64 = .ok (.iconst 1, 1) := by decide +kernel
theorem dX5_pull_65 : decode cX5_pull 65 = .ok (.isub, 1) := by decide +kernel
theorem dX5_pull_66 : decode cX5_pull 66 = .ok (.ireturn, 1) := by decide +kernel
theorem dX5_pit_0 : decode cX5_pit 0 = .ok (.aload_n 0, 1) := by decide +kernel
theorem dX5_pit_1 : decode cX5_pit 1 = .ok (.iconst 0, 1) := by decide +kernel
theorem dX5_pit_2 : decode cX5_pit 2 = .ok (.putfield 53, 3) := by decide +kernel
theorem dX5_pit_5 : decode cX5_pit 5 = .ok (.iload_n 1, 1) := by decide +kernel
theorem dX5_pit_6 : decode cX5_pit 6 = .ok (.iload_n 2, 1) := by decide +kernel
theorem dX5_pit_7 : decode cX5_pit 7 = .ok (.invokestatic 86, 3) := by decide +kernel
theorem dX5_pit_10 : decode cX5_pit 10 = .ok (.ifCond .ne 9, 3) := by decide +kernel
theorem dX5_pit_13 : decode cX5_pit 13 = .ok (.aload_n 0, 1) := by decide +kernel
theorem dX5_pit_14 : decode cX5_pit 14 = .ok (.iconst 1, 1) := by decide +kernel
theorem dX5_pit_15 : decode cX5_pit 15 = .ok (.invokevirtual 89, 3) := by decide +kernel
theorem dX5_pit_18 : decode cX5_pit 18 = .ok (.ireturn, 1) := by decide +kernel
theorem dX5_pit_19 : decode cX5_pit 19 = .ok (.aload_n 0, 1) := by decide +kernel
theorem dX5_pit_20 : decode cX5_pit 20 = .ok (.getfield 63, 3) := by decide +kernel
theorem dX5_pit_23 : decode cX5_pit 23 = .ok (.bipush 10, 2) := by decide +kernel
theorem dX5_pit_25 : decode cX5_pit 25 = .ok (.if_icmp .eq 17, 3) := by decide +kernel
theorem dX5_pit_28 : decode cX5_pit 28 = .ok (.aload_n 0, 1) := by decide +kernel
theorem dX5_pit_29 : decode cX5_pit 29 = .ok (.bipush 20, 2) := by decide +kernel
theorem dX5_pit_31 : decode cX5_pit 31 = .ok (.iload_n 2, 1) := by decide +kernel
theorem dX5_pit_32 : decode cX5_pit 32 = .ok (.imul, 1) := by decide +kernel
theorem dX5_pit_33 : decode cX5_pit 33 = .ok (.iload_n 1, 1) := by decide +kernel
theorem dX5_pit_34 : decode cX5_pit 34 = .ok (.iadd, 1) := by decide +kernel
theorem dX5_pit_35 : decode cX5_pit 35 = .ok (.invokevirtual 109, 3) := by decide +kernel
theorem dX5_pit_38 : decode cX5_pit 38 = .ok (.iconst (-1), 1) := by decide +kernel
theorem dX5_pit_39 : decode cX5_pit 39 = .ok (.if_icmp .eq 9, 3) := by decide +kernel
theorem dX5_pit_42 : decode cX5_pit 42 = .ok (.aload_n 0, 1) := by decide +kernel
theorem dX5_pit_43 : decode cX5_pit 43 = .ok (.iconst 2, 1) := by decide +kernel
theorem dX5_pit_44 : decode cX5_pit 44 = .ok (.invokevirtual 89, 3) := by decide +kernel
theorem dX5_pit_47 : decode cX5_pit 47 = .ok (.ireturn, 1) := by decide +kernel
theorem dX5_pit_48 : decode cX5_pit 48 = .ok (.aload_n 0, 1) := by decide +kernel
theorem dX5_pit_49 : decode cX5_pit 49 = .ok (.getfield 41, 3) := by decide +kernel
theorem dX5_pit_52 : decode cX5_pit 52 = .ok (.aload_n 0, 1) := by decide +kernel
theorem dX5_pit_53 : decode cX5_pit 53 = .ok (.getfield 63, 3) := by decide +kernel
theorem dX5_pit_56 : decode cX5_pit 56 = .ok (.bipush 20, 2) := by decide +kernel
theorem dX5_pit_58 : decode cX5_pit 58 = .ok (.iload_n 2, 1) := by decide +kernel
theorem dX5_pit_59 : decode cX5_pit 59 = .ok (.imul, 1) := by decide +kernel
theorem dX5_pit_60 : decode cX5_pit 60 = .ok (.iload_n 1, 1) := by decide +kernel
theorem dX5_pit_61 : decode cX5_pit 61 = .ok (.iadd, 1) := by decide +kernel
theorem dX5_pit_62 : decode cX5_pit 62 = .ok (.iastore, 1) := by decide +kernel
theorem dX5_pit_63 : decode cX5_pit 63 = .ok (.aload_n 0, 1) := by decide +kernel
theorem dX5_pit_64 : decode cX5_pit 64 = .ok (.getfield 44, 3) := by decide +kernel
theorem dX5_pit_67 : decode cX5_pit 67 = .ok (.aload_n 0, 1) := by decide +kernel
theorem dX5_pit_68 : decode cX5_pit 68 = .ok (.getfield 63, 3) := by decide +kernel
theorem dX5_pit_71 : decode cX5_pit 71 = .ok (.aload_n 0, 1) := by decide +kernel
theorem dX5_pit_72 : decode cX5_pit 72 = .ok (.bipush 20, 2) := by decide +kernel
theorem dX5_pit_74 : decode cX5_pit 74 = .ok (.iload_n 2, 1) := by decide +kernel
theorem dX5_pit_75 : decode cX5_pit 75 = .ok (.imul, 1) := by decide +kernel
theorem dX5_pit_76 : decode cX5_pit 76 = .ok (.iload_n 1, 1) := by decide +kernel
theorem dX5_pit_77 : decode cX5_pit 77 = .ok (.iadd, 1) := by decide +kernel
theorem dX5_pit_78 : decode cX5_pit 78 = .ok (.invokevirtual 112, 3) := by decide +kernel
theorem dX5_pit_81 : decode cX5_pit 81 = .ok (.iastore, 1) := by decide +kernel
theorem dX5_pit_82 : decode cX5_pit 82 = .ok (.aload_n 0, 1) := by decide +kernel
theorem dX5_pit_83 : decode cX5_pit 83 = .ok (.dup, 1) := by decide +kernel
theorem dX5_pit_84 : decode cX5_pit 84 = .ok (.getfield 63, 3) := by decide +kernel
theorem dX5_pit_87 : decode cX5_pit 87 = .ok (.iconst 1, 1) := by decide +kernel
theorem dX5_pit_88 : decode cX5_pit 88 = .ok (.iadd, 1) := by decide +kernel
theorem dX5_pit_89 : decode cX5_pit 89 = .ok (.putfield 63, 3) := by decide +kernel
theorem dX5_pit_92 : decode cX5_pit 92 = .ok (.aload_n 0, 1) := by decide +kernel
theorem dX5_pit_93 : decode cX5_pit 93 = .ok (.getfield 63, 3) := by decide +kernel
theorem dX5_pit_96 : decode cX5_pit 96 = .ok (.iconst 1, 1) := by decide +kernel
theorem dX5_pit_97 : decode cX5_pit 97 = .ok (.isub, 1) := by decide +kernel
theorem dX5_pit_98 : decode cX5_pit 98 = .ok (.ireturn, 1) := by decide +kernel
theorem dX5_hasFound_0 : decode cX5_hasFound 0 = .ok (.aload_n 0, 1) := by decide +kernel
theorem dX5_hasFound_1 : decode cX5_hasFound 1 = .ok (.getfield 44, 3) := by decide +kernel
theorem dX5_hasFound_4 : decode cX5_hasFound 4 = .ok (.iload_n 1, 1) := by decide +kernel
theorem dX5_hasFound_5 : decode cX5_hasFound 5 = .ok (.iaload, 1) := by decide +kernel
theorem dX5_hasFound_6 : decode cX5_hasFound 6 = .ok (.ifCond .le 22, 3) := by decide +kernel
theorem dX5_hasFound_9 : decode cX5_hasFound 9 = .ok (.aload_n 0, 1) := by decide +kernel
theorem dX5_hasFound_10 : decode cX5_hasFound 10 = .ok (.getfield 47, 3) := by decide +kernel
theorem dX5_hasFound_13 : decode cX5_hasFound 13 = .ok (.iload_n 1, 1) := by decide +kernel
theorem dX5_hasFound_14 : decode cX5_hasFound 14 = .ok (.iaload, 1) := by decide +kernel
theorem dX5_hasFound_15 : decode cX5_hasFound 15 = .ok (.aload_n 0, 1) := by decide +kernel
theorem dX5_hasFound_16 : decode cX5_hasFound 16 = .ok (.getfield 44, 3) := by decide +kernel
theorem dX5_hasFound_19 : decode cX5_hasFound 19 = .ok (.iload_n 1, 1) := by decide +kernel
theorem dX5_hasFound_20 : decode cX5_hasFound 20 = .ok (.iaload, 1) := by decide +kernel
theorem dX5_hasFound_21 : decode cX5_hasFound 21 = .ok (.if_icmp .lt 7, 3) := by decide +kernel
theorem dX5_hasFound_24 : decode cX5_hasFound 24 = .ok (.iconst 1, 1) := by decide +kernel
theorem dX5_hasFound_25 : decode cX5_hasFound 25 = .ok (.goto 4, 3) := by decide +kernel
theorem dX5_hasFound_28 : decode cX5_hasFound 28 = .ok (.iconst 0, 1) := by decide +kernel
theorem dX5_hasFound_29 : decode cX5_hasFound 29 = .ok (.ireturn, 1) := by decide +kernel
theorem dX5_isOver_0 : decode cX5_isOver 0 = .ok (.aload_n 0, 1) := by decide +kernel
theorem dX5_isOver_1 : decode cX5_isOver 1 = .ok (.iload_n 1, 1) := by decide +kernel
theorem dX5_isOver_2 : decode cX5_isOver 2 = .ok (.invokevirtual 115, 3) := by decide +kernel
theorem dX5_isOver_5 : decode cX5_isOver 5 = .ok (.ifCond .ne 14, 3) := by decide +kernel
theorem dX5_isOver_8 : decode cX5_isOver 8 = .ok (.aload_n 0, 1) := by decide +kernel
theorem dX5_isOver_9 : decode cX5_isOver 9 = .ok (.getfield 47, 3) := by decide +kernel
theorem dX5_isOver_12 : decode cX5_isOver 12 = .ok (.iload_n 1, 1) := by decide +kernel
theorem dX5_isOver_13 : decode cX5_isOver 13 = .ok (.iaload, 1) := by decide +kernel
theorem dX5_isOver_14 : decode cX5_isOver 14 = .ok (.bipush 20, 2) := by decide +kernel
theorem dX5_isOver_16 : decode cX5_isOver 16 = .ok (.if_icmp .ne 7, 3) := by decide +kernel
theorem dX5_isOver_19 : decode cX5_isOver 19 = .ok (.iconst 1, 1) := by decide +kernel
theorem dX5_isOver_20 : decode cX5_isOver 20 = .ok (.goto 4, 3) := by decide +kernel
theorem dX5_isOver_23 : decode cX5_isOver 23 = .ok (.iconst 0, 1) := by decide +kernel
theorem dX5_isOver_24 : decode cX5_isOver 24 = .ok (.ireturn, 1) := by decide +kernel
theorem dX5_bet_0 : decode cX5_bet 0 = .ok (.aload_n 0, 1) := by decide +kernel
theorem dX5_bet_1 : decode cX5_bet 1 = .ok (.iconst 0, 1) := by decide +kernel
theorem dX5_bet_2 : decode cX5_bet 2 = .ok (.putfield 53, 3) := by decide +kernel
theorem dX5_bet_5 : decode cX5_bet 5 = .ok (.aload_n 0, 1) := by decide +kernel
theorem dX5_bet_6 : decode cX5_bet 6 = .ok (.iload_n 1, 1) := by decide +kernel
theorem dX5_bet_7 : decode cX5_bet 7 = .ok (.invokevirtual 102, 3) := by decide +kernel
theorem dX5_bet_10 : decode cX5_bet 10 = .ok (.ifCond .eq 11, 3) := by decide +kernel
theorem dX5_bet_13 : decode cX5_bet 13 = .ok (.aload_n 0, 1) := by decide +kernel
theorem dX5_bet_14 : decode cX5_bet 14 = .ok (.iload_n 2, 1) := by decide +kernel
theorem dX5_bet_15 : decode cX5_bet 15 = .ok (.invokevirtual 118, 3) := by decide +kernel
theorem dX5_bet_18 : decode cX5_bet 18 = .ok (.ifCond .ne 9, 3) := by decide +kernel
theorem dX5_bet_21 : decode cX5_bet 21 = .ok (.aload_n 0, 1) := by decide +kernel
theorem dX5_bet_22 : decode cX5_bet 22 = .ok (.iconst 1, 1) := by decide +kernel
theorem dX5_bet_23 : decode cX5_bet 23 = .ok (.invokevirtual 89, 3) := by decide +kernel
theorem dX5_bet_26 : decode cX5_bet 26 = .ok (.ireturn, 1) := by decide +kernel
theorem dX5_bet_27 : decode cX5_bet 27 = .ok (.iload_n 3, 1) := by decide +kernel
theorem dX5_bet_28 : decode cX5_bet 28 = .ok (.iconst 1, 1) := by decide +kernel
theorem dX5_bet_29 : decode cX5_bet 29 = .ok (.bipush 99, 2) := by decide +kernel
theorem dX5_bet_31 : decode cX5_bet 31 = .ok (.invokestatic 56, 3) := by decide +kernel
theorem dX5_bet_34 : decode cX5_bet 34 = .ok (.ifCond .ne 9, 3) := by decide +kernel
theorem dX5_bet_37 : decode cX5_bet 37 = .ok (.aload_n 0, 1) := by decide +kernel
theorem dX5_bet_38 : decode cX5_bet 38 = .ok (.iconst 2, 1) := by decide +kernel
theorem dX5_bet_39 : decode cX5_bet 39 = .ok (.invokevirtual 89, 3) := by decide +kernel
theorem dX5_bet_42 : decode cX5_bet 42 = .ok (.ireturn, 1) := by decide +kernel
theorem dX5_bet_43 : decode cX5_bet 43 = .ok (.aload_n 0, 1) := by decide +kernel
theorem dX5_bet_44 : decode cX5_bet 44 = .ok (.getfield 47, 3) := by decide +kernel
theorem dX5_bet_47 : decode cX5_bet 47 = .ok (.iload_n 2, 1) := by decide +kernel
theorem dX5_bet_48 : decode cX5_bet 48 = .ok (.iaload, 1) := by decide +kernel
theorem dX5_bet_49 : decode cX5_bet 49 = .ok (.ifCond .gt 26, 3) := by decide +kernel
theorem dX5_bet_52 : decode cX5_bet 52 = .ok (.aload_n 0, 1) := by decide +kernel
theorem dX5_bet_53 : decode cX5_bet 53 = .ok (.getfield 50, 3) := by decide +kernel
theorem dX5_bet_56 : decode cX5_bet 56 = .ok (.iconst 5, 1) := by decide +kernel
theorem dX5_bet_57 : decode cX5_bet 57 = .ok (.iload_n 2, 1) := by decide +kernel
theorem dX5_bet_58 : decode cX5_bet 58 = .ok (.imul, 1) := by decide +kernel
theorem dX5_bet_59 : decode cX5_bet 59 = .ok (.iload_n 1, 1) := by decide +kernel
theorem dX5_bet_60 : decode cX5_bet 60 = .ok (.iadd, 1) := by decide +kernel
theorem dX5_bet_61 : decode cX5_bet 61 = .ok (.iaload, 1) := by decide +kernel
theorem dX5_bet_62 : decode cX5_bet 62 = .ok (.ifCond .ne 13, 3) := by decide +kernel
theorem dX5_bet_65 : decode cX5_bet 65 = .ok (.aload_n 0, 1) := by decide +kernel
theorem dX5_bet_66 : decode cX5_bet 66 = .ok (.getfield 29, 3) := by decide +kernel
theorem dX5_bet_69 : decode cX5_bet 69 = .ok (.iload_n 1, 1) := by decide +kernel
theorem dX5_bet_70 : decode cX5_bet 70 = .ok (.iaload, 1) := by decide +kernel
theorem dX5_bet_71 : decode cX5_bet 71 = .ok (.iload_n 3, 1) := by decide +kernel
theorem dX5_bet_72 : decode cX5_bet 72 = .ok (.if_icmp .ge 9, 3) := by decide +kernel
theorem dX5_bet_75 : decode cX5_bet 75 = .ok (.aload_n 0, 1) := by decide +kernel
theorem dX5_bet_76 : decode cX5_bet 76 = .ok (.iconst 3, 1) := by decide +kernel
theorem dX5_bet_77 : decode cX5_bet 77 = .ok (.invokevirtual 89, 3) := by decide +kernel
theorem dX5_bet_80 : decode cX5_bet 80 = .ok (.ireturn, 1) := by decide +kernel
theorem dX5_bet_81 : decode cX5_bet 81 = .ok (.aload_n 0, 1) := by decide +kernel
theorem dX5_bet_82 : decode cX5_bet 82 = .ok (.getfield 29, 3) := by decide +kernel
theorem dX5_bet_85 : decode cX5_bet 85 = .ok (.iload_n 1, 1) := by decide +kernel
theorem dX5_bet_86 : decode cX5_bet 86 = .ok (.dup2, 1) := by decide +kernel
theorem dX5_bet_87 : decode cX5_bet 87 = .ok (.iaload, 1) := by decide +kernel
theorem dX5_bet_88 : decode cX5_bet 88 = .ok (.iload_n 3, 1) := by decide +kernel
theorem dX5_bet_89 : decode cX5_bet 89 = .ok (.isub, 1) := by decide +kernel
theorem dX5_bet_90 : decode cX5_bet 90 = .ok (.iastore, 1) := by decide +kernel
theorem dX5_bet_91 : decode cX5_bet 91 = .ok (.aload_n 0, 1) := by decide +kernel
theorem dX5_bet_92 : decode cX5_bet 92 = .ok (.getfield 50, 3) := by decide +kernel
theorem dX5_bet_95 : decode cX5_bet 95 = .ok (.iconst 5, 1) := by decide +kernel
theorem dX5_bet_96 : decode cX5_bet 96 = .ok (.iload_n 2, 1) := by decide +kernel
theorem dX5_bet_97 : decode cX5_bet 97 = .ok (.imul, 1) := by decide +kernel
theorem dX5_bet_98 : decode cX5_bet 98 = .ok (.iload_n 1, 1) := by decide +kernel
theorem dX5_bet_99 : decode cX5_bet 99 = .ok (.iadd, 1) := by decide +kernel
theorem dX5_bet_100 : decode cX5_bet 100 = .ok (.iload 4, 2) := by decide +kernel
theorem dX5_bet_102 : decode cX5_bet 102 = .ok (.ifCond .eq 7, 3) := by decide +kernel
theorem dX5_bet_105 : decode cX5_bet 105 = .ok (.iload_n 3, 1) := by decide +kernel
theorem dX5_bet_106 : decode cX5_bet 106 = .ok (.goto 5, 3) := by decide +kernel
theorem dX5_bet_109 : decode cX5_bet 109 = .ok (.iload_n 3, 1) := by decide +kernel
theorem dX5_bet_110 : decode cX5_bet 110 = .ok (.ineg, 1) := by decide +kernel
theorem dX5_bet_111 : decode cX5_bet 111 = .ok (.iastore, 1) := by decide +kernel
theorem dX5_bet_112 : decode cX5_bet 112 = .ok (.aload_n 0, 1) := by decide +kernel
theorem dX5_bet_113 : decode cX5_bet 113 = .ok (.getfield 29, 3) := by decide +kernel
theorem dX5_bet_116 : decode cX5_bet 116 = .ok (.iload_n 1, 1) := by decide +kernel
theorem dX5_bet_117 : decode cX5_bet 117 = .ok (.iaload, 1) := by decide +kernel
theorem dX5_bet_118 : decode cX5_bet 118 = .ok (.ireturn, 1) := by decide +kernel
theorem dX5_betOn_0 : decode cX5_betOn 0 = .ok (.iconst 0, 1) := by decide +kernel
theorem dX5_betOn_1 : decode cX5_betOn 1 = .ok (.istore_n 3, 1) := by decide +kernel
theorem dX5_betOn_2 : decode cX5_betOn 2 = .ok (.iconst 0, 1) := by decide +kernel
theorem dX5_betOn_3 : decode cX5_betOn 3 = .ok (.istore 4, 2) := by decide +kernel
theorem dX5_betOn_5 : decode cX5_betOn 5 = .ok (.iload 4, 2) := by decide +kernel
theorem dX5_betOn_7 : decode cX5_betOn 7 = .ok (.iconst 5, 1) := by decide +kernel
theorem dX5_betOn_8 : decode cX5_betOn 8 = .ok (.if_icmp .ge 46, 3) := by decide +kernel
theorem dX5_betOn_11 : decode cX5_betOn 11 = .ok (.iload_n 3, 1) := by decide +kernel
theorem dX5_betOn_12 : decode cX5_betOn 12 = .ok (.iconst 0, 1) := by decide +kernel
theorem dX5_betOn_13 : decode cX5_betOn 13 = .ok (.iload_n 2, 1) := by decide +kernel
theorem dX5_betOn_14 : decode cX5_betOn 14 = .ok (.ifCond .eq 17, 3) := by decide +kernel
theorem dX5_betOn_17 : decode cX5_betOn 17 = .ok (.aload_n 0, 1) := by decide +kernel
theorem dX5_betOn_18 : decode cX5_betOn 18 = .ok (.getfield 50, 3) := by decide +kernel
theorem dX5_betOn_21 : decode cX5_betOn 21 = .ok (.iconst 5, 1) := by decide +kernel
theorem dX5_betOn_22 : decode cX5_betOn 22 = .ok (.iload_n 1, 1) := by decide +kernel
theorem dX5_betOn_23 : decode cX5_betOn 23 = .ok (.imul, 1) := by decide +kernel
theorem dX5_betOn_24 : decode cX5_betOn 24 = .ok (.iload 4, 2) := by decide +kernel
theorem dX5_betOn_26 : decode cX5_betOn 26 = .ok (.iadd, 1) := by decide +kernel
theorem dX5_betOn_27 : decode cX5_betOn 27 = .ok (.iaload, 1) := by decide +kernel
theorem dX5_betOn_28 : decode cX5_betOn 28 = .ok (.goto 15, 3) := by decide +kernel
theorem dX5_betOn_31 : decode cX5_betOn 31 = .ok (.aload_n 0, 1) := by decide +kernel
theorem dX5_betOn_32 : decode cX5_betOn 32 = .ok (.getfield 50, 3) := by decide +kernel
theorem dX5_betOn_35 : decode cX5_betOn 35 = .ok (.iconst 5, 1) := by decide +kernel
theorem dX5_betOn_36 : decode cX5_betOn 36 = .ok (.iload_n 1, 1) := by decide +kernel
theorem dX5_betOn_37 : decode cX5_betOn 37 = .ok (.imul, 1) := by decide +kernel
theorem dX5_betOn_38 : decode cX5_betOn 38 = .ok (.iload 4, 2) := by decide +kernel
theorem dX5_betOn_40 : decode cX5_betOn 40 = .ok (.iadd, 1) := by decide +kernel
theorem dX5_betOn_41 : decode cX5_betOn 41 = .ok (.iaload, 1) := by decide +kernel
theorem dX5_betOn_42 : decode cX5_betOn 42 = .ok (.ineg, 1) := by decide +kernel
theorem dX5_betOn_43 : decode cX5_betOn 43 = .ok (.invokestatic 75, 3) := by decide +kernel
theorem dX5_betOn_46 : decode cX5_betOn 46 = .ok (.iadd, 1) := by decide +kernel
theorem dX5_betOn_47 : decode cX5_betOn 47 = .ok (.istore_n 3, 1) := by decide +kernel
theorem dX5_betOn_48 : decode cX5_betOn 48 = .ok (.iinc 4 1, 3) := by decide +kernel
theorem dX5_betOn_51 : decode cX5_betOn 51 = .ok (.goto (-46), 3) := by decide +kernel
theorem dX5_betOn_54 : decode cX5_betOn 54 = .ok (.iload_n 3, 1) := by decide +kernel
theorem dX5_betOn_55 : decode cX5_betOn 55 = .ok (.ireturn, 1) := by decide +kernel
theorem dX5_share_0 : decode cX5_share 0 = .ok (.iload_n 3, 1) := by decide +kernel
theorem dX5_share_1 : decode cX5_share 1 = .ok (.ifCond .eq 16, 3) := by decide +kernel
theorem dX5_share_4 : decode cX5_share 4 = .ok (.aload_n 0, 1) := by decide +kernel
theorem dX5_share_5 : decode cX5_share 5 = .ok (.getfield 50, 3) := by decide +kernel
theorem dX5_share_8 : decode cX5_share 8 = .ok (.iconst 5, 1) := by decide +kernel
theorem dX5_share_9 : decode cX5_share 9 = .ok (.iload_n 1, 1) := by decide +kernel
theorem dX5_share_10 : decode cX5_share 10 = .ok (.imul, 1) := by decide +kernel
theorem dX5_share_11 : decode cX5_share 11 = .ok (.iload_n 2, 1) := by decide +kernel
theorem dX5_share_12 : decode cX5_share 12 = .ok (.iadd, 1) := by decide +kernel
theorem dX5_share_13 : decode cX5_share 13 = .ok (.iaload, 1) := by decide +kernel
theorem dX5_share_14 : decode cX5_share 14 = .ok (.goto 14, 3) := by decide +kernel
theorem dX5_share_17 : decode cX5_share 17 = .ok (.aload_n 0, 1) := by decide +kernel
theorem dX5_share_18 : decode cX5_share 18 = .ok (.getfield 50, 3) := by decide +kernel
theorem dX5_share_21 : decode cX5_share 21 = .ok (.iconst 5, 1) := by decide +kernel
theorem dX5_share_22 : decode cX5_share 22 = .ok (.iload_n 1, 1) := by decide +kernel
theorem dX5_share_23 : decode cX5_share 23 = .ok (.imul, 1) := by decide +kernel
theorem dX5_share_24 : decode cX5_share 24 = .ok (.iload_n 2, 1) := by decide +kernel
theorem dX5_share_25 : decode cX5_share 25 = .ok (.iadd, 1) := by decide +kernel
theorem dX5_share_26 : decode cX5_share 26 = .ok (.iaload, 1) := by decide +kernel
theorem dX5_share_27 : decode cX5_share 27 = .ok (.ineg, 1) := by decide +kernel
theorem dX5_share_28 : decode cX5_share 28 = .ok (.istore 4, 2) := by decide +kernel
theorem dX5_share_30 : decode cX5_share 30 = .ok (.iload 4, 2) := by decide +kernel
theorem dX5_share_32 : decode cX5_share 32 = .ok (.ifCond .gt 7, 3) := by decide +kernel
theorem dX5_share_35 : decode cX5_share 35 = .ok (.iconst 0, 1) := by decide +kernel
theorem dX5_share_36 : decode cX5_share 36 = .ok (.goto 26, 3) := by decide +kernel
theorem dX5_share_39 : decode cX5_share 39 = .ok (.aload_n 0, 1) := by decide +kernel
theorem dX5_share_40 : decode cX5_share 40 = .ok (.iload_n 1, 1) := by decide +kernel
theorem dX5_share_41 : decode cX5_share 41 = .ok (.iconst 1, 1) := by decide +kernel
theorem dX5_share_42 : decode cX5_share 42 = .ok (.invokevirtual 121, 3) := by decide +kernel
theorem dX5_share_45 : decode cX5_share 45 = .ok (.aload_n 0, 1) := by decide +kernel
theorem dX5_share_46 : decode cX5_share 46 = .ok (.iload_n 1, 1) := by decide +kernel
theorem dX5_share_47 : decode cX5_share 47 = .ok (.iconst 0, 1) := by decide +kernel
theorem dX5_share_48 : decode cX5_share 48 = .ok (.invokevirtual 121, 3) := by decide +kernel
theorem dX5_share_51 : decode cX5_share 51 = .ok (.iadd, 1) := by decide +kernel
theorem dX5_share_52 : decode cX5_share 52 = .ok (.iload 4, 2) := by decide +kernel
theorem dX5_share_54 : decode cX5_share 54 = .ok (.imul, 1) := by decide +kernel
theorem dX5_share_55 : decode cX5_share 55 = .ok (.aload_n 0, 1) := by decide +kernel
theorem dX5_share_56 : decode cX5_share 56 = .ok (.iload_n 1, 1) := by decide +kernel
theorem dX5_share_57 : decode cX5_share 57 = .ok (.iload_n 3, 1) := by decide +kernel
theorem dX5_share_58 : decode cX5_share 58 = .ok (.invokevirtual 121, 3) := by decide +kernel
theorem dX5_share_61 : decode cX5_share 61 = .ok (.idiv, 1) := by decide +kernel
theorem dX5_share_62 : decode cX5_share 62 = .ok (.ireturn, 1) := by decide +kernel
theorem dX5_pay_0 : decode cX5_pay 0 = .ok (.aload_n 0, 1) := by decide +kernel
theorem dX5_pay_1 : decode cX5_pay 1 = .ok (.iload_n 1, 1) := by decide +kernel
theorem dX5_pay_2 : decode cX5_pay 2 = .ok (.invokevirtual 115, 3) := by decide +kernel
theorem dX5_pay_5 : decode cX5_pay 5 = .ok (.istore_n 2, 1) := by decide +kernel
theorem dX5_pay_6 : decode cX5_pay 6 = .ok (.aload_n 0, 1) := by decide +kernel
theorem dX5_pay_7 : decode cX5_pay 7 = .ok (.iload_n 1, 1) := by decide +kernel
theorem dX5_pay_8 : decode cX5_pay 8 = .ok (.iconst 1, 1) := by decide +kernel
theorem dX5_pay_9 : decode cX5_pay 9 = .ok (.invokevirtual 121, 3) := by decide +kernel
theorem dX5_pay_12 : decode cX5_pay 12 = .ok (.aload_n 0, 1) := by decide +kernel
theorem dX5_pay_13 : decode cX5_pay 13 = .ok (.iload_n 1, 1) := by decide +kernel
theorem dX5_pay_14 : decode cX5_pay 14 = .ok (.iconst 0, 1) := by decide +kernel
theorem dX5_pay_15 : decode cX5_pay 15 = .ok (.invokevirtual 121, 3) := by decide +kernel
theorem dX5_pay_18 : decode cX5_pay 18 = .ok (.iadd, 1) := by decide +kernel
theorem dX5_pay_19 : decode cX5_pay 19 = .ok (.istore_n 3, 1) := by decide +kernel
theorem dX5_pay_20 : decode cX5_pay 20 = .ok (.iconst 0, 1) := by decide +kernel
theorem dX5_pay_21 : decode cX5_pay 21 = .ok (.istore 4, 2) := by decide +kernel
theorem dX5_pay_23 : decode cX5_pay 23 = .ok (.iload 4, 2) := by decide +kernel
theorem dX5_pay_25 : decode cX5_pay 25 = .ok (.aload_n 0, 1) := by decide +kernel
theorem dX5_pay_26 : decode cX5_pay 26 = .ok (.getfield 60, 3) := by decide +kernel
theorem dX5_pay_29 : decode cX5_pay 29 = .ok (.if_icmp .ge 96, 3) := by decide +kernel
theorem dX5_pay_32 : decode cX5_pay 32 = .ok (.aload_n 0, 1) := by decide +kernel
theorem dX5_pay_33 : decode cX5_pay 33 = .ok (.iload_n 1, 1) := by decide +kernel
theorem dX5_pay_34 : decode cX5_pay 34 = .ok (.iload 4, 2) := by decide +kernel
theorem dX5_pay_36 : decode cX5_pay 36 = .ok (.iload_n 2, 1) := by decide +kernel
theorem dX5_pay_37 : decode cX5_pay 37 = .ok (.invokevirtual 125, 3) := by decide +kernel
theorem dX5_pay_40 : decode cX5_pay 40 = .ok (.istore 5, 2) := by decide +kernel
theorem dX5_pay_42 : decode cX5_pay 42 = .ok (.iload_n 3, 1) := by decide +kernel
theorem dX5_pay_43 : decode cX5_pay 43 = .ok (.iload 5, 2) := by decide +kernel
theorem dX5_pay_45 : decode cX5_pay 45 = .ok (.isub, 1) := by decide +kernel
theorem dX5_pay_46 : decode cX5_pay 46 = .ok (.istore_n 3, 1) := by decide +kernel
theorem dX5_pay_47 : decode cX5_pay 47 = .ok (.aload_n 0, 1) := by decide +kernel
theorem dX5_pay_48 : decode cX5_pay 48 = .ok (.getfield 29, 3) := by decide +kernel
theorem dX5_pay_51 : decode cX5_pay 51 = .ok (.iload 4, 2) := by decide +kernel
theorem dX5_pay_53 : decode cX5_pay 53 = .ok (.dup2, 1) := by decide +kernel
theorem dX5_pay_54 : decode cX5_pay 54 = .ok (.iaload, 1) := by decide +kernel
theorem dX5_pay_55 : decode cX5_pay 55 = .ok (.iload 5, 2) := by decide +kernel
theorem dX5_pay_57 : decode cX5_pay 57 = .ok (.iadd, 1) := by decide +kernel
theorem dX5_pay_58 : decode cX5_pay 58 = .ok (.iastore, 1) := by decide +kernel
theorem dX5_pay_59 : decode cX5_pay 59 = .ok (.aload_n 0, 1) := by decide +kernel
theorem dX5_pay_60 : decode cX5_pay 60 = .ok (.getfield 50, 3) := by decide +kernel
theorem dX5_pay_63 : decode cX5_pay 63 = .ok (.iconst 5, 1) := by decide +kernel
theorem dX5_pay_64 : decode cX5_pay 64 = .ok (.iload_n 1, 1) := by decide +kernel
theorem dX5_pay_65 : decode cX5_pay 65 = .ok (.imul, 1) := by decide +kernel
theorem dX5_pay_66 : decode cX5_pay 66 = .ok (.iload 4, 2) := by decide +kernel
theorem dX5_pay_68 : decode cX5_pay 68 = .ok (.iadd, 1) := by decide +kernel
theorem dX5_pay_69 : decode cX5_pay 69 = .ok (.iaload, 1) := by decide +kernel
theorem dX5_pay_70 : decode cX5_pay 70 = .ok (.istore 6, 2) := by decide +kernel
theorem dX5_pay_72 : decode cX5_pay 72 = .ok (.iload 6, 2) := by decide +kernel
theorem dX5_pay_74 : decode cX5_pay 74 = .ok (.ifCond .ne 6, 3) := by decide +kernel
theorem dX5_pay_77 : decode cX5_pay 77 = .ok (.goto 42, 3) := by decide +kernel
theorem dX5_pay_80 : decode cX5_pay 80 = .ok (.iload 6, 2) := by decide +kernel
theorem dX5_pay_82 : decode cX5_pay 82 = .ok (.ifCond .le 7, 3) := by decide +kernel
theorem dX5_pay_85 : decode cX5_pay 85 = .ok (.iconst 1, 1) := by decide +kernel
theorem dX5_pay_86 : decode cX5_pay 86 = .ok (.goto 4, 3) := by decide +kernel
theorem dX5_pay_89 : decode cX5_pay 89 = .ok (.iconst 0, 1) := by decide +kernel
theorem dX5_pay_90 : decode cX5_pay 90 = .ok (.iload_n 2, 1) := by decide +kernel
theorem dX5_pay_91 : decode cX5_pay 91 = .ok (.if_icmp .ne 17, 3) := by decide +kernel
theorem dX5_pay_94 : decode cX5_pay 94 = .ok (.aload_n 0, 1) := by decide +kernel
theorem dX5_pay_95 : decode cX5_pay 95 = .ok (.getfield 32, 3) := by decide +kernel
theorem dX5_pay_98 : decode cX5_pay 98 = .ok (.iload 4, 2) := by decide +kernel
theorem dX5_pay_100 : decode cX5_pay 100 = .ok (.dup2, 1) := by decide +kernel
theorem dX5_pay_101 : decode cX5_pay 101 = .ok (.iaload, 1) := by decide +kernel
theorem dX5_pay_102 : decode cX5_pay 102 = .ok (.iconst 1, 1) := by decide +kernel
theorem dX5_pay_103 : decode cX5_pay 103 = .ok (.iadd, 1) := by decide +kernel
theorem dX5_pay_104 : decode cX5_pay 104 = .ok (.iastore, 1) := by decide +kernel
theorem dX5_pay_105 : decode cX5_pay 105 = .ok (.goto 14, 3) := by decide +kernel
theorem dX5_pay_108 : decode cX5_pay 108 = .ok (.aload_n 0, 1) := by decide +kernel
theorem dX5_pay_109 : decode cX5_pay 109 = .ok (.getfield 35, 3) := by decide +kernel
theorem dX5_pay_112 : decode cX5_pay 112 = .ok (.iload 4, 2) := by decide +kernel
theorem dX5_pay_114 : decode cX5_pay 114 = .ok (.dup2, 1) := by decide +kernel
theorem dX5_pay_115 : decode cX5_pay 115 = .ok (.iaload, 1) := by decide +kernel
theorem dX5_pay_116 : decode cX5_pay 116 = .ok (.iconst 1, 1) := by decide +kernel
theorem dX5_pay_117 : decode cX5_pay 117 = .ok (.iadd, 1) := by decide +kernel
theorem dX5_pay_118 : decode cX5_pay 118 = .ok (.iastore, 1) := by decide +kernel
theorem dX5_pay_119 : decode cX5_pay 119 = .ok (.iinc 4 1, 3) := by decide +kernel
theorem dX5_pay_122 : decode cX5_pay 122 = .ok (.goto (-99), 3) := by decide +kernel
theorem dX5_pay_125 : decode cX5_pay 125 = .ok (.aload_n 0, 1) := by decide +kernel
theorem dX5_pay_126 : decode cX5_pay 126 = .ok (.dup, 1) := by decide +kernel
theorem dX5_pay_127 : decode cX5_pay 127 = .ok (.getfield 129, 3) := by decide +kernel
theorem dX5_pay_130 : decode cX5_pay 130 = .ok (.iload_n 3, 1) := by decide +kernel
theorem dX5_pay_131 : decode cX5_pay 131 = .ok (.iadd, 1) := by decide +kernel
theorem dX5_pay_132 : decode cX5_pay 132 = .ok (.putfield 129, 3) := by decide +kernel
theorem dX5_pay_135 : decode cX5_pay 135 = .ok (.return_, 1) := by decide +kernel
theorem dX5_dig_0 : decode cX5_dig 0 = .ok (.aload_n 0, 1) := by decide +kernel
theorem dX5_dig_1 : decode cX5_dig 1 = .ok (.iconst 0, 1) := by decide +kernel
theorem dX5_dig_2 : decode cX5_dig 2 = .ok (.putfield 53, 3) := by decide +kernel
theorem dX5_dig_5 : decode cX5_dig 5 = .ok (.aload_n 0, 1) := by decide +kernel
theorem dX5_dig_6 : decode cX5_dig 6 = .ok (.iload_n 1, 1) := by decide +kernel
theorem dX5_dig_7 : decode cX5_dig 7 = .ok (.invokevirtual 118, 3) := by decide +kernel
theorem dX5_dig_10 : decode cX5_dig 10 = .ok (.ifCond .ne 9, 3) := by decide +kernel
theorem dX5_dig_13 : decode cX5_dig 13 = .ok (.aload_n 0, 1) := by decide +kernel
theorem dX5_dig_14 : decode cX5_dig 14 = .ok (.iconst 1, 1) := by decide +kernel
theorem dX5_dig_15 : decode cX5_dig 15 = .ok (.invokevirtual 89, 3) := by decide +kernel
theorem dX5_dig_18 : decode cX5_dig 18 = .ok (.ireturn, 1) := by decide +kernel
theorem dX5_dig_19 : decode cX5_dig 19 = .ok (.iload_n 2, 1) := by decide +kernel
theorem dX5_dig_20 : decode cX5_dig 20 = .ok (.iconst 1, 1) := by decide +kernel
theorem dX5_dig_21 : decode cX5_dig 21 = .ok (.bipush 20, 2) := by decide +kernel
theorem dX5_dig_23 : decode cX5_dig 23 = .ok (.invokestatic 56, 3) := by decide +kernel
theorem dX5_dig_26 : decode cX5_dig 26 = .ok (.ifCond .ne 9, 3) := by decide +kernel
theorem dX5_dig_29 : decode cX5_dig 29 = .ok (.aload_n 0, 1) := by decide +kernel
theorem dX5_dig_30 : decode cX5_dig 30 = .ok (.iconst 2, 1) := by decide +kernel
theorem dX5_dig_31 : decode cX5_dig 31 = .ok (.invokevirtual 89, 3) := by decide +kernel
theorem dX5_dig_34 : decode cX5_dig 34 = .ok (.ireturn, 1) := by decide +kernel
theorem dX5_dig_35 : decode cX5_dig 35 = .ok (.aload_n 0, 1) := by decide +kernel
theorem dX5_dig_36 : decode cX5_dig 36 = .ok (.iload_n 1, 1) := by decide +kernel
theorem dX5_dig_37 : decode cX5_dig 37 = .ok (.invokevirtual 132, 3) := by decide +kernel
theorem dX5_dig_40 : decode cX5_dig 40 = .ok (.ifCond .eq 9, 3) := by decide +kernel
theorem dX5_dig_43 : decode cX5_dig 43 = .ok (.aload_n 0, 1) := by decide +kernel
theorem dX5_dig_44 : decode cX5_dig 44 = .ok (.iconst 3, 1) := by decide +kernel
theorem dX5_dig_45 : decode cX5_dig 45 = .ok (.invokevirtual 89, 3) := by decide +kernel
theorem dX5_dig_48 : decode cX5_dig 48 = .ok (.ireturn, 1) := by decide +kernel
theorem dX5_dig_49 : decode cX5_dig 49 = .ok (.aload_n 0, 1) := by decide +kernel
theorem dX5_dig_50 : decode cX5_dig 50 = .ok (.getfield 47, 3) := by decide +kernel
theorem dX5_dig_53 : decode cX5_dig 53 = .ok (.iload_n 1, 1) := by decide +kernel
theorem dX5_dig_54 : decode cX5_dig 54 = .ok (.aload_n 0, 1) := by decide +kernel
theorem dX5_dig_55 : decode cX5_dig 55 = .ok (.getfield 47, 3) := by decide +kernel
theorem dX5_dig_58 : decode cX5_dig 58 = .ok (.iload_n 1, 1) := by decide +kernel
theorem dX5_dig_59 : decode cX5_dig 59 = .ok (.iaload, 1) := by decide +kernel
theorem dX5_dig_60 : decode cX5_dig 60 = .ok (.iload_n 2, 1) := by decide +kernel
theorem dX5_dig_61 : decode cX5_dig 61 = .ok (.iadd, 1) := by decide +kernel
theorem dX5_dig_62 : decode cX5_dig 62 = .ok (.aload_n 0, 1) := by decide +kernel
theorem dX5_dig_63 : decode cX5_dig 63 = .ok (.getfield 44, 3) := by decide +kernel
theorem dX5_dig_66 : decode cX5_dig 66 = .ok (.iload_n 1, 1) := by decide +kernel
theorem dX5_dig_67 : decode cX5_dig 67 = .ok (.iaload, 1) := by decide +kernel
theorem dX5_dig_68 : decode cX5_dig 68 = .ok (.ifCond .le 12, 3) := by decide +kernel
theorem dX5_dig_71 : decode cX5_dig 71 = .ok (.aload_n 0, 1) := by decide +kernel
theorem dX5_dig_72 : decode cX5_dig 72 = .ok (.getfield 44, 3) := by decide +kernel
theorem dX5_dig_75 : decode cX5_dig 75 = .ok (.iload_n 1, 1) := by decide +kernel
theorem dX5_dig_76 : decode cX5_dig 76 = .ok (.iaload, 1) := by decide +kernel
theorem dX5_dig_77 : decode cX5_dig 77 = .ok (.goto 5, 3) := by decide +kernel
theorem dX5_dig_80 : decode cX5_dig 80 = .ok (.bipush 20, 2) := by decide +kernel
theorem dX5_dig_82 : decode cX5_dig 82 = .ok (.invokestatic 135, 3) := by decide +kernel
theorem dX5_dig_85 : decode cX5_dig 85 = .ok (.iastore, 1) := by decide +kernel
theorem dX5_dig_86 : decode cX5_dig 86 = .ok (.aload_n 0, 1) := by decide +kernel
theorem dX5_dig_87 : decode cX5_dig 87 = .ok (.iload_n 1, 1) := by decide +kernel
theorem dX5_dig_88 : decode cX5_dig 88 = .ok (.invokevirtual 132, 3) := by decide +kernel
theorem dX5_dig_91 : decode cX5_dig 91 = .ok (.ifCond .eq 8, 3) := by decide +kernel
theorem dX5_dig_94 : decode cX5_dig 94 = .ok (.aload_n 0, 1) := by decide +kernel
theorem dX5_dig_95 : decode cX5_dig 95 = .ok (.iload_n 1, 1) := by decide +kernel
theorem dX5_dig_96 : decode cX5_dig 96 = .ok (.invokevirtual 138, 3) := by decide +kernel
theorem dX5_dig_99 : decode cX5_dig 99 = .ok (.aload_n 0, 1) := by decide +kernel
theorem dX5_dig_100 : decode cX5_dig 100 = .ok (.getfield 47, 3) := by decide +kernel
theorem dX5_dig_103 : decode cX5_dig 103 = .ok (.iload_n 1, 1) := by decide +kernel
theorem dX5_dig_104 : decode cX5_dig 104 = .ok (.iaload, 1) := by decide +kernel
theorem dX5_dig_105 : decode cX5_dig 105 = .ok (.ireturn, 1) := by decide +kernel
theorem dX5_spotTold_0 : decode cX5_spotTold 0 = .ok (.iload_n 2, 1) := by decide +kernel
theorem dX5_spotTold_1 : decode cX5_spotTold 1 = .ok (.tableswitch 68 0 4 #[35, 41, 47, 56, 62], 35) := by decide +kernel
theorem dX5_spotTold_36 : decode cX5_spotTold 36 = .ok (.aload_n 0, 1) := by decide +kernel
theorem dX5_spotTold_37 : decode cX5_spotTold 37 = .ok (.iload_n 1, 1) := by decide +kernel
theorem dX5_spotTold_38 : decode cX5_spotTold 38 = .ok (.invokevirtual 142, 3) := by decide +kernel
theorem dX5_spotTold_41 : decode cX5_spotTold 41 = .ok (.ireturn, 1) := by decide +kernel
theorem dX5_spotTold_42 : decode cX5_spotTold 42 = .ok (.aload_n 0, 1) := by decide +kernel
theorem dX5_spotTold_43 : decode cX5_spotTold 43 = .ok (.iload_n 1, 1) := by decide +kernel
theorem dX5_spotTold_44 : decode cX5_spotTold 44 = .ok (.invokevirtual 112, 3) := by decide +kernel
theorem dX5_spotTold_47 : decode cX5_spotTold 47 = .ok (.ireturn, 1) := by decide +kernel
theorem dX5_spotTold_48 : decode cX5_spotTold 48 = .ok (.aload_n 0, 1) := by decide +kernel
theorem dX5_spotTold_49 : decode cX5_spotTold 49 = .ok (.getfield 38, 3) := by decide +kernel
theorem dX5_spotTold_52 : decode cX5_spotTold 52 = .ok (.iload_n 1, 1) := by decide +kernel
theorem dX5_spotTold_53 : decode cX5_spotTold 53 = .ok (.iaload, 1) := by decide +kernel
theorem dX5_spotTold_54 : decode cX5_spotTold 54 = .ok (.iconst 1, 1) := by decide +kernel
theorem dX5_spotTold_55 : decode cX5_spotTold 55 = .ok (.isub, 1) := by decide +kernel
theorem dX5_spotTold_56 : decode cX5_spotTold 56 = .ok (.ireturn, 1) := by decide +kernel
theorem dX5_spotTold_57 : decode cX5_spotTold 57 = .ok (.aload_n 0, 1) := by decide +kernel
theorem dX5_spotTold_58 : decode cX5_spotTold 58 = .ok (.iload_n 1, 1) := by decide +kernel
theorem dX5_spotTold_59 : decode cX5_spotTold 59 = .ok (.invokevirtual 109, 3) := by decide +kernel
theorem dX5_spotTold_62 : decode cX5_spotTold 62 = .ok (.ireturn, 1) := by decide +kernel
theorem dX5_spotTold_63 : decode cX5_spotTold 63 = .ok (.aload_n 0, 1) := by decide +kernel
theorem dX5_spotTold_64 : decode cX5_spotTold 64 = .ok (.iload_n 1, 1) := by decide +kernel
theorem dX5_spotTold_65 : decode cX5_spotTold 65 = .ok (.invokevirtual 145, 3) := by decide +kernel
theorem dX5_spotTold_68 : decode cX5_spotTold 68 = .ok (.ireturn, 1) := by decide +kernel
theorem dX5_spotTold_69 : decode cX5_spotTold 69 = .ok (.aload_n 0, 1) := by decide +kernel
theorem dX5_spotTold_70 : decode cX5_spotTold 70 = .ok (.iload_n 1, 1) := by decide +kernel
theorem dX5_spotTold_71 : decode cX5_spotTold 71 = .ok (.invokevirtual 148, 3) := by decide +kernel
theorem dX5_spotTold_74 : decode cX5_spotTold 74 = .ok (.ireturn, 1) := by decide +kernel
theorem dX5_spot_0 : decode cX5_spot 0 = .ok (.aload_n 0, 1) := by decide +kernel
theorem dX5_spot_1 : decode cX5_spot 1 = .ok (.iconst 0, 1) := by decide +kernel
theorem dX5_spot_2 : decode cX5_spot 2 = .ok (.putfield 53, 3) := by decide +kernel
theorem dX5_spot_5 : decode cX5_spot 5 = .ok (.iload_n 1, 1) := by decide +kernel
theorem dX5_spot_6 : decode cX5_spot 6 = .ok (.iload_n 2, 1) := by decide +kernel
theorem dX5_spot_7 : decode cX5_spot 7 = .ok (.invokestatic 86, 3) := by decide +kernel
theorem dX5_spot_10 : decode cX5_spot 10 = .ok (.ifCond .eq 26, 3) := by decide +kernel
theorem dX5_spot_13 : decode cX5_spot 13 = .ok (.iload_n 3, 1) := by decide +kernel
theorem dX5_spot_14 : decode cX5_spot 14 = .ok (.iconst 0, 1) := by decide +kernel
theorem dX5_spot_15 : decode cX5_spot 15 = .ok (.iconst 5, 1) := by decide +kernel
theorem dX5_spot_16 : decode cX5_spot 16 = .ok (.invokestatic 56, 3) := by decide +kernel
theorem dX5_spot_19 : decode cX5_spot 19 = .ok (.ifCond .eq 17, 3) := by decide +kernel
theorem dX5_spot_22 : decode cX5_spot 22 = .ok (.aload_n 0, 1) := by decide +kernel
theorem dX5_spot_23 : decode cX5_spot 23 = .ok (.bipush 20, 2) := by decide +kernel
theorem dX5_spot_25 : decode cX5_spot 25 = .ok (.iload_n 2, 1) := by decide +kernel
theorem dX5_spot_26 : decode cX5_spot 26 = .ok (.imul, 1) := by decide +kernel
theorem dX5_spot_27 : decode cX5_spot 27 = .ok (.iload_n 1, 1) := by decide +kernel
theorem dX5_spot_28 : decode cX5_spot 28 = .ok (.iadd, 1) := by decide +kernel
theorem dX5_spot_29 : decode cX5_spot 29 = .ok (.iload_n 3, 1) := by decide +kernel
theorem dX5_spot_30 : decode cX5_spot 30 = .ok (.invokevirtual 151, 3) := by decide +kernel
theorem dX5_spot_33 : decode cX5_spot 33 = .ok (.goto 8, 3) := by decide +kernel
theorem dX5_spot_36 : decode cX5_spot 36 = .ok (.aload_n 0, 1) := by decide +kernel
theorem dX5_spot_37 : decode cX5_spot 37 = .ok (.iconst 1, 1) := by decide +kernel
theorem dX5_spot_38 : decode cX5_spot 38 = .ok (.invokevirtual 89, 3) := by decide +kernel
theorem dX5_spot_41 : decode cX5_spot 41 = .ok (.ireturn, 1) := by decide +kernel
theorem dX5_rod_0 : decode cX5_rod 0 = .ok (.aload_n 0, 1) := by decide +kernel
theorem dX5_rod_1 : decode cX5_rod 1 = .ok (.iconst 0, 1) := by decide +kernel
theorem dX5_rod_2 : decode cX5_rod 2 = .ok (.putfield 53, 3) := by decide +kernel
theorem dX5_rod_5 : decode cX5_rod 5 = .ok (.aload_n 0, 1) := by decide +kernel
theorem dX5_rod_6 : decode cX5_rod 6 = .ok (.iload_n 1, 1) := by decide +kernel
theorem dX5_rod_7 : decode cX5_rod 7 = .ok (.invokevirtual 102, 3) := by decide +kernel
theorem dX5_rod_10 : decode cX5_rod 10 = .ok (.ifCond .eq 25, 3) := by decide +kernel
theorem dX5_rod_13 : decode cX5_rod 13 = .ok (.iload_n 2, 1) := by decide +kernel
theorem dX5_rod_14 : decode cX5_rod 14 = .ok (.iload_n 3, 1) := by decide +kernel
theorem dX5_rod_15 : decode cX5_rod 15 = .ok (.invokestatic 86, 3) := by decide +kernel
theorem dX5_rod_18 : decode cX5_rod 18 = .ok (.ifCond .eq 17, 3) := by decide +kernel
theorem dX5_rod_21 : decode cX5_rod 21 = .ok (.aload_n 0, 1) := by decide +kernel
theorem dX5_rod_22 : decode cX5_rod 22 = .ok (.iload_n 1, 1) := by decide +kernel
theorem dX5_rod_23 : decode cX5_rod 23 = .ok (.bipush 20, 2) := by decide +kernel
theorem dX5_rod_25 : decode cX5_rod 25 = .ok (.iload_n 3, 1) := by decide +kernel
theorem dX5_rod_26 : decode cX5_rod 26 = .ok (.imul, 1) := by decide +kernel
theorem dX5_rod_27 : decode cX5_rod 27 = .ok (.iload_n 2, 1) := by decide +kernel
theorem dX5_rod_28 : decode cX5_rod 28 = .ok (.iadd, 1) := by decide +kernel
theorem dX5_rod_29 : decode cX5_rod 29 = .ok (.invokevirtual 99, 3) := by decide +kernel
theorem dX5_rod_32 : decode cX5_rod 32 = .ok (.goto 8, 3) := by decide +kernel
theorem dX5_rod_35 : decode cX5_rod 35 = .ok (.aload_n 0, 1) := by decide +kernel
theorem dX5_rod_36 : decode cX5_rod 36 = .ok (.iconst 1, 1) := by decide +kernel
theorem dX5_rod_37 : decode cX5_rod 37 = .ok (.invokevirtual 89, 3) := by decide +kernel
theorem dX5_rod_40 : decode cX5_rod 40 = .ok (.ireturn, 1) := by decide +kernel
theorem dX5_pegsOf_0 : decode cX5_pegsOf 0 = .ok (.iconst 0, 1) := by decide +kernel
theorem dX5_pegsOf_1 : decode cX5_pegsOf 1 = .ok (.istore_n 3, 1) := by decide +kernel
theorem dX5_pegsOf_2 : decode cX5_pegsOf 2 = .ok (.iconst 0, 1) := by decide +kernel
theorem dX5_pegsOf_3 : decode cX5_pegsOf 3 = .ok (.istore 4, 2) := by decide +kernel
theorem dX5_pegsOf_5 : decode cX5_pegsOf 5 = .ok (.iload 4, 2) := by decide +kernel
theorem dX5_pegsOf_7 : decode cX5_pegsOf 7 = .ok (.sipush 400, 3) := by decide +kernel
theorem dX5_pegsOf_10 : decode cX5_pegsOf 10 = .ok (.if_icmp .ge 61, 3) := by decide +kernel
theorem dX5_pegsOf_13 : decode cX5_pegsOf 13 = .ok (.aload_n 0, 1) := by decide +kernel
theorem dX5_pegsOf_14 : decode cX5_pegsOf 14 = .ok (.getfield 38, 3) := by decide +kernel
theorem dX5_pegsOf_17 : decode cX5_pegsOf 17 = .ok (.iload 4, 2) := by decide +kernel
theorem dX5_pegsOf_19 : decode cX5_pegsOf 19 = .ok (.iaload, 1) := by decide +kernel
theorem dX5_pegsOf_20 : decode cX5_pegsOf 20 = .ok (.ifCond .eq 45, 3) := by decide +kernel
theorem dX5_pegsOf_23 : decode cX5_pegsOf 23 = .ok (.iload_n 1, 1) := by decide +kernel
theorem dX5_pegsOf_24 : decode cX5_pegsOf 24 = .ok (.iconst (-1), 1) := by decide +kernel
theorem dX5_pegsOf_25 : decode cX5_pegsOf 25 = .ok (.if_icmp .eq 19, 3) := by decide +kernel
theorem dX5_pegsOf_28 : decode cX5_pegsOf 28 = .ok (.aload_n 0, 1) := by decide +kernel
theorem dX5_pegsOf_29 : decode cX5_pegsOf 29 = .ok (.getfield 38, 3) := by decide +kernel
theorem dX5_pegsOf_32 : decode cX5_pegsOf 32 = .ok (.iload 4, 2) := by decide +kernel
theorem dX5_pegsOf_34 : decode cX5_pegsOf 34 = .ok (.iaload, 1) := by decide +kernel
theorem dX5_pegsOf_35 : decode cX5_pegsOf 35 = .ok (.iload_n 1, 1) := by decide +kernel
theorem dX5_pegsOf_36 : decode cX5_pegsOf 36 = .ok (.iconst 1, 1) := by decide +kernel
theorem dX5_pegsOf_37 : decode cX5_pegsOf 37 = .ok (.iadd, 1) := by decide +kernel
theorem dX5_pegsOf_38 : decode cX5_pegsOf 38 = .ok (.if_icmp .eq 6, 3) := by decide +kernel
theorem dX5_pegsOf_41 : decode cX5_pegsOf 41 = .ok (.goto 24, 3) := by decide +kernel
theorem dX5_pegsOf_44 : decode cX5_pegsOf 44 = .ok (.iload_n 3, 1) := by decide +kernel
theorem dX5_pegsOf_45 : decode cX5_pegsOf 45 = .ok (.iload_n 2, 1) := by decide +kernel
theorem dX5_pegsOf_46 : decode cX5_pegsOf 46 = .ok (.ifCond .eq 12, 3) := by decide +kernel
theorem dX5_pegsOf_49 : decode cX5_pegsOf 49 = .ok (.aload_n 0, 1) := by decide +kernel
theorem dX5_pegsOf_50 : decode cX5_pegsOf 50 = .ok (.iload 4, 2) := by decide +kernel
theorem dX5_pegsOf_52 : decode cX5_pegsOf 52 = .ok (.invokevirtual 142, 3) := by decide +kernel
theorem dX5_pegsOf_55 : decode cX5_pegsOf 55 = .ok (.ifCond .le 7, 3) := by decide +kernel
theorem dX5_pegsOf_58 : decode cX5_pegsOf 58 = .ok (.iconst 1, 1) := by decide +kernel
theorem dX5_pegsOf_59 : decode cX5_pegsOf 59 = .ok (.goto 4, 3) := by decide +kernel
theorem dX5_pegsOf_62 : decode cX5_pegsOf 62 = .ok (.iconst 0, 1) := by decide +kernel
theorem dX5_pegsOf_63 : decode cX5_pegsOf 63 = .ok (.iadd, 1) := by decide +kernel
theorem dX5_pegsOf_64 : decode cX5_pegsOf 64 = .ok (.istore_n 3, 1) := by decide +kernel
theorem dX5_pegsOf_65 : decode cX5_pegsOf 65 = .ok (.iinc 4 1, 3) := by decide +kernel
theorem dX5_pegsOf_68 : decode cX5_pegsOf 68 = .ok (.goto (-63), 3) := by decide +kernel
theorem dX5_pegsOf_71 : decode cX5_pegsOf 71 = .ok (.iload_n 3, 1) := by decide +kernel
theorem dX5_pegsOf_72 : decode cX5_pegsOf 72 = .ok (.ireturn, 1) := by decide +kernel
theorem dX5_inBets_0 : decode cX5_inBets 0 = .ok (.iconst 0, 1) := by decide +kernel
theorem dX5_inBets_1 : decode cX5_inBets 1 = .ok (.istore_n 2, 1) := by decide +kernel
theorem dX5_inBets_2 : decode cX5_inBets 2 = .ok (.iconst 0, 1) := by decide +kernel
theorem dX5_inBets_3 : decode cX5_inBets 3 = .ok (.istore_n 3, 1) := by decide +kernel
theorem dX5_inBets_4 : decode cX5_inBets 4 = .ok (.iload_n 3, 1) := by decide +kernel
theorem dX5_inBets_5 : decode cX5_inBets 5 = .ok (.aload_n 0, 1) := by decide +kernel
theorem dX5_inBets_6 : decode cX5_inBets 6 = .ok (.getfield 63, 3) := by decide +kernel
theorem dX5_inBets_9 : decode cX5_inBets 9 = .ok (.if_icmp .ge 37, 3) := by decide +kernel
theorem dX5_inBets_12 : decode cX5_inBets 12 = .ok (.iload_n 2, 1) := by decide +kernel
theorem dX5_inBets_13 : decode cX5_inBets 13 = .ok (.aload_n 0, 1) := by decide +kernel
theorem dX5_inBets_14 : decode cX5_inBets 14 = .ok (.iload_n 3, 1) := by decide +kernel
theorem dX5_inBets_15 : decode cX5_inBets 15 = .ok (.invokevirtual 132, 3) := by decide +kernel
theorem dX5_inBets_18 : decode cX5_inBets 18 = .ok (.ifCond .eq 7, 3) := by decide +kernel
theorem dX5_inBets_21 : decode cX5_inBets 21 = .ok (.iconst 0, 1) := by decide +kernel
theorem dX5_inBets_22 : decode cX5_inBets 22 = .ok (.goto 16, 3) := by decide +kernel
theorem dX5_inBets_25 : decode cX5_inBets 25 = .ok (.aload_n 0, 1) := by decide +kernel
theorem dX5_inBets_26 : decode cX5_inBets 26 = .ok (.getfield 50, 3) := by decide +kernel
theorem dX5_inBets_29 : decode cX5_inBets 29 = .ok (.iconst 5, 1) := by decide +kernel
theorem dX5_inBets_30 : decode cX5_inBets 30 = .ok (.iload_n 3, 1) := by decide +kernel
theorem dX5_inBets_31 : decode cX5_inBets 31 = .ok (.imul, 1) := by decide +kernel
theorem dX5_inBets_32 : decode cX5_inBets 32 = .ok (.iload_n 1, 1) := by decide +kernel
theorem dX5_inBets_33 : decode cX5_inBets 33 = .ok (.iadd, 1) := by decide +kernel
theorem dX5_inBets_34 : decode cX5_inBets 34 = .ok (.iaload, 1) := by decide +kernel
theorem dX5_inBets_35 : decode cX5_inBets 35 = .ok (.invokestatic 66, 3) := by decide +kernel
theorem dX5_inBets_38 : decode cX5_inBets 38 = .ok (.iadd, 1) := by decide +kernel
theorem dX5_inBets_39 : decode cX5_inBets 39 = .ok (.istore_n 2, 1) := by decide +kernel
theorem dX5_inBets_40 : decode cX5_inBets 40 = .ok (.iinc 3 1, 3) := by decide +kernel
theorem dX5_inBets_43 : decode cX5_inBets 43 = .ok (.goto (-39), 3) := by decide +kernel
theorem dX5_inBets_46 : decode cX5_inBets 46 = .ok (.iload_n 2, 1) := by decide +kernel
theorem dX5_inBets_47 : decode cX5_inBets 47 = .ok (.ireturn, 1) := by decide +kernel
theorem dX5_dowserTold_0 : decode cX5_dowserTold 0 = .ok (.iload_n 2, 1) := by decide +kernel
theorem dX5_dowserTold_1 : decode cX5_dowserTold 1 = .ok (.tableswitch 91 0 6 #[43, 50, 57, 64, 71, 78, 84], 43) := by decide +kernel
theorem dX5_dowserTold_44 : decode cX5_dowserTold 44 = .ok (.aload_n 0, 1) := by decide +kernel
theorem dX5_dowserTold_45 : decode cX5_dowserTold 45 = .ok (.getfield 23, 3) := by decide +kernel
theorem dX5_dowserTold_48 : decode cX5_dowserTold 48 = .ok (.iload_n 1, 1) := by decide +kernel
theorem dX5_dowserTold_49 : decode cX5_dowserTold 49 = .ok (.iaload, 1) := by decide +kernel
theorem dX5_dowserTold_50 : decode cX5_dowserTold 50 = .ok (.ireturn, 1) := by decide +kernel
theorem dX5_dowserTold_51 : decode cX5_dowserTold 51 = .ok (.aload_n 0, 1) := by decide +kernel
theorem dX5_dowserTold_52 : decode cX5_dowserTold 52 = .ok (.getfield 26, 3) := by decide +kernel
theorem dX5_dowserTold_55 : decode cX5_dowserTold 55 = .ok (.iload_n 1, 1) := by decide +kernel
theorem dX5_dowserTold_56 : decode cX5_dowserTold 56 = .ok (.iaload, 1) := by decide +kernel
theorem dX5_dowserTold_57 : decode cX5_dowserTold 57 = .ok (.ireturn, 1) := by decide +kernel
theorem dX5_dowserTold_58 : decode cX5_dowserTold 58 = .ok (.aload_n 0, 1) := by decide +kernel
theorem dX5_dowserTold_59 : decode cX5_dowserTold 59 = .ok (.getfield 29, 3) := by decide +kernel
theorem dX5_dowserTold_62 : decode cX5_dowserTold 62 = .ok (.iload_n 1, 1) := by decide +kernel
theorem dX5_dowserTold_63 : decode cX5_dowserTold 63 = .ok (.iaload, 1) := by decide +kernel
theorem dX5_dowserTold_64 : decode cX5_dowserTold 64 = .ok (.ireturn, 1) := by decide +kernel
theorem dX5_dowserTold_65 : decode cX5_dowserTold 65 = .ok (.aload_n 0, 1) := by decide +kernel
theorem dX5_dowserTold_66 : decode cX5_dowserTold 66 = .ok (.iload_n 1, 1) := by decide +kernel
theorem dX5_dowserTold_67 : decode cX5_dowserTold 67 = .ok (.iconst 0, 1) := by decide +kernel
theorem dX5_dowserTold_68 : decode cX5_dowserTold 68 = .ok (.invokevirtual 154, 3) := by decide +kernel
theorem dX5_dowserTold_71 : decode cX5_dowserTold 71 = .ok (.ireturn, 1) := by decide +kernel
theorem dX5_dowserTold_72 : decode cX5_dowserTold 72 = .ok (.aload_n 0, 1) := by decide +kernel
theorem dX5_dowserTold_73 : decode cX5_dowserTold 73 = .ok (.iload_n 1, 1) := by decide +kernel
theorem dX5_dowserTold_74 : decode cX5_dowserTold 74 = .ok (.iconst 1, 1) := by decide +kernel
theorem dX5_dowserTold_75 : decode cX5_dowserTold 75 = .ok (.invokevirtual 154, 3) := by decide +kernel
theorem dX5_dowserTold_78 : decode cX5_dowserTold 78 = .ok (.ireturn, 1) := by decide +kernel
theorem dX5_dowserTold_79 : decode cX5_dowserTold 79 = .ok (.aload_n 0, 1) := by decide +kernel
theorem dX5_dowserTold_80 : decode cX5_dowserTold 80 = .ok (.iload_n 1, 1) := by decide +kernel
theorem dX5_dowserTold_81 : decode cX5_dowserTold 81 = .ok (.invokevirtual 157, 3) := by decide +kernel
theorem dX5_dowserTold_84 : decode cX5_dowserTold 84 = .ok (.ireturn, 1) := by decide +kernel
theorem dX5_dowserTold_85 : decode cX5_dowserTold 85 = .ok (.aload_n 0, 1) := by decide +kernel
theorem dX5_dowserTold_86 : decode cX5_dowserTold 86 = .ok (.getfield 32, 3) := by decide +kernel
theorem dX5_dowserTold_89 : decode cX5_dowserTold 89 = .ok (.iload_n 1, 1) := by decide +kernel
theorem dX5_dowserTold_90 : decode cX5_dowserTold 90 = .ok (.iaload, 1) := by decide +kernel
theorem dX5_dowserTold_91 : decode cX5_dowserTold 91 = .ok (.ireturn, 1) := by decide +kernel
theorem dX5_dowserTold_92 : decode cX5_dowserTold 92 = .ok (.aload_n 0, 1) := by decide +kernel
theorem dX5_dowserTold_93 : decode cX5_dowserTold 93 = .ok (.getfield 35, 3) := by decide +kernel
theorem dX5_dowserTold_96 : decode cX5_dowserTold 96 = .ok (.iload_n 1, 1) := by decide +kernel
theorem dX5_dowserTold_97 : decode cX5_dowserTold 97 = .ok (.iaload, 1) := by decide +kernel
theorem dX5_dowserTold_98 : decode cX5_dowserTold 98 = .ok (.ireturn, 1) := by decide +kernel
theorem dX5_told_0 : decode cX5_told 0 = .ok (.aload_n 0, 1) := by decide +kernel
theorem dX5_told_1 : decode cX5_told 1 = .ok (.iconst 0, 1) := by decide +kernel
theorem dX5_told_2 : decode cX5_told 2 = .ok (.putfield 53, 3) := by decide +kernel
theorem dX5_told_5 : decode cX5_told 5 = .ok (.aload_n 0, 1) := by decide +kernel
theorem dX5_told_6 : decode cX5_told 6 = .ok (.iload_n 1, 1) := by decide +kernel
theorem dX5_told_7 : decode cX5_told 7 = .ok (.invokevirtual 102, 3) := by decide +kernel
theorem dX5_told_10 : decode cX5_told 10 = .ok (.ifCond .eq 22, 3) := by decide +kernel
theorem dX5_told_13 : decode cX5_told 13 = .ok (.iload_n 2, 1) := by decide +kernel
theorem dX5_told_14 : decode cX5_told 14 = .ok (.iconst 0, 1) := by decide +kernel
theorem dX5_told_15 : decode cX5_told 15 = .ok (.bipush 7, 2) := by decide +kernel
theorem dX5_told_17 : decode cX5_told 17 = .ok (.invokestatic 56, 3) := by decide +kernel
theorem dX5_told_20 : decode cX5_told 20 = .ok (.ifCond .eq 12, 3) := by decide +kernel
theorem dX5_told_23 : decode cX5_told 23 = .ok (.aload_n 0, 1) := by decide +kernel
theorem dX5_told_24 : decode cX5_told 24 = .ok (.iload_n 1, 1) := by decide +kernel
theorem dX5_told_25 : decode cX5_told 25 = .ok (.iload_n 2, 1) := by decide +kernel
theorem dX5_told_26 : decode cX5_told 26 = .ok (.invokevirtual 160, 3) := by decide +kernel
theorem dX5_told_29 : decode cX5_told 29 = .ok (.goto 8, 3) := by decide +kernel
theorem dX5_told_32 : decode cX5_told 32 = .ok (.aload_n 0, 1) := by decide +kernel
theorem dX5_told_33 : decode cX5_told 33 = .ok (.iconst 1, 1) := by decide +kernel
theorem dX5_told_34 : decode cX5_told 34 = .ok (.invokevirtual 89, 3) := by decide +kernel
theorem dX5_told_37 : decode cX5_told 37 = .ok (.ireturn, 1) := by decide +kernel
theorem dX5_pitTold_0 : decode cX5_pitTold 0 = .ok (.iload_n 2, 1) := by decide +kernel
theorem dX5_pitTold_1 : decode cX5_pitTold 1 = .ok (.tableswitch 90 0 4 #[35, 45, 55, 62, 76], 35) := by decide +kernel
theorem dX5_pitTold_36 : decode cX5_pitTold 36 = .ok (.aload_n 0, 1) := by decide +kernel
theorem dX5_pitTold_37 : decode cX5_pitTold 37 = .ok (.getfield 41, 3) := by decide +kernel
theorem dX5_pitTold_40 : decode cX5_pitTold 40 = .ok (.iload_n 1, 1) := by decide +kernel
theorem dX5_pitTold_41 : decode cX5_pitTold 41 = .ok (.iaload, 1) := by decide +kernel
theorem dX5_pitTold_42 : decode cX5_pitTold 42 = .ok (.bipush 20, 2) := by decide +kernel
theorem dX5_pitTold_44 : decode cX5_pitTold 44 = .ok (.irem, 1) := by decide +kernel
theorem dX5_pitTold_45 : decode cX5_pitTold 45 = .ok (.ireturn, 1) := by decide +kernel
theorem dX5_pitTold_46 : decode cX5_pitTold 46 = .ok (.aload_n 0, 1) := by decide +kernel
theorem dX5_pitTold_47 : decode cX5_pitTold 47 = .ok (.getfield 41, 3) := by decide +kernel
theorem dX5_pitTold_50 : decode cX5_pitTold 50 = .ok (.iload_n 1, 1) := by decide +kernel
theorem dX5_pitTold_51 : decode cX5_pitTold 51 = .ok (.iaload, 1) := by decide +kernel
theorem dX5_pitTold_52 : decode cX5_pitTold 52 = .ok (.bipush 20, 2) := by decide +kernel
theorem dX5_pitTold_54 : decode cX5_pitTold 54 = .ok (.idiv, 1) := by decide +kernel
theorem dX5_pitTold_55 : decode cX5_pitTold 55 = .ok (.ireturn, 1) := by decide +kernel
theorem dX5_pitTold_56 : decode cX5_pitTold 56 = .ok (.aload_n 0, 1) := by decide +kernel
theorem dX5_pitTold_57 : decode cX5_pitTold 57 = .ok (.getfield 47, 3) := by decide +kernel
theorem dX5_pitTold_60 : decode cX5_pitTold 60 = .ok (.iload_n 1, 1) := by decide +kernel
theorem dX5_pitTold_61 : decode cX5_pitTold 61 = .ok (.iaload, 1) := by decide +kernel
theorem dX5_pitTold_62 : decode cX5_pitTold 62 = .ok (.ireturn, 1) := by decide +kernel
theorem dX5_pitTold_63 : decode cX5_pitTold 63 = .ok (.aload_n 0, 1) := by decide +kernel
theorem dX5_pitTold_64 : decode cX5_pitTold 64 = .ok (.iload_n 1, 1) := by decide +kernel
theorem dX5_pitTold_65 : decode cX5_pitTold 65 = .ok (.invokevirtual 115, 3) := by decide +kernel
theorem dX5_pitTold_68 : decode cX5_pitTold 68 = .ok (.ifCond .eq 7, 3) := by decide +kernel
theorem dX5_pitTold_71 : decode cX5_pitTold 71 = .ok (.iconst 1, 1) := by decide +kernel
theorem dX5_pitTold_72 : decode cX5_pitTold 72 = .ok (.goto 4, 3) := by decide +kernel
theorem dX5_pitTold_75 : decode cX5_pitTold 75 = .ok (.iconst 0, 1) := by decide +kernel
theorem dX5_pitTold_76 : decode cX5_pitTold 76 = .ok (.ireturn, 1) := by decide +kernel
theorem dX5_pitTold_77 : decode cX5_pitTold 77 = .ok (.aload_n 0, 1) := by decide +kernel
theorem dX5_pitTold_78 : decode cX5_pitTold 78 = .ok (.iload_n 1, 1) := by decide +kernel
theorem dX5_pitTold_79 : decode cX5_pitTold 79 = .ok (.invokevirtual 132, 3) := by decide +kernel
theorem dX5_pitTold_82 : decode cX5_pitTold 82 = .ok (.ifCond .eq 7, 3) := by decide +kernel
theorem dX5_pitTold_85 : decode cX5_pitTold 85 = .ok (.iconst 1, 1) := by decide +kernel
theorem dX5_pitTold_86 : decode cX5_pitTold 86 = .ok (.goto 4, 3) := by decide +kernel
theorem dX5_pitTold_89 : decode cX5_pitTold 89 = .ok (.iconst 0, 1) := by decide +kernel
theorem dX5_pitTold_90 : decode cX5_pitTold 90 = .ok (.ireturn, 1) := by decide +kernel
theorem dX5_pitTold_91 : decode cX5_pitTold 91 = .ok (.aload_n 0, 1) := by decide +kernel
theorem dX5_pitTold_92 : decode cX5_pitTold 92 = .ok (.iload_n 1, 1) := by decide +kernel
theorem dX5_pitTold_93 : decode cX5_pitTold 93 = .ok (.iload_n 2, 1) := by decide +kernel
theorem dX5_pitTold_94 : decode cX5_pitTold 94 = .ok (.iconst 5, 1) := by decide +kernel
theorem dX5_pitTold_95 : decode cX5_pitTold 95 = .ok (.if_icmp .ne 7, 3) := by decide +kernel
theorem dX5_pitTold_98 : decode cX5_pitTold 98 = .ok (.iconst 1, 1) := by decide +kernel
theorem dX5_pitTold_99 : decode cX5_pitTold 99 = .ok (.goto 4, 3) := by decide +kernel
theorem dX5_pitTold_102 : decode cX5_pitTold 102 = .ok (.iconst 0, 1) := by decide +kernel
theorem dX5_pitTold_103 : decode cX5_pitTold 103 = .ok (.invokevirtual 121, 3) := by decide +kernel
theorem dX5_pitTold_106 : decode cX5_pitTold 106 = .ok (.ireturn, 1) := by decide +kernel
theorem dX5_about_0 : decode cX5_about 0 = .ok (.aload_n 0, 1) := by decide +kernel
theorem dX5_about_1 : decode cX5_about 1 = .ok (.iconst 0, 1) := by decide +kernel
theorem dX5_about_2 : decode cX5_about 2 = .ok (.putfield 53, 3) := by decide +kernel
theorem dX5_about_5 : decode cX5_about 5 = .ok (.aload_n 0, 1) := by decide +kernel
theorem dX5_about_6 : decode cX5_about 6 = .ok (.iload_n 1, 1) := by decide +kernel
theorem dX5_about_7 : decode cX5_about 7 = .ok (.invokevirtual 118, 3) := by decide +kernel
theorem dX5_about_10 : decode cX5_about 10 = .ok (.ifCond .eq 22, 3) := by decide +kernel
theorem dX5_about_13 : decode cX5_about 13 = .ok (.iload_n 2, 1) := by decide +kernel
theorem dX5_about_14 : decode cX5_about 14 = .ok (.iconst 0, 1) := by decide +kernel
theorem dX5_about_15 : decode cX5_about 15 = .ok (.bipush 6, 2) := by decide +kernel
theorem dX5_about_17 : decode cX5_about 17 = .ok (.invokestatic 56, 3) := by decide +kernel
theorem dX5_about_20 : decode cX5_about 20 = .ok (.ifCond .eq 12, 3) := by decide +kernel
theorem dX5_about_23 : decode cX5_about 23 = .ok (.aload_n 0, 1) := by decide +kernel
theorem dX5_about_24 : decode cX5_about 24 = .ok (.iload_n 1, 1) := by decide +kernel
theorem dX5_about_25 : decode cX5_about 25 = .ok (.iload_n 2, 1) := by decide +kernel
theorem dX5_about_26 : decode cX5_about 26 = .ok (.invokevirtual 163, 3) := by decide +kernel
theorem dX5_about_29 : decode cX5_about 29 = .ok (.goto 8, 3) := by decide +kernel
theorem dX5_about_32 : decode cX5_about 32 = .ok (.aload_n 0, 1) := by decide +kernel
theorem dX5_about_33 : decode cX5_about 33 = .ok (.iconst 1, 1) := by decide +kernel
theorem dX5_about_34 : decode cX5_about 34 = .ok (.invokevirtual 89, 3) := by decide +kernel
theorem dX5_about_37 : decode cX5_about 37 = .ok (.ireturn, 1) := by decide +kernel
theorem dX5_counted_0 : decode cX5_counted 0 = .ok (.iconst 0, 1) := by decide +kernel
theorem dX5_counted_1 : decode cX5_counted 1 = .ok (.istore_n 2, 1) := by decide +kernel
theorem dX5_counted_2 : decode cX5_counted 2 = .ok (.iload_n 1, 1) := by decide +kernel
theorem dX5_counted_3 : decode cX5_counted 3 = .ok (.tableswitch 115 0 7 #[45, 50, 55, 60, 65, 70, 103, 110], 45) := by decide +kernel
theorem dX5_counted_48 : decode cX5_counted 48 = .ok (.aload_n 0, 1) := by decide +kernel
theorem dX5_counted_49 : decode cX5_counted 49 = .ok (.getfield 72, 3) := by decide +kernel
theorem dX5_counted_52 : decode cX5_counted 52 = .ok (.ireturn, 1) := by decide +kernel
theorem dX5_counted_53 : decode cX5_counted 53 = .ok (.aload_n 0, 1) := by decide +kernel
theorem dX5_counted_54 : decode cX5_counted 54 = .ok (.getfield 60, 3) := by decide +kernel
theorem dX5_counted_57 : decode cX5_counted 57 = .ok (.ireturn, 1) := by decide +kernel
theorem dX5_counted_58 : decode cX5_counted 58 = .ok (.aload_n 0, 1) := by decide +kernel
theorem dX5_counted_59 : decode cX5_counted 59 = .ok (.getfield 96, 3) := by decide +kernel
theorem dX5_counted_62 : decode cX5_counted 62 = .ok (.ireturn, 1) := by decide +kernel
theorem dX5_counted_63 : decode cX5_counted 63 = .ok (.aload_n 0, 1) := by decide +kernel
theorem dX5_counted_64 : decode cX5_counted 64 = .ok (.getfield 63, 3) := by decide +kernel
theorem dX5_counted_67 : decode cX5_counted 67 = .ok (.ireturn, 1) := by decide +kernel
theorem dX5_counted_68 : decode cX5_counted 68 = .ok (.aload_n 0, 1) := by decide +kernel
theorem dX5_counted_69 : decode cX5_counted 69 = .ok (.getfield 9, 3) := by decide +kernel
theorem dX5_counted_72 : decode cX5_counted 72 = .ok (.ireturn, 1) := by decide +kernel
theorem dX5_counted_73 : decode cX5_counted 73 = .ok (.iconst 0, 1) := by decide +kernel
theorem dX5_counted_74 : decode cX5_counted 74 = .ok (.istore_n 3, 1) := by decide +kernel
theorem dX5_counted_75 : decode cX5_counted 75 = .ok (.iload_n 3, 1) := by decide +kernel
theorem dX5_counted_76 : decode cX5_counted 76 = .ok (.sipush 400, 3) := by decide +kernel
theorem dX5_counted_79 : decode cX5_counted 79 = .ok (.if_icmp .ge 25, 3) := by decide +kernel
theorem dX5_counted_82 : decode cX5_counted 82 = .ok (.iload_n 2, 1) := by decide +kernel
theorem dX5_counted_83 : decode cX5_counted 83 = .ok (.aload_n 0, 1) := by decide +kernel
theorem dX5_counted_84 : decode cX5_counted 84 = .ok (.iload_n 3, 1) := by decide +kernel
theorem dX5_counted_85 : decode cX5_counted 85 = .ok (.invokevirtual 142, 3) := by decide +kernel
theorem dX5_counted_88 : decode cX5_counted 88 = .ok (.ifCond .le 7, 3) := by decide +kernel
theorem dX5_counted_91 : decode cX5_counted 91 = .ok (.iconst 1, 1) := by decide +kernel
theorem dX5_counted_92 : decode cX5_counted 92 = .ok (.goto 4, 3) := by decide +kernel
theorem dX5_counted_95 : decode cX5_counted 95 = .ok (.iconst 0, 1) := by decide +kernel
theorem dX5_counted_96 : decode cX5_counted 96 = .ok (.iadd, 1) := by decide +kernel
theorem dX5_counted_97 : decode cX5_counted 97 = .ok (.istore_n 2, 1) := by decide +kernel
theorem dX5_counted_98 : decode cX5_counted 98 = .ok (.iinc 3 1, 3) := by decide +kernel
theorem dX5_counted_101 : decode cX5_counted 101 = .ok (.goto (-26), 3) := by decide +kernel
theorem dX5_counted_104 : decode cX5_counted 104 = .ok (.iload_n 2, 1) := by decide +kernel
theorem dX5_counted_105 : decode cX5_counted 105 = .ok (.ireturn, 1) := by decide +kernel
theorem dX5_counted_106 : decode cX5_counted 106 = .ok (.aload_n 0, 1) := by decide +kernel
theorem dX5_counted_107 : decode cX5_counted 107 = .ok (.iconst (-1), 1) := by decide +kernel
theorem dX5_counted_108 : decode cX5_counted 108 = .ok (.iconst 1, 1) := by decide +kernel
theorem dX5_counted_109 : decode cX5_counted 109 = .ok (.invokevirtual 154, 3) := by decide +kernel
theorem dX5_counted_112 : decode cX5_counted 112 = .ok (.ireturn, 1) := by decide +kernel
theorem dX5_counted_113 : decode cX5_counted 113 = .ok (.aload_n 0, 1) := by decide +kernel
theorem dX5_counted_114 : decode cX5_counted 114 = .ok (.getfield 129, 3) := by decide +kernel
theorem dX5_counted_117 : decode cX5_counted 117 = .ok (.ireturn, 1) := by decide +kernel
theorem dX5_counted_118 : decode cX5_counted 118 = .ok (.iconst 0, 1) := by decide +kernel
theorem dX5_counted_119 : decode cX5_counted 119 = .ok (.istore_n 3, 1) := by decide +kernel
theorem dX5_counted_120 : decode cX5_counted 120 = .ok (.iload_n 3, 1) := by decide +kernel
theorem dX5_counted_121 : decode cX5_counted 121 = .ok (.aload_n 0, 1) := by decide +kernel
theorem dX5_counted_122 : decode cX5_counted 122 = .ok (.getfield 60, 3) := by decide +kernel
theorem dX5_counted_125 : decode cX5_counted 125 = .ok (.if_icmp .ge 18, 3) := by decide +kernel
theorem dX5_counted_128 : decode cX5_counted 128 = .ok (.iload_n 2, 1) := by decide +kernel
theorem dX5_counted_129 : decode cX5_counted 129 = .ok (.aload_n 0, 1) := by decide +kernel
theorem dX5_counted_130 : decode cX5_counted 130 = .ok (.getfield 29, 3) := by decide +kernel
theorem dX5_counted_133 : decode cX5_counted 133 = .ok (.iload_n 3, 1) := by decide +kernel
theorem dX5_counted_134 : decode cX5_counted 134 = .ok (.iaload, 1) := by decide +kernel
theorem dX5_counted_135 : decode cX5_counted 135 = .ok (.iadd, 1) := by decide +kernel
theorem dX5_counted_136 : decode cX5_counted 136 = .ok (.istore_n 2, 1) := by decide +kernel
theorem dX5_counted_137 : decode cX5_counted 137 = .ok (.iinc 3 1, 3) := by decide +kernel
theorem dX5_counted_140 : decode cX5_counted 140 = .ok (.goto (-20), 3) := by decide +kernel
theorem dX5_counted_143 : decode cX5_counted 143 = .ok (.iload_n 2, 1) := by decide +kernel
theorem dX5_counted_144 : decode cX5_counted 144 = .ok (.ireturn, 1) := by decide +kernel
theorem dX5_count_0 : decode cX5_count 0 = .ok (.aload_n 0, 1) := by decide +kernel
theorem dX5_count_1 : decode cX5_count 1 = .ok (.iconst 0, 1) := by decide +kernel
theorem dX5_count_2 : decode cX5_count 2 = .ok (.putfield 53, 3) := by decide +kernel
theorem dX5_count_5 : decode cX5_count 5 = .ok (.iload_n 1, 1) := by decide +kernel
theorem dX5_count_6 : decode cX5_count 6 = .ok (.iconst 0, 1) := by decide +kernel
theorem dX5_count_7 : decode cX5_count 7 = .ok (.bipush 8, 2) := by decide +kernel
theorem dX5_count_9 : decode cX5_count 9 = .ok (.invokestatic 56, 3) := by decide +kernel
theorem dX5_count_12 : decode cX5_count 12 = .ok (.ifCond .eq 11, 3) := by decide +kernel
theorem dX5_count_15 : decode cX5_count 15 = .ok (.aload_n 0, 1) := by decide +kernel
theorem dX5_count_16 : decode cX5_count 16 = .ok (.iload_n 1, 1) := by decide +kernel
theorem dX5_count_17 : decode cX5_count 17 = .ok (.invokevirtual 166, 3) := by decide +kernel
theorem dX5_count_20 : decode cX5_count 20 = .ok (.goto 8, 3) := by decide +kernel
theorem dX5_count_23 : decode cX5_count 23 = .ok (.aload_n 0, 1) := by decide +kernel
theorem dX5_count_24 : decode cX5_count 24 = .ok (.iconst 1, 1) := by decide +kernel
theorem dX5_count_25 : decode cX5_count 25 = .ok (.invokevirtual 89, 3) := by decide +kernel
theorem dX5_count_28 : decode cX5_count 28 = .ok (.ireturn, 1) := by decide +kernel
theorem dX5_on_0 : decode cX5_on 0 = .ok (.iconst 0, 1) := by decide +kernel
theorem dX5_on_1 : decode cX5_on 1 = .ok (.istore_n 3, 1) := by decide +kernel
theorem dX5_on_2 : decode cX5_on 2 = .ok (.iconst 0, 1) := by decide +kernel
theorem dX5_on_3 : decode cX5_on 3 = .ok (.istore 4, 2) := by decide +kernel
theorem dX5_on_5 : decode cX5_on 5 = .ok (.iload 4, 2) := by decide +kernel
theorem dX5_on_7 : decode cX5_on 7 = .ok (.sipush 400, 3) := by decide +kernel
theorem dX5_on_10 : decode cX5_on 10 = .ok (.if_icmp .ge 86, 3) := by decide +kernel
theorem dX5_on_13 : decode cX5_on 13 = .ok (.iload 4, 2) := by decide +kernel
theorem dX5_on_15 : decode cX5_on 15 = .ok (.bipush 20, 2) := by decide +kernel
theorem dX5_on_17 : decode cX5_on 17 = .ok (.irem, 1) := by decide +kernel
theorem dX5_on_18 : decode cX5_on 18 = .ok (.istore 5, 2) := by decide +kernel
theorem dX5_on_20 : decode cX5_on 20 = .ok (.iload 4, 2) := by decide +kernel
theorem dX5_on_22 : decode cX5_on 22 = .ok (.bipush 20, 2) := by decide +kernel
theorem dX5_on_24 : decode cX5_on 24 = .ok (.idiv, 1) := by decide +kernel
theorem dX5_on_25 : decode cX5_on 25 = .ok (.istore 6, 2) := by decide +kernel
theorem dX5_on_27 : decode cX5_on 27 = .ok (.iload_n 1, 1) := by decide +kernel
theorem dX5_on_28 : decode cX5_on 28 = .ok (.ifCond .ne 8, 3) := by decide +kernel
theorem dX5_on_31 : decode cX5_on 31 = .ok (.iload 6, 2) := by decide +kernel
theorem dX5_on_33 : decode cX5_on 33 = .ok (.goto 31, 3) := by decide +kernel
theorem dX5_on_36 : decode cX5_on 36 = .ok (.iload_n 1, 1) := by decide +kernel
theorem dX5_on_37 : decode cX5_on 37 = .ok (.iconst 1, 1) := by decide +kernel
theorem dX5_on_38 : decode cX5_on 38 = .ok (.if_icmp .ne 8, 3) := by decide +kernel
theorem dX5_on_41 : decode cX5_on 41 = .ok (.iload 5, 2) := by decide +kernel
theorem dX5_on_43 : decode cX5_on 43 = .ok (.goto 21, 3) := by decide +kernel
theorem dX5_on_46 : decode cX5_on 46 = .ok (.iload_n 1, 1) := by decide +kernel
theorem dX5_on_47 : decode cX5_on 47 = .ok (.iconst 2, 1) := by decide +kernel
theorem dX5_on_48 : decode cX5_on 48 = .ok (.if_icmp .ne 11, 3) := by decide +kernel
theorem dX5_on_51 : decode cX5_on 51 = .ok (.iload 5, 2) := by decide +kernel
theorem dX5_on_53 : decode cX5_on 53 = .ok (.iload 6, 2) := by decide +kernel
theorem dX5_on_55 : decode cX5_on 55 = .ok (.isub, 1) := by decide +kernel
theorem dX5_on_56 : decode cX5_on 56 = .ok (.goto 8, 3) := by decide +kernel
theorem dX5_on_59 : decode cX5_on 59 = .ok (.iload 5, 2) := by decide +kernel
theorem dX5_on_61 : decode cX5_on 61 = .ok (.iload 6, 2) := by decide +kernel
theorem dX5_on_63 : decode cX5_on 63 = .ok (.iadd, 1) := by decide +kernel
theorem dX5_on_64 : decode cX5_on 64 = .ok (.istore 7, 2) := by decide +kernel
theorem dX5_on_66 : decode cX5_on 66 = .ok (.iload_n 3, 1) := by decide +kernel
theorem dX5_on_67 : decode cX5_on 67 = .ok (.aload_n 0, 1) := by decide +kernel
theorem dX5_on_68 : decode cX5_on 68 = .ok (.getfield 38, 3) := by decide +kernel
theorem dX5_on_71 : decode cX5_on 71 = .ok (.iload 4, 2) := by decide +kernel
theorem dX5_on_73 : decode cX5_on 73 = .ok (.iaload, 1) := by decide +kernel
theorem dX5_on_74 : decode cX5_on 74 = .ok (.ifCond .le 13, 3) := by decide +kernel
theorem dX5_on_77 : decode cX5_on 77 = .ok (.iload 7, 2) := by decide +kernel
theorem dX5_on_79 : decode cX5_on 79 = .ok (.iload_n 2, 1) := by decide +kernel
theorem dX5_on_80 : decode cX5_on 80 = .ok (.if_icmp .ne 7, 3) := by decide +kernel
theorem dX5_on_83 : decode cX5_on 83 = .ok (.iconst 1, 1) := by decide +kernel
theorem dX5_on_84 : decode cX5_on 84 = .ok (.goto 4, 3) := by decide +kernel
theorem dX5_on_87 : decode cX5_on 87 = .ok (.iconst 0, 1) := by decide +kernel
theorem dX5_on_88 : decode cX5_on 88 = .ok (.iadd, 1) := by decide +kernel
theorem dX5_on_89 : decode cX5_on 89 = .ok (.istore_n 3, 1) := by decide +kernel
theorem dX5_on_90 : decode cX5_on 90 = .ok (.iinc 4 1, 3) := by decide +kernel
theorem dX5_on_93 : decode cX5_on 93 = .ok (.goto (-88), 3) := by decide +kernel
theorem dX5_on_96 : decode cX5_on 96 = .ok (.iload_n 3, 1) := by decide +kernel
theorem dX5_on_97 : decode cX5_on 97 = .ok (.ireturn, 1) := by decide +kernel
theorem dX5_lineTold_0 : decode cX5_lineTold 0 = .ok (.iconst 0, 1) := by decide +kernel
theorem dX5_lineTold_1 : decode cX5_lineTold 1 = .ok (.istore_n 2, 1) := by decide +kernel
theorem dX5_lineTold_2 : decode cX5_lineTold 2 = .ok (.iconst (-1), 1) := by decide +kernel
theorem dX5_lineTold_3 : decode cX5_lineTold 3 = .ok (.istore_n 3, 1) := by decide +kernel
theorem dX5_lineTold_4 : decode cX5_lineTold 4 = .ok (.iconst (-1), 1) := by decide +kernel
theorem dX5_lineTold_5 : decode cX5_lineTold 5 = .ok (.istore 4, 2) := by decide +kernel
theorem dX5_lineTold_7 : decode cX5_lineTold 7 = .ok (.iconst 0, 1) := by decide +kernel
theorem dX5_lineTold_8 : decode cX5_lineTold 8 = .ok (.istore 5, 2) := by decide +kernel
theorem dX5_lineTold_10 : decode cX5_lineTold 10 = .ok (.iload 5, 2) := by decide +kernel
theorem dX5_lineTold_12 : decode cX5_lineTold 12 = .ok (.iconst 4, 1) := by decide +kernel
theorem dX5_lineTold_13 : decode cX5_lineTold 13 = .ok (.if_icmp .ge 55, 3) := by decide +kernel
theorem dX5_lineTold_16 : decode cX5_lineTold 16 = .ok (.bipush (-19), 2) := by decide +kernel
theorem dX5_lineTold_18 : decode cX5_lineTold 18 = .ok (.istore 6, 2) := by decide +kernel
theorem dX5_lineTold_20 : decode cX5_lineTold 20 = .ok (.iload 6, 2) := by decide +kernel
theorem dX5_lineTold_22 : decode cX5_lineTold 22 = .ok (.bipush 40, 2) := by decide +kernel
theorem dX5_lineTold_24 : decode cX5_lineTold 24 = .ok (.if_icmp .ge 38, 3) := by decide +kernel
theorem dX5_lineTold_27 : decode cX5_lineTold 27 = .ok (.aload_n 0, 1) := by decide +kernel
theorem dX5_lineTold_28 : decode cX5_lineTold 28 = .ok (.iload 5, 2) := by decide +kernel
theorem dX5_lineTold_30 : decode cX5_lineTold 30 = .ok (.iload 6, 2) := by decide +kernel
theorem dX5_lineTold_32 : decode cX5_lineTold 32 = .ok (.invokevirtual 169, 3) := by decide +kernel
theorem dX5_lineTold_35 : decode cX5_lineTold 35 = .ok (.istore 7, 2) := by decide +kernel
theorem dX5_lineTold_37 : decode cX5_lineTold 37 = .ok (.iload 7, 2) := by decide +kernel
theorem dX5_lineTold_39 : decode cX5_lineTold 39 = .ok (.iload_n 2, 1) := by decide +kernel
theorem dX5_lineTold_40 : decode cX5_lineTold 40 = .ok (.if_icmp .gt 6, 3) := by decide +kernel
theorem dX5_lineTold_43 : decode cX5_lineTold 43 = .ok (.goto 13, 3) := by decide +kernel
theorem dX5_lineTold_46 : decode cX5_lineTold 46 = .ok (.iload 7, 2) := by decide +kernel
theorem dX5_lineTold_48 : decode cX5_lineTold 48 = .ok (.istore_n 2, 1) := by decide +kernel
theorem dX5_lineTold_49 : decode cX5_lineTold 49 = .ok (.iload 5, 2) := by decide +kernel
theorem dX5_lineTold_51 : decode cX5_lineTold 51 = .ok (.istore_n 3, 1) := by decide +kernel
theorem dX5_lineTold_52 : decode cX5_lineTold 52 = .ok (.iload 6, 2) := by decide +kernel
theorem dX5_lineTold_54 : decode cX5_lineTold 54 = .ok (.istore 4, 2) := by decide +kernel
theorem dX5_lineTold_56 : decode cX5_lineTold 56 = .ok (.iinc 6 1, 3) := by decide +kernel
theorem dX5_lineTold_59 : decode cX5_lineTold 59 = .ok (.goto (-39), 3) := by decide +kernel
theorem dX5_lineTold_62 : decode cX5_lineTold 62 = .ok (.iinc 5 1, 3) := by decide +kernel
theorem dX5_lineTold_65 : decode cX5_lineTold 65 = .ok (.goto (-55), 3) := by decide +kernel
theorem dX5_lineTold_68 : decode cX5_lineTold 68 = .ok (.iload_n 1, 1) := by decide +kernel
theorem dX5_lineTold_69 : decode cX5_lineTold 69 = .ok (.ifCond .ne 7, 3) := by decide +kernel
theorem dX5_lineTold_72 : decode cX5_lineTold 72 = .ok (.iload_n 2, 1) := by decide +kernel
theorem dX5_lineTold_73 : decode cX5_lineTold 73 = .ok (.goto 14, 3) := by decide +kernel
theorem dX5_lineTold_76 : decode cX5_lineTold 76 = .ok (.iload_n 1, 1) := by decide +kernel
theorem dX5_lineTold_77 : decode cX5_lineTold 77 = .ok (.iconst 1, 1) := by decide +kernel
theorem dX5_lineTold_78 : decode cX5_lineTold 78 = .ok (.if_icmp .ne 7, 3) := by decide +kernel
theorem dX5_lineTold_81 : decode cX5_lineTold 81 = .ok (.iload_n 3, 1) := by decide +kernel
theorem dX5_lineTold_82 : decode cX5_lineTold 82 = .ok (.goto 5, 3) := by decide +kernel
theorem dX5_lineTold_85 : decode cX5_lineTold 85 = .ok (.iload 4, 2) := by decide +kernel
theorem dX5_lineTold_87 : decode cX5_lineTold 87 = .ok (.ireturn, 1) := by decide +kernel
theorem dX5_line_0 : decode cX5_line 0 = .ok (.aload_n 0, 1) := by decide +kernel
theorem dX5_line_1 : decode cX5_line 1 = .ok (.iconst 0, 1) := by decide +kernel
theorem dX5_line_2 : decode cX5_line 2 = .ok (.putfield 53, 3) := by decide +kernel
theorem dX5_line_5 : decode cX5_line 5 = .ok (.iload_n 1, 1) := by decide +kernel
theorem dX5_line_6 : decode cX5_line 6 = .ok (.iconst 0, 1) := by decide +kernel
theorem dX5_line_7 : decode cX5_line 7 = .ok (.iconst 2, 1) := by decide +kernel
theorem dX5_line_8 : decode cX5_line 8 = .ok (.invokestatic 56, 3) := by decide +kernel
theorem dX5_line_11 : decode cX5_line 11 = .ok (.ifCond .eq 11, 3) := by decide +kernel
theorem dX5_line_14 : decode cX5_line 14 = .ok (.aload_n 0, 1) := by decide +kernel
theorem dX5_line_15 : decode cX5_line 15 = .ok (.iload_n 1, 1) := by decide +kernel
theorem dX5_line_16 : decode cX5_line 16 = .ok (.invokevirtual 172, 3) := by decide +kernel
theorem dX5_line_19 : decode cX5_line 19 = .ok (.goto 8, 3) := by decide +kernel
theorem dX5_line_22 : decode cX5_line 22 = .ok (.aload_n 0, 1) := by decide +kernel
theorem dX5_line_23 : decode cX5_line 23 = .ok (.iconst 1, 1) := by decide +kernel
theorem dX5_line_24 : decode cX5_line 24 = .ok (.invokevirtual 89, 3) := by decide +kernel
theorem dX5_line_27 : decode cX5_line 27 = .ok (.ireturn, 1) := by decide +kernel
theorem dX5_would_0 : decode cX5_would 0 = .ok (.aload_n 0, 1) := by decide +kernel
theorem dX5_would_1 : decode cX5_would 1 = .ok (.iconst 0, 1) := by decide +kernel
theorem dX5_would_2 : decode cX5_would 2 = .ok (.putfield 53, 3) := by decide +kernel
theorem dX5_would_5 : decode cX5_would 5 = .ok (.aload_n 0, 1) := by decide +kernel
theorem dX5_would_6 : decode cX5_would 6 = .ok (.iload_n 1, 1) := by decide +kernel
theorem dX5_would_7 : decode cX5_would 7 = .ok (.invokevirtual 118, 3) := by decide +kernel
theorem dX5_would_10 : decode cX5_would 10 = .ok (.ifCond .eq 11, 3) := by decide +kernel
theorem dX5_would_13 : decode cX5_would 13 = .ok (.aload_n 0, 1) := by decide +kernel
theorem dX5_would_14 : decode cX5_would 14 = .ok (.iload_n 2, 1) := by decide +kernel
theorem dX5_would_15 : decode cX5_would 15 = .ok (.invokevirtual 102, 3) := by decide +kernel
theorem dX5_would_18 : decode cX5_would 18 = .ok (.ifCond .ne 9, 3) := by decide +kernel
theorem dX5_would_21 : decode cX5_would 21 = .ok (.aload_n 0, 1) := by decide +kernel
theorem dX5_would_22 : decode cX5_would 22 = .ok (.iconst 1, 1) := by decide +kernel
theorem dX5_would_23 : decode cX5_would 23 = .ok (.invokevirtual 89, 3) := by decide +kernel
theorem dX5_would_26 : decode cX5_would 26 = .ok (.ireturn, 1) := by decide +kernel
theorem dX5_would_27 : decode cX5_would 27 = .ok (.aload_n 0, 1) := by decide +kernel
theorem dX5_would_28 : decode cX5_would 28 = .ok (.iload_n 1, 1) := by decide +kernel
theorem dX5_would_29 : decode cX5_would 29 = .ok (.invokevirtual 132, 3) := by decide +kernel
theorem dX5_would_32 : decode cX5_would 32 = .ok (.ifCond .eq 7, 3) := by decide +kernel
theorem dX5_would_35 : decode cX5_would 35 = .ok (.iconst 0, 1) := by decide +kernel
theorem dX5_would_36 : decode cX5_would 36 = .ok (.goto 10, 3) := by decide +kernel
theorem dX5_would_39 : decode cX5_would 39 = .ok (.aload_n 0, 1) := by decide +kernel
theorem dX5_would_40 : decode cX5_would 40 = .ok (.iload_n 1, 1) := by decide +kernel
theorem dX5_would_41 : decode cX5_would 41 = .ok (.iload_n 2, 1) := by decide +kernel
theorem dX5_would_42 : decode cX5_would 42 = .ok (.iload_n 3, 1) := by decide +kernel
theorem dX5_would_43 : decode cX5_would 43 = .ok (.invokevirtual 125, 3) := by decide +kernel
theorem dX5_would_46 : decode cX5_would 46 = .ok (.ireturn, 1) := by decide +kernel
theorem dX5_bestOf_0 : decode cX5_bestOf 0 = .ok (.iconst 0, 1) := by decide +kernel
theorem dX5_bestOf_1 : decode cX5_bestOf 1 = .ok (.istore_n 3, 1) := by decide +kernel
theorem dX5_bestOf_2 : decode cX5_bestOf 2 = .ok (.iconst 1, 1) := by decide +kernel
theorem dX5_bestOf_3 : decode cX5_bestOf 3 = .ok (.istore 4, 2) := by decide +kernel
theorem dX5_bestOf_5 : decode cX5_bestOf 5 = .ok (.iload 4, 2) := by decide +kernel
theorem dX5_bestOf_7 : decode cX5_bestOf 7 = .ok (.sipush 400, 3) := by decide +kernel
theorem dX5_bestOf_10 : decode cX5_bestOf 10 = .ok (.if_icmp .ge 28, 3) := by decide +kernel
theorem dX5_bestOf_13 : decode cX5_bestOf 13 = .ok (.aload_n 0, 1) := by decide +kernel
theorem dX5_bestOf_14 : decode cX5_bestOf 14 = .ok (.iload_n 1, 1) := by decide +kernel
theorem dX5_bestOf_15 : decode cX5_bestOf 15 = .ok (.iload 4, 2) := by decide +kernel
theorem dX5_bestOf_17 : decode cX5_bestOf 17 = .ok (.invokevirtual 99, 3) := by decide +kernel
theorem dX5_bestOf_20 : decode cX5_bestOf 20 = .ok (.aload_n 0, 1) := by decide +kernel
theorem dX5_bestOf_21 : decode cX5_bestOf 21 = .ok (.iload_n 1, 1) := by decide +kernel
theorem dX5_bestOf_22 : decode cX5_bestOf 22 = .ok (.iload_n 3, 1) := by decide +kernel
theorem dX5_bestOf_23 : decode cX5_bestOf 23 = .ok (.invokevirtual 99, 3) := by decide +kernel
theorem dX5_bestOf_26 : decode cX5_bestOf 26 = .ok (.if_icmp .le 6, 3) := by decide +kernel
theorem dX5_bestOf_29 : decode cX5_bestOf 29 = .ok (.iload 4, 2) := by decide +kernel
theorem dX5_bestOf_31 : decode cX5_bestOf 31 = .ok (.istore_n 3, 1) := by decide +kernel
theorem dX5_bestOf_32 : decode cX5_bestOf 32 = .ok (.iinc 4 1, 3) := by decide +kernel
theorem dX5_bestOf_35 : decode cX5_bestOf 35 = .ok (.goto (-30), 3) := by decide +kernel
theorem dX5_bestOf_38 : decode cX5_bestOf 38 = .ok (.iload_n 2, 1) := by decide +kernel
theorem dX5_bestOf_39 : decode cX5_bestOf 39 = .ok (.ifCond .ne 10, 3) := by decide +kernel
theorem dX5_bestOf_42 : decode cX5_bestOf 42 = .ok (.iload_n 3, 1) := by decide +kernel
theorem dX5_bestOf_43 : decode cX5_bestOf 43 = .ok (.bipush 20, 2) := by decide +kernel
theorem dX5_bestOf_45 : decode cX5_bestOf 45 = .ok (.irem, 1) := by decide +kernel
theorem dX5_bestOf_46 : decode cX5_bestOf 46 = .ok (.goto 21, 3) := by decide +kernel
theorem dX5_bestOf_49 : decode cX5_bestOf 49 = .ok (.iload_n 2, 1) := by decide +kernel
theorem dX5_bestOf_50 : decode cX5_bestOf 50 = .ok (.iconst 1, 1) := by decide +kernel
theorem dX5_bestOf_51 : decode cX5_bestOf 51 = .ok (.if_icmp .ne 10, 3) := by decide +kernel
theorem dX5_bestOf_54 : decode cX5_bestOf 54 = .ok (.iload_n 3, 1) := by decide +kernel
theorem dX5_bestOf_55 : decode cX5_bestOf 55 = .ok (.bipush 20, 2) := by decide +kernel
theorem dX5_bestOf_57 : decode cX5_bestOf 57 = .ok (.idiv, 1) := by decide +kernel
theorem dX5_bestOf_58 : decode cX5_bestOf 58 = .ok (.goto 9, 3) := by decide +kernel
theorem dX5_bestOf_61 : decode cX5_bestOf 61 = .ok (.aload_n 0, 1) := by decide +kernel
theorem dX5_bestOf_62 : decode cX5_bestOf 62 = .ok (.iload_n 1, 1) := by decide +kernel
theorem dX5_bestOf_63 : decode cX5_bestOf 63 = .ok (.iload_n 3, 1) := by decide +kernel
theorem dX5_bestOf_64 : decode cX5_bestOf 64 = .ok (.invokevirtual 99, 3) := by decide +kernel
theorem dX5_bestOf_67 : decode cX5_bestOf 67 = .ok (.ireturn, 1) := by decide +kernel
theorem dX5_best_0 : decode cX5_best 0 = .ok (.aload_n 0, 1) := by decide +kernel
theorem dX5_best_1 : decode cX5_best 1 = .ok (.iconst 0, 1) := by decide +kernel
theorem dX5_best_2 : decode cX5_best 2 = .ok (.putfield 53, 3) := by decide +kernel
theorem dX5_best_5 : decode cX5_best 5 = .ok (.aload_n 0, 1) := by decide +kernel
theorem dX5_best_6 : decode cX5_best 6 = .ok (.iload_n 1, 1) := by decide +kernel
theorem dX5_best_7 : decode cX5_best 7 = .ok (.invokevirtual 102, 3) := by decide +kernel
theorem dX5_best_10 : decode cX5_best 10 = .ok (.ifCond .eq 21, 3) := by decide +kernel
theorem dX5_best_13 : decode cX5_best 13 = .ok (.iload_n 2, 1) := by decide +kernel
theorem dX5_best_14 : decode cX5_best 14 = .ok (.iconst 0, 1) := by decide +kernel
theorem dX5_best_15 : decode cX5_best 15 = .ok (.iconst 2, 1) := by decide +kernel
theorem dX5_best_16 : decode cX5_best 16 = .ok (.invokestatic 56, 3) := by decide +kernel
theorem dX5_best_19 : decode cX5_best 19 = .ok (.ifCond .eq 12, 3) := by decide +kernel
theorem dX5_best_22 : decode cX5_best 22 = .ok (.aload_n 0, 1) := by decide +kernel
theorem dX5_best_23 : decode cX5_best 23 = .ok (.iload_n 1, 1) := by decide +kernel
theorem dX5_best_24 : decode cX5_best 24 = .ok (.iload_n 2, 1) := by decide +kernel
theorem dX5_best_25 : decode cX5_best 25 = .ok (.invokevirtual 175, 3) := by decide +kernel
theorem dX5_best_28 : decode cX5_best 28 = .ok (.goto 8, 3) := by decide +kernel
theorem dX5_best_31 : decode cX5_best 31 = .ok (.aload_n 0, 1) := by decide +kernel
theorem dX5_best_32 : decode cX5_best 32 = .ok (.iconst 1, 1) := by decide +kernel
theorem dX5_best_33 : decode cX5_best 33 = .ok (.invokevirtual 89, 3) := by decide +kernel
theorem dX5_best_36 : decode cX5_best 36 = .ok (.ireturn, 1) := by decide +kernel
theorem dX5_advise_0 : decode cX5_advise 0 = .ok (.aload_n 0, 1) := by decide +kernel
theorem dX5_advise_1 : decode cX5_advise 1 = .ok (.iconst 0, 1) := by decide +kernel
theorem dX5_advise_2 : decode cX5_advise 2 = .ok (.putfield 53, 3) := by decide +kernel
theorem dX5_advise_5 : decode cX5_advise 5 = .ok (.iconst (-1), 1) := by decide +kernel
theorem dX5_advise_6 : decode cX5_advise 6 = .ok (.istore_n 1, 1) := by decide +kernel
theorem dX5_advise_7 : decode cX5_advise 7 = .ok (.iconst 0, 1) := by decide +kernel
theorem dX5_advise_8 : decode cX5_advise 8 = .ok (.istore_n 2, 1) := by decide +kernel
theorem dX5_advise_9 : decode cX5_advise 9 = .ok (.iload_n 2, 1) := by decide +kernel
theorem dX5_advise_10 : decode cX5_advise 10 = .ok (.aload_n 0, 1) := by decide +kernel
theorem dX5_advise_11 : decode cX5_advise 11 = .ok (.getfield 60, 3) := by decide +kernel
theorem dX5_advise_14 : decode cX5_advise 14 = .ok (.if_icmp .ge 84, 3) := by decide +kernel
theorem dX5_advise_17 : decode cX5_advise 17 = .ok (.aload_n 0, 1) := by decide +kernel
theorem dX5_advise_18 : decode cX5_advise 18 = .ok (.iload_n 2, 1) := by decide +kernel
theorem dX5_advise_19 : decode cX5_advise 19 = .ok (.iconst 0, 1) := by decide +kernel
theorem dX5_advise_20 : decode cX5_advise 20 = .ok (.invokevirtual 154, 3) := by decide +kernel
theorem dX5_advise_23 : decode cX5_advise 23 = .ok (.ifCond .ne 6, 3) := by decide +kernel
theorem dX5_advise_26 : decode cX5_advise 26 = .ok (.goto 66, 3) := by decide +kernel
theorem dX5_advise_29 : decode cX5_advise 29 = .ok (.iload_n 1, 1) := by decide +kernel
theorem dX5_advise_30 : decode cX5_advise 30 = .ok (.iconst (-1), 1) := by decide +kernel
theorem dX5_advise_31 : decode cX5_advise 31 = .ok (.if_icmp .ne 8, 3) := by decide +kernel
theorem dX5_advise_34 : decode cX5_advise 34 = .ok (.iload_n 2, 1) := by decide +kernel
theorem dX5_advise_35 : decode cX5_advise 35 = .ok (.istore_n 1, 1) := by decide +kernel
theorem dX5_advise_36 : decode cX5_advise 36 = .ok (.goto 56, 3) := by decide +kernel
theorem dX5_advise_39 : decode cX5_advise 39 = .ok (.aload_n 0, 1) := by decide +kernel
theorem dX5_advise_40 : decode cX5_advise 40 = .ok (.iload_n 2, 1) := by decide +kernel
theorem dX5_advise_41 : decode cX5_advise 41 = .ok (.iconst 1, 1) := by decide +kernel
theorem dX5_advise_42 : decode cX5_advise 42 = .ok (.invokevirtual 154, 3) := by decide +kernel
theorem dX5_advise_45 : decode cX5_advise 45 = .ok (.aload_n 0, 1) := by decide +kernel
theorem dX5_advise_46 : decode cX5_advise 46 = .ok (.iload_n 1, 1) := by decide +kernel
theorem dX5_advise_47 : decode cX5_advise 47 = .ok (.iconst 0, 1) := by decide +kernel
theorem dX5_advise_48 : decode cX5_advise 48 = .ok (.invokevirtual 154, 3) := by decide +kernel
theorem dX5_advise_51 : decode cX5_advise 51 = .ok (.imul, 1) := by decide +kernel
theorem dX5_advise_52 : decode cX5_advise 52 = .ok (.aload_n 0, 1) := by decide +kernel
theorem dX5_advise_53 : decode cX5_advise 53 = .ok (.iload_n 1, 1) := by decide +kernel
theorem dX5_advise_54 : decode cX5_advise 54 = .ok (.iconst 1, 1) := by decide +kernel
theorem dX5_advise_55 : decode cX5_advise 55 = .ok (.invokevirtual 154, 3) := by decide +kernel
theorem dX5_advise_58 : decode cX5_advise 58 = .ok (.aload_n 0, 1) := by decide +kernel
theorem dX5_advise_59 : decode cX5_advise 59 = .ok (.iload_n 2, 1) := by decide +kernel
theorem dX5_advise_60 : decode cX5_advise 60 = .ok (.iconst 0, 1) := by decide +kernel
theorem dX5_advise_61 : decode cX5_advise 61 = .ok (.invokevirtual 154, 3) := by decide +kernel
theorem dX5_advise_64 : decode cX5_advise 64 = .ok (.imul, 1) := by decide +kernel
theorem dX5_advise_65 : decode cX5_advise 65 = .ok (.isub, 1) := by decide +kernel
theorem dX5_advise_66 : decode cX5_advise 66 = .ok (.istore_n 3, 1) := by decide +kernel
theorem dX5_advise_67 : decode cX5_advise 67 = .ok (.iload_n 3, 1) := by decide +kernel
theorem dX5_advise_68 : decode cX5_advise 68 = .ok (.ifCond .gt 22, 3) := by decide +kernel
theorem dX5_advise_71 : decode cX5_advise 71 = .ok (.iload_n 3, 1) := by decide +kernel
theorem dX5_advise_72 : decode cX5_advise 72 = .ok (.ifCond .ne 20, 3) := by decide +kernel
theorem dX5_advise_75 : decode cX5_advise 75 = .ok (.aload_n 0, 1) := by decide +kernel
theorem dX5_advise_76 : decode cX5_advise 76 = .ok (.iload_n 2, 1) := by decide +kernel
theorem dX5_advise_77 : decode cX5_advise 77 = .ok (.iconst 0, 1) := by decide +kernel
theorem dX5_advise_78 : decode cX5_advise 78 = .ok (.invokevirtual 154, 3) := by decide +kernel
theorem dX5_advise_81 : decode cX5_advise 81 = .ok (.aload_n 0, 1) := by decide +kernel
theorem dX5_advise_82 : decode cX5_advise 82 = .ok (.iload_n 1, 1) := by decide +kernel
theorem dX5_advise_83 : decode cX5_advise 83 = .ok (.iconst 0, 1) := by decide +kernel
theorem dX5_advise_84 : decode cX5_advise 84 = .ok (.invokevirtual 154, 3) := by decide +kernel
theorem dX5_advise_87 : decode cX5_advise 87 = .ok (.if_icmp .le 5, 3) := by decide +kernel
theorem dX5_advise_90 : decode cX5_advise 90 = .ok (.iload_n 2, 1) := by decide +kernel
theorem dX5_advise_91 : decode cX5_advise 91 = .ok (.istore_n 1, 1) := by decide +kernel
theorem dX5_advise_92 : decode cX5_advise 92 = .ok (.iinc 2 1, 3) := by decide +kernel
theorem dX5_advise_95 : decode cX5_advise 95 = .ok (.goto (-86), 3) := by decide +kernel
theorem dX5_advise_98 : decode cX5_advise 98 = .ok (.iload_n 1, 1) := by decide +kernel
theorem dX5_advise_99 : decode cX5_advise 99 = .ok (.ireturn, 1) := by decide +kernel
theorem dX5_mean_0 : decode cX5_mean 0 = .ok (.aload_n 0, 1) := by decide +kernel
theorem dX5_mean_1 : decode cX5_mean 1 = .ok (.iconst 0, 1) := by decide +kernel
theorem dX5_mean_2 : decode cX5_mean 2 = .ok (.putfield 53, 3) := by decide +kernel
theorem dX5_mean_5 : decode cX5_mean 5 = .ok (.iconst 0, 1) := by decide +kernel
theorem dX5_mean_6 : decode cX5_mean 6 = .ok (.istore_n 1, 1) := by decide +kernel
theorem dX5_mean_7 : decode cX5_mean 7 = .ok (.iconst 0, 1) := by decide +kernel
theorem dX5_mean_8 : decode cX5_mean 8 = .ok (.istore_n 2, 1) := by decide +kernel
theorem dX5_mean_9 : decode cX5_mean 9 = .ok (.iload_n 2, 1) := by decide +kernel
theorem dX5_mean_10 : decode cX5_mean 10 = .ok (.sipush 400, 3) := by decide +kernel
theorem dX5_mean_13 : decode cX5_mean 13 = .ok (.if_icmp .ge 30, 3) := by decide +kernel
theorem dX5_mean_16 : decode cX5_mean 16 = .ok (.iload_n 1, 1) := by decide +kernel
theorem dX5_mean_17 : decode cX5_mean 17 = .ok (.aload_n 0, 1) := by decide +kernel
theorem dX5_mean_18 : decode cX5_mean 18 = .ok (.getfield 38, 3) := by decide +kernel
theorem dX5_mean_21 : decode cX5_mean 21 = .ok (.iload_n 2, 1) := by decide +kernel
theorem dX5_mean_22 : decode cX5_mean 22 = .ok (.iaload, 1) := by decide +kernel
theorem dX5_mean_23 : decode cX5_mean 23 = .ok (.ifCond .le 11, 3) := by decide +kernel
theorem dX5_mean_26 : decode cX5_mean 26 = .ok (.aload_n 0, 1) := by decide +kernel
theorem dX5_mean_27 : decode cX5_mean 27 = .ok (.iload_n 2, 1) := by decide +kernel
theorem dX5_mean_28 : decode cX5_mean 28 = .ok (.invokevirtual 142, 3) := by decide +kernel
theorem dX5_mean_31 : decode cX5_mean 31 = .ok (.goto 4, 3) := by decide +kernel
theorem dX5_mean_34 : decode cX5_mean 34 = .ok (.iconst 0, 1) := by decide +kernel
theorem dX5_mean_35 : decode cX5_mean 35 = .ok (.iadd, 1) := by decide +kernel
theorem dX5_mean_36 : decode cX5_mean 36 = .ok (.istore_n 1, 1) := by decide +kernel
theorem dX5_mean_37 : decode cX5_mean 37 = .ok (.iinc 2 1, 3) := by decide +kernel
theorem dX5_mean_40 : decode cX5_mean 40 = .ok (.goto (-31), 3) := by decide +kernel
theorem dX5_mean_43 : decode cX5_mean 43 = .ok (.aload_n 0, 1) := by decide +kernel
theorem dX5_mean_44 : decode cX5_mean 44 = .ok (.getfield 96, 3) := by decide +kernel
theorem dX5_mean_47 : decode cX5_mean 47 = .ok (.ifCond .ne 7, 3) := by decide +kernel
theorem dX5_mean_50 : decode cX5_mean 50 = .ok (.dconst 0, 1) := by decide +kernel
theorem dX5_mean_51 : decode cX5_mean 51 = .ok (.goto 11, 3) := by decide +kernel
theorem dX5_mean_54 : decode cX5_mean 54 = .ok (.iload_n 1, 1) := by decide +kernel
theorem dX5_mean_55 : decode cX5_mean 55 = .ok (.i2d, 1) := by decide +kernel
theorem dX5_mean_56 : decode cX5_mean 56 = .ok (.aload_n 0, 1) := by decide +kernel
theorem dX5_mean_57 : decode cX5_mean 57 = .ok (.getfield 96, 3) := by decide +kernel
theorem dX5_mean_60 : decode cX5_mean 60 = .ok (.i2d, 1) := by decide +kernel
theorem dX5_mean_61 : decode cX5_mean 61 = .ok (.ddiv, 1) := by decide +kernel
theorem dX5_mean_62 : decode cX5_mean 62 = .ok (.dreturn, 1) := by decide +kernel
theorem dX5_digest_0 : decode cX5_digest 0 = .ok (.aload_n 0, 1) := by decide +kernel
theorem dX5_digest_1 : decode cX5_digest 1 = .ok (.iconst 0, 1) := by decide +kernel
theorem dX5_digest_2 : decode cX5_digest 2 = .ok (.putfield 53, 3) := by decide +kernel
theorem dX5_digest_5 : decode cX5_digest 5 = .ok (.ldc2_w 178, 3) := by decide +kernel
theorem dX5_digest_8 : decode cX5_digest 8 = .ok (.lstore_n 1, 1) := by decide +kernel
theorem dX5_digest_9 : decode cX5_digest 9 = .ok (.iconst 0, 1) := by decide +kernel
theorem dX5_digest_10 : decode cX5_digest 10 = .ok (.istore_n 3, 1) := by decide +kernel
theorem dX5_digest_11 : decode cX5_digest 11 = .ok (.iload_n 3, 1) := by decide +kernel
theorem dX5_digest_12 : decode cX5_digest 12 = .ok (.bipush 8, 2) := by decide +kernel
theorem dX5_digest_14 : decode cX5_digest 14 = .ok (.if_icmp .gt 22, 3) := by decide +kernel
theorem dX5_digest_17 : decode cX5_digest 17 = .ok (.lload_n 1, 1) := by decide +kernel
theorem dX5_digest_18 : decode cX5_digest 18 = .ok (.ldc2_w 180, 3) := by decide +kernel
theorem dX5_digest_21 : decode cX5_digest 21 = .ok (.lmul, 1) := by decide +kernel
theorem dX5_digest_22 : decode cX5_digest 22 = .ok (.aload_n 0, 1) := by decide +kernel
theorem dX5_digest_23 : decode cX5_digest 23 = .ok (.iload_n 3, 1) := by decide +kernel
theorem dX5_digest_24 : decode cX5_digest 24 = .ok (.invokevirtual 166, 3) := by decide +kernel
theorem dX5_digest_27 : decode cX5_digest 27 = .ok (.i2l, 1) := by decide +kernel
theorem dX5_digest_28 : decode cX5_digest 28 = .ok (.ladd, 1) := by decide +kernel
theorem dX5_digest_29 : decode cX5_digest 29 = .ok (.lstore_n 1, 1) := by decide +kernel
theorem dX5_digest_30 : decode cX5_digest 30 = .ok (.iinc 3 1, 3) := by decide +kernel
theorem dX5_digest_33 : decode cX5_digest 33 = .ok (.goto (-22), 3) := by decide +kernel
theorem dX5_digest_36 : decode cX5_digest 36 = .ok (.iconst 0, 1) := by decide +kernel
theorem dX5_digest_37 : decode cX5_digest 37 = .ok (.istore_n 3, 1) := by decide +kernel
theorem dX5_digest_38 : decode cX5_digest 38 = .ok (.iload_n 3, 1) := by decide +kernel
theorem dX5_digest_39 : decode cX5_digest 39 = .ok (.aload_n 0, 1) := by decide +kernel
theorem dX5_digest_40 : decode cX5_digest 40 = .ok (.getfield 60, 3) := by decide +kernel
theorem dX5_digest_43 : decode cX5_digest 43 = .ok (.if_icmp .ge 40, 3) := by decide +kernel
theorem dX5_digest_46 : decode cX5_digest 46 = .ok (.iconst 0, 1) := by decide +kernel
theorem dX5_digest_47 : decode cX5_digest 47 = .ok (.istore 4, 2) := by decide +kernel
theorem dX5_digest_49 : decode cX5_digest 49 = .ok (.iload 4, 2) := by decide +kernel
theorem dX5_digest_51 : decode cX5_digest 51 = .ok (.bipush 7, 2) := by decide +kernel
theorem dX5_digest_53 : decode cX5_digest 53 = .ok (.if_icmp .gt 24, 3) := by decide +kernel
theorem dX5_digest_56 : decode cX5_digest 56 = .ok (.lload_n 1, 1) := by decide +kernel
theorem dX5_digest_57 : decode cX5_digest 57 = .ok (.ldc2_w 180, 3) := by decide +kernel
theorem dX5_digest_60 : decode cX5_digest 60 = .ok (.lmul, 1) := by decide +kernel
theorem dX5_digest_61 : decode cX5_digest 61 = .ok (.aload_n 0, 1) := by decide +kernel
theorem dX5_digest_62 : decode cX5_digest 62 = .ok (.iload_n 3, 1) := by decide +kernel
theorem dX5_digest_63 : decode cX5_digest 63 = .ok (.iload 4, 2) := by decide +kernel
theorem dX5_digest_65 : decode cX5_digest 65 = .ok (.invokevirtual 160, 3) := by decide +kernel
theorem dX5_digest_68 : decode cX5_digest 68 = .ok (.i2l, 1) := by decide +kernel
theorem dX5_digest_69 : decode cX5_digest 69 = .ok (.ladd, 1) := by decide +kernel
theorem dX5_digest_70 : decode cX5_digest 70 = .ok (.lstore_n 1, 1) := by decide +kernel
theorem dX5_digest_71 : decode cX5_digest 71 = .ok (.iinc 4 1, 3) := by decide +kernel
theorem dX5_digest_74 : decode cX5_digest 74 = .ok (.goto (-25), 3) := by decide +kernel
theorem dX5_digest_77 : decode cX5_digest 77 = .ok (.iinc 3 1, 3) := by decide +kernel
theorem dX5_digest_80 : decode cX5_digest 80 = .ok (.goto (-42), 3) := by decide +kernel
theorem dX5_digest_83 : decode cX5_digest 83 = .ok (.iconst 0, 1) := by decide +kernel
theorem dX5_digest_84 : decode cX5_digest 84 = .ok (.istore_n 3, 1) := by decide +kernel
theorem dX5_digest_85 : decode cX5_digest 85 = .ok (.iload_n 3, 1) := by decide +kernel
theorem dX5_digest_86 : decode cX5_digest 86 = .ok (.aload_n 0, 1) := by decide +kernel
theorem dX5_digest_87 : decode cX5_digest 87 = .ok (.getfield 63, 3) := by decide +kernel
theorem dX5_digest_90 : decode cX5_digest 90 = .ok (.if_icmp .ge 40, 3) := by decide +kernel
theorem dX5_digest_93 : decode cX5_digest 93 = .ok (.iconst 0, 1) := by decide +kernel
theorem dX5_digest_94 : decode cX5_digest 94 = .ok (.istore 4, 2) := by decide +kernel
theorem dX5_digest_96 : decode cX5_digest 96 = .ok (.iload 4, 2) := by decide +kernel
theorem dX5_digest_98 : decode cX5_digest 98 = .ok (.bipush 6, 2) := by decide +kernel
theorem dX5_digest_100 : decode cX5_digest 100 = .ok (.if_icmp .gt 24, 3) := by decide +kernel
theorem dX5_digest_103 : decode cX5_digest 103 = .ok (.lload_n 1, 1) := by decide +kernel
theorem dX5_digest_104 : decode cX5_digest 104 = .ok (.ldc2_w 180, 3) := by decide +kernel
theorem dX5_digest_107 : decode cX5_digest 107 = .ok (.lmul, 1) := by decide +kernel
theorem dX5_digest_108 : decode cX5_digest 108 = .ok (.aload_n 0, 1) := by decide +kernel
theorem dX5_digest_109 : decode cX5_digest 109 = .ok (.iload_n 3, 1) := by decide +kernel
theorem dX5_digest_110 : decode cX5_digest 110 = .ok (.iload 4, 2) := by decide +kernel
theorem dX5_digest_112 : decode cX5_digest 112 = .ok (.invokevirtual 163, 3) := by decide +kernel
theorem dX5_digest_115 : decode cX5_digest 115 = .ok (.i2l, 1) := by decide +kernel
theorem dX5_digest_116 : decode cX5_digest 116 = .ok (.ladd, 1) := by decide +kernel
theorem dX5_digest_117 : decode cX5_digest 117 = .ok (.lstore_n 1, 1) := by decide +kernel
theorem dX5_digest_118 : decode cX5_digest 118 = .ok (.iinc 4 1, 3) := by decide +kernel
theorem dX5_digest_121 : decode cX5_digest 121 = .ok (.goto (-25), 3) := by decide +kernel
theorem dX5_digest_124 : decode cX5_digest 124 = .ok (.iinc 3 1, 3) := by decide +kernel
theorem dX5_digest_127 : decode cX5_digest 127 = .ok (.goto (-42), 3) := by decide +kernel
theorem dX5_digest_130 : decode cX5_digest 130 = .ok (.iconst 0, 1) := by decide +kernel
theorem dX5_digest_131 : decode cX5_digest 131 = .ok (.istore_n 3, 1) := by decide +kernel
theorem dX5_digest_132 : decode cX5_digest 132 = .ok (.iload_n 3, 1) := by decide +kernel
theorem dX5_digest_133 : decode cX5_digest 133 = .ok (.sipush 400, 3) := by decide +kernel
theorem dX5_digest_136 : decode cX5_digest 136 = .ok (.if_icmp .ge 39, 3) := by decide +kernel
theorem dX5_digest_139 : decode cX5_digest 139 = .ok (.iconst 0, 1) := by decide +kernel
theorem dX5_digest_140 : decode cX5_digest 140 = .ok (.istore 4, 2) := by decide +kernel
theorem dX5_digest_142 : decode cX5_digest 142 = .ok (.iload 4, 2) := by decide +kernel
theorem dX5_digest_144 : decode cX5_digest 144 = .ok (.iconst 3, 1) := by decide +kernel
theorem dX5_digest_145 : decode cX5_digest 145 = .ok (.if_icmp .gt 24, 3) := by decide +kernel
theorem dX5_digest_148 : decode cX5_digest 148 = .ok (.lload_n 1, 1) := by decide +kernel
theorem dX5_digest_149 : decode cX5_digest 149 = .ok (.ldc2_w 180, 3) := by decide +kernel
theorem dX5_digest_152 : decode cX5_digest 152 = .ok (.lmul, 1) := by decide +kernel
theorem dX5_digest_153 : decode cX5_digest 153 = .ok (.aload_n 0, 1) := by decide +kernel
theorem dX5_digest_154 : decode cX5_digest 154 = .ok (.iload_n 3, 1) := by decide +kernel
theorem dX5_digest_155 : decode cX5_digest 155 = .ok (.iload 4, 2) := by decide +kernel
theorem dX5_digest_157 : decode cX5_digest 157 = .ok (.invokevirtual 151, 3) := by decide +kernel
theorem dX5_digest_160 : decode cX5_digest 160 = .ok (.i2l, 1) := by decide +kernel
theorem dX5_digest_161 : decode cX5_digest 161 = .ok (.ladd, 1) := by decide +kernel
theorem dX5_digest_162 : decode cX5_digest 162 = .ok (.lstore_n 1, 1) := by decide +kernel
theorem dX5_digest_163 : decode cX5_digest 163 = .ok (.iinc 4 1, 3) := by decide +kernel
theorem dX5_digest_166 : decode cX5_digest 166 = .ok (.goto (-24), 3) := by decide +kernel
theorem dX5_digest_169 : decode cX5_digest 169 = .ok (.iinc 3 1, 3) := by decide +kernel
theorem dX5_digest_172 : decode cX5_digest 172 = .ok (.goto (-40), 3) := by decide +kernel
theorem dX5_digest_175 : decode cX5_digest 175 = .ok (.lload_n 1, 1) := by decide +kernel
theorem dX5_digest_176 : decode cX5_digest 176 = .ok (.lreturn, 1) := by decide +kernel
