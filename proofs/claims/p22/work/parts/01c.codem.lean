theorem dX5_init_0 : decode cX5_init 0 = .ok (.aload_n 0, 1) := by decide +kernel
theorem dX5_init_1 : decode cX5_init 1 = .ok (.invokespecial 1, 3) := by decide +kernel
theorem dX5_init_4 : decode cX5_init 4 = .ok (.aload_n 0, 1) := by decide +kernel
theorem dX5_init_5 : decode cX5_init 5 = .ok (.iconst 3, 1) := by decide +kernel
theorem dX5_init_6 : decode cX5_init 6 = .ok (.putfield 7, 3) := by decide +kernel
theorem dX5_init_9 : decode cX5_init 9 = .ok (.aload_n 0, 1) := by decide +kernel
theorem dX5_init_10 : decode cX5_init 10 = .ok (.iconst 0, 1) := by decide +kernel
theorem dX5_init_11 : decode cX5_init 11 = .ok (.anewarray 13, 3) := by decide +kernel
theorem dX5_init_14 : decode cX5_init 14 = .ok (.putfield 15, 3) := by decide +kernel
theorem dX5_init_17 : decode cX5_init 17 = .ok (.aload_n 0, 1) := by decide +kernel
theorem dX5_init_18 : decode cX5_init 18 = .ok (.iconst 0, 1) := by decide +kernel
theorem dX5_init_19 : decode cX5_init 19 = .ok (.anewarray 13, 3) := by decide +kernel
theorem dX5_init_22 : decode cX5_init 22 = .ok (.putfield 19, 3) := by decide +kernel
theorem dX5_init_25 : decode cX5_init 25 = .ok (.aload_n 0, 1) := by decide +kernel
theorem dX5_init_26 : decode cX5_init 26 = .ok (.iconst 0, 1) := by decide +kernel
theorem dX5_init_27 : decode cX5_init 27 = .ok (.anewarray 13, 3) := by decide +kernel
theorem dX5_init_30 : decode cX5_init 30 = .ok (.putfield 22, 3) := by decide +kernel
theorem dX5_init_33 : decode cX5_init 33 = .ok (.aload_n 0, 1) := by decide +kernel
theorem dX5_init_34 : decode cX5_init 34 = .ok (.iconst 0, 1) := by decide +kernel
theorem dX5_init_35 : decode cX5_init 35 = .ok (.anewarray 13, 3) := by decide +kernel
theorem dX5_init_38 : decode cX5_init 38 = .ok (.putfield 25, 3) := by decide +kernel
theorem dX5_init_41 : decode cX5_init 41 = .ok (.return_, 1) := by decide +kernel
theorem dX5_more_0 : decode cX5_more 0 = .ok (.aload_n 0, 1) := by decide +kernel
theorem dX5_more_1 : decode cX5_more 1 = .ok (.arraylength, 1) := by decide +kernel
theorem dX5_more_2 : decode cX5_more 2 = .ok (.iconst 1, 1) := by decide +kernel
theorem dX5_more_3 : decode cX5_more 3 = .ok (.iadd, 1) := by decide +kernel
theorem dX5_more_4 : decode cX5_more 4 = .ok (.anewarray 13, 3) := by decide +kernel
theorem dX5_more_7 : decode cX5_more 7 = .ok (.astore_n 2, 1) := by decide +kernel
theorem dX5_more_8 : decode cX5_more 8 = .ok (.iconst 0, 1) := by decide +kernel
theorem dX5_more_9 : decode cX5_more 9 = .ok (.istore_n 3, 1) := by decide +kernel
theorem dX5_more_10 : decode cX5_more 10 = .ok (.iload_n 3, 1) := by decide +kernel
theorem dX5_more_11 : decode cX5_more 11 = .ok (.aload_n 0, 1) := by decide +kernel
theorem dX5_more_12 : decode cX5_more 12 = .ok (.arraylength, 1) := by decide +kernel
theorem dX5_more_13 : decode cX5_more 13 = .ok (.if_icmp .ge 15, 3) := by decide +kernel
theorem dX5_more_16 : decode cX5_more 16 = .ok (.aload_n 2, 1) := by decide +kernel
theorem dX5_more_17 : decode cX5_more 17 = .ok (.iload_n 3, 1) := by decide +kernel
theorem dX5_more_18 : decode cX5_more 18 = .ok (.aload_n 0, 1) := by decide +kernel
theorem dX5_more_19 : decode cX5_more 19 = .ok (.iload_n 3, 1) := by decide +kernel
theorem dX5_more_20 : decode cX5_more 20 = .ok (.aaload, 1) := by decide +kernel
theorem dX5_more_21 : decode cX5_more 21 = .ok (.aastore, 1) := by decide +kernel
theorem dX5_more_22 : decode cX5_more 22 = .ok (.iinc 3 1, 3) := by decide +kernel
theorem dX5_more_25 : decode cX5_more 25 = .ok (.goto (-15), 3) := by decide +kernel
theorem dX5_more_28 : decode cX5_more 28 = .ok (.aload_n 2, 1) := by decide +kernel
theorem dX5_more_29 : decode cX5_more 29 = .ok (.aload_n 0, 1) := by decide +kernel
theorem dX5_more_30 : decode cX5_more 30 = .ok (.arraylength, 1) := by decide +kernel
theorem dX5_more_31 : decode cX5_more 31 = .ok (.aload_n 1, 1) := by decide +kernel
theorem dX5_more_32 : decode cX5_more 32 = .ok (.aastore, 1) := by decide +kernel
theorem dX5_more_33 : decode cX5_more 33 = .ok (.aload_n 2, 1) := by decide +kernel
theorem dX5_more_34 : decode cX5_more 34 = .ok (.areturn, 1) := by decide +kernel
theorem dX5_without_0 : decode cX5_without 0 = .ok (.aload_n 0, 1) := by decide +kernel
theorem dX5_without_1 : decode cX5_without 1 = .ok (.arraylength, 1) := by decide +kernel
theorem dX5_without_2 : decode cX5_without 2 = .ok (.iconst 1, 1) := by decide +kernel
theorem dX5_without_3 : decode cX5_without 3 = .ok (.isub, 1) := by decide +kernel
theorem dX5_without_4 : decode cX5_without 4 = .ok (.anewarray 13, 3) := by decide +kernel
theorem dX5_without_7 : decode cX5_without 7 = .ok (.astore_n 2, 1) := by decide +kernel
theorem dX5_without_8 : decode cX5_without 8 = .ok (.iconst 0, 1) := by decide +kernel
theorem dX5_without_9 : decode cX5_without 9 = .ok (.istore_n 3, 1) := by decide +kernel
theorem dX5_without_10 : decode cX5_without 10 = .ok (.iload_n 3, 1) := by decide +kernel
theorem dX5_without_11 : decode cX5_without 11 = .ok (.aload_n 2, 1) := by decide +kernel
theorem dX5_without_12 : decode cX5_without 12 = .ok (.arraylength, 1) := by decide +kernel
theorem dX5_without_13 : decode cX5_without 13 = .ok (.if_icmp .ge 26, 3) := by decide +kernel
theorem dX5_without_16 : decode cX5_without 16 = .ok (.aload_n 2, 1) := by decide +kernel
theorem dX5_without_17 : decode cX5_without 17 = .ok (.iload_n 3, 1) := by decide +kernel
theorem dX5_without_18 : decode cX5_without 18 = .ok (.aload_n 0, 1) := by decide +kernel
theorem dX5_without_19 : decode cX5_without 19 = .ok (.iload_n 3, 1) := by decide +kernel
theorem dX5_without_20 : decode cX5_without 20 = .ok (.iload_n 1, 1) := by decide +kernel
theorem dX5_without_21 : decode cX5_without 21 = .ok (.if_icmp .ge 7, 3) := by decide +kernel
theorem dX5_without_24 : decode cX5_without 24 = .ok (.iload_n 3, 1) := by decide +kernel
theorem dX5_without_25 : decode cX5_without 25 = .ok (.goto 6, 3) := by decide +kernel
theorem dX5_without_28 : decode cX5_without 28 = .ok (.iload_n 3, 1) := by decide +kernel
theorem dX5_without_29 : decode cX5_without 29 = .ok (.iconst 1, 1) := by decide +kernel
theorem dX5_without_30 : decode cX5_without 30 = .ok (.iadd, 1) := by decide +kernel
theorem dX5_without_31 : decode cX5_without 31 = .ok (.aaload, 1) := by decide +kernel
theorem dX5_without_32 : decode cX5_without 32 = .ok (.aastore, 1) := by decide +kernel
theorem dX5_without_33 : decode cX5_without 33 = .ok (.iinc 3 1, 3) := by decide +kernel
theorem dX5_without_36 : decode cX5_without 36 = .ok (.goto (-26), 3) := by decide +kernel
theorem dX5_without_39 : decode cX5_without 39 = .ok (.aload_n 2, 1) := by decide +kernel
theorem dX5_without_40 : decode cX5_without 40 = .ok (.areturn, 1) := by decide +kernel
theorem dX5_far_0 : decode cX5_far 0 = .ok (.iload_n 0, 1) := by decide +kernel
theorem dX5_far_1 : decode cX5_far 1 = .ok (.iload_n 2, 1) := by decide +kernel
theorem dX5_far_2 : decode cX5_far 2 = .ok (.isub, 1) := by decide +kernel
theorem dX5_far_3 : decode cX5_far 3 = .ok (.invokestatic 28, 3) := by decide +kernel
theorem dX5_far_6 : decode cX5_far 6 = .ok (.iload_n 1, 1) := by decide +kernel
theorem dX5_far_7 : decode cX5_far 7 = .ok (.iload_n 3, 1) := by decide +kernel
theorem dX5_far_8 : decode cX5_far 8 = .ok (.isub, 1) := by decide +kernel
theorem dX5_far_9 : decode cX5_far 9 = .ok (.invokestatic 28, 3) := by decide +kernel
theorem dX5_far_12 : decode cX5_far 12 = .ok (.iadd, 1) := by decide +kernel
theorem dX5_far_13 : decode cX5_far 13 = .ok (.ireturn, 1) := by decide +kernel
theorem dX5_far__0 : decode cX5_far_ 0 = .ok (.bipush 99, 2) := by decide +kernel
theorem dX5_far__2 : decode cX5_far_ 2 = .ok (.istore_n 3, 1) := by decide +kernel
theorem dX5_far__3 : decode cX5_far_ 3 = .ok (.iconst 0, 1) := by decide +kernel
theorem dX5_far__4 : decode cX5_far_ 4 = .ok (.istore 4, 2) := by decide +kernel
theorem dX5_far__6 : decode cX5_far_ 6 = .ok (.iload 4, 2) := by decide +kernel
theorem dX5_far__8 : decode cX5_far_ 8 = .ok (.aload_n 0, 1) := by decide +kernel
theorem dX5_far__9 : decode cX5_far_ 9 = .ok (.iconst 4, 1) := by decide +kernel
theorem dX5_far__10 : decode cX5_far_ 10 = .ok (.iaload, 1) := by decide +kernel
theorem dX5_far__11 : decode cX5_far_ 11 = .ok (.if_icmp .gt 39, 3) := by decide +kernel
theorem dX5_far__14 : decode cX5_far_ 14 = .ok (.iload_n 3, 1) := by decide +kernel
theorem dX5_far__15 : decode cX5_far_ 15 = .ok (.aload_n 0, 1) := by decide +kernel
theorem dX5_far__16 : decode cX5_far_ 16 = .ok (.iconst 0, 1) := by decide +kernel
theorem dX5_far__17 : decode cX5_far_ 17 = .ok (.iaload, 1) := by decide +kernel
theorem dX5_far__18 : decode cX5_far_ 18 = .ok (.iload 4, 2) := by decide +kernel
theorem dX5_far__20 : decode cX5_far_ 20 = .ok (.aload_n 0, 1) := by decide +kernel
theorem dX5_far__21 : decode cX5_far_ 21 = .ok (.iconst 2, 1) := by decide +kernel
theorem dX5_far__22 : decode cX5_far_ 22 = .ok (.iaload, 1) := by decide +kernel
theorem dX5_far__23 : decode cX5_far_ 23 = .ok (.imul, 1) := by decide +kernel
theorem dX5_far__24 : decode cX5_far_ 24 = .ok (.iadd, 1) := by decide +kernel
theorem dX5_far__25 : decode cX5_far_ 25 = .ok (.aload_n 0, 1) := by decide +kernel
theorem dX5_far__26 : decode cX5_far_ 26 = .ok (.iconst 1, 1) := by decide +kernel
theorem dX5_far__27 : decode cX5_far_ 27 = .ok (.iaload, 1) := by decide +kernel
theorem dX5_far__28 : decode cX5_far_ 28 = .ok (.iload 4, 2) := by decide +kernel
theorem dX5_far__30 : decode cX5_far_ 30 = .ok (.aload_n 0, 1) := by decide +kernel
theorem dX5_far__31 : decode cX5_far_ 31 = .ok (.iconst 3, 1) := by decide +kernel
theorem dX5_far__32 : decode cX5_far_ 32 = .ok (.iaload, 1) := by decide +kernel
theorem dX5_far__33 : decode cX5_far_ 33 = .ok (.imul, 1) := by decide +kernel
theorem dX5_far__34 : decode cX5_far_ 34 = .ok (.iadd, 1) := by decide +kernel
theorem dX5_far__35 : decode cX5_far_ 35 = .ok (.iload_n 1, 1) := by decide +kernel
theorem dX5_far__36 : decode cX5_far_ 36 = .ok (.iload_n 2, 1) := by decide +kernel
theorem dX5_far__37 : decode cX5_far_ 37 = .ok (.invokestatic 34, 3) := by decide +kernel
theorem dX5_far__40 : decode cX5_far_ 40 = .ok (.invokestatic 38, 3) := by decide +kernel
theorem dX5_far__43 : decode cX5_far_ 43 = .ok (.istore_n 3, 1) := by decide +kernel
theorem dX5_far__44 : decode cX5_far_ 44 = .ok (.iinc 4 1, 3) := by decide +kernel
theorem dX5_far__47 : decode cX5_far_ 47 = .ok (.goto (-41), 3) := by decide +kernel
theorem dX5_far__50 : decode cX5_far_ 50 = .ok (.iload_n 3, 1) := by decide +kernel
theorem dX5_far__51 : decode cX5_far_ 51 = .ok (.ireturn, 1) := by decide +kernel
theorem dX5_vein_0 : decode cX5_vein 0 = .ok (.iload_n 1, 1) := by decide +kernel
theorem dX5_vein_1 : decode cX5_vein 1 = .ok (.iload_n 3, 1) := by decide +kernel
theorem dX5_vein_2 : decode cX5_vein 2 = .ok (.isub, 1) := by decide +kernel
theorem dX5_vein_3 : decode cX5_vein 3 = .ok (.invokestatic 28, 3) := by decide +kernel
theorem dX5_vein_6 : decode cX5_vein 6 = .ok (.iload_n 2, 1) := by decide +kernel
theorem dX5_vein_7 : decode cX5_vein 7 = .ok (.iload 4, 2) := by decide +kernel
theorem dX5_vein_9 : decode cX5_vein 9 = .ok (.isub, 1) := by decide +kernel
theorem dX5_vein_10 : decode cX5_vein 10 = .ok (.invokestatic 28, 3) := by decide +kernel
theorem dX5_vein_13 : decode cX5_vein 13 = .ok (.invokestatic 42, 3) := by decide +kernel
theorem dX5_vein_16 : decode cX5_vein 16 = .ok (.istore 7, 2) := by decide +kernel
theorem dX5_vein_18 : decode cX5_vein 18 = .ok (.aload_n 0, 1) := by decide +kernel
theorem dX5_vein_19 : decode cX5_vein 19 = .ok (.aload_n 0, 1) := by decide +kernel
theorem dX5_vein_20 : decode cX5_vein 20 = .ok (.getfield 15, 3) := by decide +kernel
theorem dX5_vein_23 : decode cX5_vein 23 = .ok (.bipush 7, 2) := by decide +kernel
theorem dX5_vein_25 : decode cX5_vein 25 = .ok (.newarray .int, 2) := by decide +kernel
theorem dX5_vein_27 : decode cX5_vein 27 = .ok (.dup, 1) := by decide +kernel
theorem dX5_vein_28 : decode cX5_vein 28 = .ok (.iconst 0, 1) := by decide +kernel
theorem dX5_vein_29 : decode cX5_vein 29 = .ok (.iload_n 1, 1) := by decide +kernel
theorem dX5_vein_30 : decode cX5_vein 30 = .ok (.iastore, 1) := by decide +kernel
theorem dX5_vein_31 : decode cX5_vein 31 = .ok (.dup, 1) := by decide +kernel
theorem dX5_vein_32 : decode cX5_vein 32 = .ok (.iconst 1, 1) := by decide +kernel
theorem dX5_vein_33 : decode cX5_vein 33 = .ok (.iload_n 2, 1) := by decide +kernel
theorem dX5_vein_34 : decode cX5_vein 34 = .ok (.iastore, 1) := by decide +kernel
theorem dX5_vein_35 : decode cX5_vein 35 = .ok (.dup, 1) := by decide +kernel
theorem dX5_vein_36 : decode cX5_vein 36 = .ok (.iconst 2, 1) := by decide +kernel
theorem dX5_vein_37 : decode cX5_vein 37 = .ok (.iload_n 3, 1) := by decide +kernel
theorem dX5_vein_38 : decode cX5_vein 38 = .ok (.iload_n 1, 1) := by decide +kernel
theorem dX5_vein_39 : decode cX5_vein 39 = .ok (.isub, 1) := by decide +kernel
theorem dX5_vein_40 : decode cX5_vein 40 = .ok (.invokestatic 45, 3) := by decide +kernel
theorem dX5_vein_43 : decode cX5_vein 43 = .ok (.iastore, 1) := by decide +kernel
theorem dX5_vein_44 : decode cX5_vein 44 = .ok (.dup, 1) := by decide +kernel
theorem dX5_vein_45 : decode cX5_vein 45 = .ok (.iconst 3, 1) := by decide +kernel
theorem dX5_vein_46 : decode cX5_vein 46 = .ok (.iload 4, 2) := by decide +kernel
theorem dX5_vein_48 : decode cX5_vein 48 = .ok (.iload_n 2, 1) := by decide +kernel
theorem dX5_vein_49 : decode cX5_vein 49 = .ok (.isub, 1) := by decide +kernel
theorem dX5_vein_50 : decode cX5_vein 50 = .ok (.invokestatic 45, 3) := by decide +kernel
theorem dX5_vein_53 : decode cX5_vein 53 = .ok (.iastore, 1) := by decide +kernel
theorem dX5_vein_54 : decode cX5_vein 54 = .ok (.dup, 1) := by decide +kernel
theorem dX5_vein_55 : decode cX5_vein 55 = .ok (.iconst 4, 1) := by decide +kernel
theorem dX5_vein_56 : decode cX5_vein 56 = .ok (.iload 7, 2) := by decide +kernel
theorem dX5_vein_58 : decode cX5_vein 58 = .ok (.iastore, 1) := by decide +kernel
theorem dX5_vein_59 : decode cX5_vein 59 = .ok (.dup, 1) := by decide +kernel
theorem dX5_vein_60 : decode cX5_vein 60 = .ok (.iconst 5, 1) := by decide +kernel
theorem dX5_vein_61 : decode cX5_vein 61 = .ok (.iload 5, 2) := by decide +kernel
theorem dX5_vein_63 : decode cX5_vein 63 = .ok (.iastore, 1) := by decide +kernel
theorem dX5_vein_64 : decode cX5_vein 64 = .ok (.dup, 1) := by decide +kernel
theorem dX5_vein_65 : decode cX5_vein 65 = .ok (.bipush 6, 2) := by decide +kernel
theorem dX5_vein_67 : decode cX5_vein 67 = .ok (.iload 6, 2) := by decide +kernel
theorem dX5_vein_69 : decode cX5_vein 69 = .ok (.iastore, 1) := by decide +kernel
theorem dX5_vein_70 : decode cX5_vein 70 = .ok (.invokestatic 50, 3) := by decide +kernel
theorem dX5_vein_73 : decode cX5_vein 73 = .ok (.putfield 15, 3) := by decide +kernel
theorem dX5_vein_76 : decode cX5_vein 76 = .ok (.return_, 1) := by decide +kernel
theorem dX5_water_0 : decode cX5_water 0 = .ok (.iconst 0, 1) := by decide +kernel
theorem dX5_water_1 : decode cX5_water 1 = .ok (.istore_n 3, 1) := by decide +kernel
theorem dX5_water_2 : decode cX5_water 2 = .ok (.aload_n 0, 1) := by decide +kernel
theorem dX5_water_3 : decode cX5_water 3 = .ok (.getfield 15, 3) := by decide +kernel
theorem dX5_water_6 : decode cX5_water 6 = .ok (.astore 4, 2) := by decide +kernel
theorem dX5_water_8 : decode cX5_water 8 = .ok (.aload 4, 2) := by decide +kernel
theorem dX5_water_10 : decode cX5_water 10 = .ok (.arraylength, 1) := by decide +kernel
theorem dX5_water_11 : decode cX5_water 11 = .ok (.istore 5, 2) := by decide +kernel
theorem dX5_water_13 : decode cX5_water 13 = .ok (.iconst 0, 1) := by decide +kernel
theorem dX5_water_14 : decode cX5_water 14 = .ok (.istore 6, 2) := by decide +kernel
theorem dX5_water_16 : decode cX5_water 16 = .ok (.iload 6, 2) := by decide +kernel
theorem dX5_water_18 : decode cX5_water 18 = .ok (.iload 5, 2) := by decide +kernel
theorem dX5_water_20 : decode cX5_water 20 = .ok (.if_icmp .ge 38, 3) := by decide +kernel
theorem dX5_water_23 : decode cX5_water 23 = .ok (.aload 4, 2) := by decide +kernel
theorem dX5_water_25 : decode cX5_water 25 = .ok (.iload 6, 2) := by decide +kernel
theorem dX5_water_27 : decode cX5_water 27 = .ok (.aaload, 1) := by decide +kernel
theorem dX5_water_28 : decode cX5_water 28 = .ok (.astore 7, 2) := by decide +kernel
theorem dX5_water_30 : decode cX5_water 30 = .ok (.iload_n 3, 1) := by decide +kernel
theorem dX5_water_31 : decode cX5_water 31 = .ok (.aload 7, 2) := by decide +kernel
theorem dX5_water_33 : decode cX5_water 33 = .ok (.iload_n 1, 1) := by decide +kernel
theorem dX5_water_34 : decode cX5_water 34 = .ok (.iload_n 2, 1) := by decide +kernel
theorem dX5_water_35 : decode cX5_water 35 = .ok (.invokestatic 54, 3) := by decide +kernel
theorem dX5_water_38 : decode cX5_water 38 = .ok (.ifCond .ne 11, 3) := by decide +kernel
theorem dX5_water_41 : decode cX5_water 41 = .ok (.aload 7, 2) := by decide +kernel
theorem dX5_water_43 : decode cX5_water 43 = .ok (.bipush 6, 2) := by decide +kernel
theorem dX5_water_45 : decode cX5_water 45 = .ok (.iaload, 1) := by decide +kernel
theorem dX5_water_46 : decode cX5_water 46 = .ok (.goto 4, 3) := by decide +kernel
theorem dX5_water_49 : decode cX5_water 49 = .ok (.iconst 0, 1) := by decide +kernel
theorem dX5_water_50 : decode cX5_water 50 = .ok (.iadd, 1) := by decide +kernel
theorem dX5_water_51 : decode cX5_water 51 = .ok (.istore_n 3, 1) := by decide +kernel
theorem dX5_water_52 : decode cX5_water 52 = .ok (.iinc 6 1, 3) := by decide +kernel
theorem dX5_water_55 : decode cX5_water 55 = .ok (.goto (-39), 3) := by decide +kernel
theorem dX5_water_58 : decode cX5_water 58 = .ok (.iload_n 3, 1) := by decide +kernel
theorem dX5_water_59 : decode cX5_water 59 = .ok (.ireturn, 1) := by decide +kernel
theorem dX5_depth_0 : decode cX5_depth 0 = .ok (.bipush 99, 2) := by decide +kernel
theorem dX5_depth_2 : decode cX5_depth 2 = .ok (.istore_n 3, 1) := by decide +kernel
theorem dX5_depth_3 : decode cX5_depth 3 = .ok (.aload_n 0, 1) := by decide +kernel
theorem dX5_depth_4 : decode cX5_depth 4 = .ok (.getfield 15, 3) := by decide +kernel
theorem dX5_depth_7 : decode cX5_depth 7 = .ok (.astore 4, 2) := by decide +kernel
theorem dX5_depth_9 : decode cX5_depth 9 = .ok (.aload 4, 2) := by decide +kernel
theorem dX5_depth_11 : decode cX5_depth 11 = .ok (.arraylength, 1) := by decide +kernel
theorem dX5_depth_12 : decode cX5_depth 12 = .ok (.istore 5, 2) := by decide +kernel
theorem dX5_depth_14 : decode cX5_depth 14 = .ok (.iconst 0, 1) := by decide +kernel
theorem dX5_depth_15 : decode cX5_depth 15 = .ok (.istore 6, 2) := by decide +kernel
theorem dX5_depth_17 : decode cX5_depth 17 = .ok (.iload 6, 2) := by decide +kernel
theorem dX5_depth_19 : decode cX5_depth 19 = .ok (.iload 5, 2) := by decide +kernel
theorem dX5_depth_21 : decode cX5_depth 21 = .ok (.if_icmp .ge 35, 3) := by decide +kernel
theorem dX5_depth_24 : decode cX5_depth 24 = .ok (.aload 4, 2) := by decide +kernel
theorem dX5_depth_26 : decode cX5_depth 26 = .ok (.iload 6, 2) := by decide +kernel
theorem dX5_depth_28 : decode cX5_depth 28 = .ok (.aaload, 1) := by decide +kernel
theorem dX5_depth_29 : decode cX5_depth 29 = .ok (.astore 7, 2) := by decide +kernel
theorem dX5_depth_31 : decode cX5_depth 31 = .ok (.aload 7, 2) := by decide +kernel
theorem dX5_depth_33 : decode cX5_depth 33 = .ok (.iload_n 1, 1) := by decide +kernel
theorem dX5_depth_34 : decode cX5_depth 34 = .ok (.iload_n 2, 1) := by decide +kernel
theorem dX5_depth_35 : decode cX5_depth 35 = .ok (.invokestatic 54, 3) := by decide +kernel
theorem dX5_depth_38 : decode cX5_depth 38 = .ok (.ifCond .ne 12, 3) := by decide +kernel
theorem dX5_depth_41 : decode cX5_depth 41 = .ok (.iload_n 3, 1) := by decide +kernel
theorem dX5_depth_42 : decode cX5_depth 42 = .ok (.aload 7, 2) := by decide +kernel
theorem dX5_depth_44 : decode cX5_depth 44 = .ok (.iconst 5, 1) := by decide +kernel
theorem dX5_depth_45 : decode cX5_depth 45 = .ok (.iaload, 1) := by decide +kernel
theorem dX5_depth_46 : decode cX5_depth 46 = .ok (.invokestatic 38, 3) := by decide +kernel
theorem dX5_depth_49 : decode cX5_depth 49 = .ok (.istore_n 3, 1) := by decide +kernel
theorem dX5_depth_50 : decode cX5_depth 50 = .ok (.iinc 6 1, 3) := by decide +kernel
theorem dX5_depth_53 : decode cX5_depth 53 = .ok (.goto (-36), 3) := by decide +kernel
theorem dX5_depth_56 : decode cX5_depth 56 = .ok (.iload_n 3, 1) := by decide +kernel
theorem dX5_depth_57 : decode cX5_depth 57 = .ok (.bipush 99, 2) := by decide +kernel
theorem dX5_depth_59 : decode cX5_depth 59 = .ok (.if_icmp .ne 7, 3) := by decide +kernel
theorem dX5_depth_62 : decode cX5_depth 62 = .ok (.iconst 0, 1) := by decide +kernel
theorem dX5_depth_63 : decode cX5_depth 63 = .ok (.goto 4, 3) := by decide +kernel
theorem dX5_depth_66 : decode cX5_depth 66 = .ok (.iload_n 3, 1) := by decide +kernel
theorem dX5_depth_67 : decode cX5_depth 67 = .ok (.ireturn, 1) := by decide +kernel
theorem dX5_rod_0 : decode cX5_rod 0 = .ok (.iconst 0, 1) := by decide +kernel
theorem dX5_rod_1 : decode cX5_rod 1 = .ok (.istore 4, 2) := by decide +kernel
theorem dX5_rod_3 : decode cX5_rod 3 = .ok (.aload_n 0, 1) := by decide +kernel
theorem dX5_rod_4 : decode cX5_rod 4 = .ok (.getfield 15, 3) := by decide +kernel
theorem dX5_rod_7 : decode cX5_rod 7 = .ok (.astore 5, 2) := by decide +kernel
theorem dX5_rod_9 : decode cX5_rod 9 = .ok (.aload 5, 2) := by decide +kernel
theorem dX5_rod_11 : decode cX5_rod 11 = .ok (.arraylength, 1) := by decide +kernel
theorem dX5_rod_12 : decode cX5_rod 12 = .ok (.istore 6, 2) := by decide +kernel
theorem dX5_rod_14 : decode cX5_rod 14 = .ok (.iconst 0, 1) := by decide +kernel
theorem dX5_rod_15 : decode cX5_rod 15 = .ok (.istore 7, 2) := by decide +kernel
theorem dX5_rod_17 : decode cX5_rod 17 = .ok (.iload 7, 2) := by decide +kernel
theorem dX5_rod_19 : decode cX5_rod 19 = .ok (.iload 6, 2) := by decide +kernel
theorem dX5_rod_21 : decode cX5_rod 21 = .ok (.if_icmp .ge 60, 3) := by decide +kernel
theorem dX5_rod_24 : decode cX5_rod 24 = .ok (.aload 5, 2) := by decide +kernel
theorem dX5_rod_26 : decode cX5_rod 26 = .ok (.iload 7, 2) := by decide +kernel
theorem dX5_rod_28 : decode cX5_rod 28 = .ok (.aaload, 1) := by decide +kernel
theorem dX5_rod_29 : decode cX5_rod 29 = .ok (.astore 8, 2) := by decide +kernel
theorem dX5_rod_31 : decode cX5_rod 31 = .ok (.aload 8, 2) := by decide +kernel
theorem dX5_rod_33 : decode cX5_rod 33 = .ok (.iload_n 2, 1) := by decide +kernel
theorem dX5_rod_34 : decode cX5_rod 34 = .ok (.iload_n 3, 1) := by decide +kernel
theorem dX5_rod_35 : decode cX5_rod 35 = .ok (.invokestatic 54, 3) := by decide +kernel
theorem dX5_rod_38 : decode cX5_rod 38 = .ok (.istore 9, 2) := by decide +kernel
theorem dX5_rod_40 : decode cX5_rod 40 = .ok (.iload 9, 2) := by decide +kernel
theorem dX5_rod_42 : decode cX5_rod 42 = .ok (.iconst 2, 1) := by decide +kernel
theorem dX5_rod_43 : decode cX5_rod 43 = .ok (.if_icmp .ge 32, 3) := by decide +kernel
theorem dX5_rod_46 : decode cX5_rod 46 = .ok (.iload 4, 2) := by decide +kernel
theorem dX5_rod_48 : decode cX5_rod 48 = .ok (.aload 8, 2) := by decide +kernel
theorem dX5_rod_50 : decode cX5_rod 50 = .ok (.bipush 6, 2) := by decide +kernel
theorem dX5_rod_52 : decode cX5_rod 52 = .ok (.iaload, 1) := by decide +kernel
theorem dX5_rod_53 : decode cX5_rod 53 = .ok (.aload_n 0, 1) := by decide +kernel
theorem dX5_rod_54 : decode cX5_rod 54 = .ok (.getfield 19, 3) := by decide +kernel
theorem dX5_rod_57 : decode cX5_rod 57 = .ok (.iload_n 1, 1) := by decide +kernel
theorem dX5_rod_58 : decode cX5_rod 58 = .ok (.aaload, 1) := by decide +kernel
theorem dX5_rod_59 : decode cX5_rod 59 = .ok (.iconst 0, 1) := by decide +kernel
theorem dX5_rod_60 : decode cX5_rod 60 = .ok (.iaload, 1) := by decide +kernel
theorem dX5_rod_61 : decode cX5_rod 61 = .ok (.imul, 1) := by decide +kernel
theorem dX5_rod_62 : decode cX5_rod 62 = .ok (.aload 8, 2) := by decide +kernel
theorem dX5_rod_64 : decode cX5_rod 64 = .ok (.iconst 5, 1) := by decide +kernel
theorem dX5_rod_65 : decode cX5_rod 65 = .ok (.iaload, 1) := by decide +kernel
theorem dX5_rod_66 : decode cX5_rod 66 = .ok (.idiv, 1) := by decide +kernel
theorem dX5_rod_67 : decode cX5_rod 67 = .ok (.iload 9, 2) := by decide +kernel
theorem dX5_rod_69 : decode cX5_rod 69 = .ok (.iconst 1, 1) := by decide +kernel
theorem dX5_rod_70 : decode cX5_rod 70 = .ok (.iadd, 1) := by decide +kernel
theorem dX5_rod_71 : decode cX5_rod 71 = .ok (.idiv, 1) := by decide +kernel
theorem dX5_rod_72 : decode cX5_rod 72 = .ok (.iadd, 1) := by decide +kernel
theorem dX5_rod_73 : decode cX5_rod 73 = .ok (.istore 4, 2) := by decide +kernel
theorem dX5_rod_75 : decode cX5_rod 75 = .ok (.iinc 7 1, 3) := by decide +kernel
theorem dX5_rod_78 : decode cX5_rod 78 = .ok (.goto (-61), 3) := by decide +kernel
theorem dX5_rod_81 : decode cX5_rod 81 = .ok (.iload 4, 2) := by decide +kernel
theorem dX5_rod_83 : decode cX5_rod 83 = .ok (.aload_n 0, 1) := by decide +kernel
theorem dX5_rod_84 : decode cX5_rod 84 = .ok (.getfield 19, 3) := by decide +kernel
theorem dX5_rod_87 : decode cX5_rod 87 = .ok (.iload_n 1, 1) := by decide +kernel
theorem dX5_rod_88 : decode cX5_rod 88 = .ok (.aaload, 1) := by decide +kernel
theorem dX5_rod_89 : decode cX5_rod 89 = .ok (.iconst 1, 1) := by decide +kernel
theorem dX5_rod_90 : decode cX5_rod 90 = .ok (.iaload, 1) := by decide +kernel
theorem dX5_rod_91 : decode cX5_rod 91 = .ok (.iadd, 1) := by decide +kernel
theorem dX5_rod_92 : decode cX5_rod 92 = .ok (.istore 4, 2) := by decide +kernel
theorem dX5_rod_94 : decode cX5_rod 94 = .ok (.iload 4, 2) := by decide +kernel
theorem dX5_rod_96 : decode cX5_rod 96 = .ok (.ifCond .ge 7, 3) := by decide +kernel
theorem dX5_rod_99 : decode cX5_rod 99 = .ok (.iconst 0, 1) := by decide +kernel
theorem dX5_rod_100 : decode cX5_rod 100 = .ok (.goto 5, 3) := by decide +kernel
theorem dX5_rod_103 : decode cX5_rod 103 = .ok (.iload 4, 2) := by decide +kernel
theorem dX5_rod_105 : decode cX5_rod 105 = .ok (.ireturn, 1) := by decide +kernel
theorem dX5_pegAt_0 : decode cX5_pegAt 0 = .ok (.iconst 0, 1) := by decide +kernel
theorem dX5_pegAt_1 : decode cX5_pegAt 1 = .ok (.istore_n 3, 1) := by decide +kernel
theorem dX5_pegAt_2 : decode cX5_pegAt 2 = .ok (.iload_n 3, 1) := by decide +kernel
theorem dX5_pegAt_3 : decode cX5_pegAt 3 = .ok (.aload_n 0, 1) := by decide +kernel
theorem dX5_pegAt_4 : decode cX5_pegAt 4 = .ok (.getfield 22, 3) := by decide +kernel
theorem dX5_pegAt_7 : decode cX5_pegAt 7 = .ok (.arraylength, 1) := by decide +kernel
theorem dX5_pegAt_8 : decode cX5_pegAt 8 = .ok (.if_icmp .ge 35, 3) := by decide +kernel
theorem dX5_pegAt_11 : decode cX5_pegAt 11 = .ok (.aload_n 0, 1) := by decide +kernel
theorem dX5_pegAt_12 : decode cX5_pegAt 12 = .ok (.getfield 22, 3) := by decide +kernel
theorem dX5_pegAt_15 : decode cX5_pegAt 15 = .ok (.iload_n 3, 1) := by decide +kernel
theorem dX5_pegAt_16 : decode cX5_pegAt 16 = .ok (.aaload, 1) := by decide +kernel
theorem dX5_pegAt_17 : decode cX5_pegAt 17 = .ok (.iconst 0, 1) := by decide +kernel
theorem dX5_pegAt_18 : decode cX5_pegAt 18 = .ok (.iaload, 1) := by decide +kernel
theorem dX5_pegAt_19 : decode cX5_pegAt 19 = .ok (.iload_n 1, 1) := by decide +kernel
theorem dX5_pegAt_20 : decode cX5_pegAt 20 = .ok (.if_icmp .ne 17, 3) := by decide +kernel
theorem dX5_pegAt_23 : decode cX5_pegAt 23 = .ok (.aload_n 0, 1) := by decide +kernel
theorem dX5_pegAt_24 : decode cX5_pegAt 24 = .ok (.getfield 22, 3) := by decide +kernel
theorem dX5_pegAt_27 : decode cX5_pegAt 27 = .ok (.iload_n 3, 1) := by decide +kernel
theorem dX5_pegAt_28 : decode cX5_pegAt 28 = .ok (.aaload, 1) := by decide +kernel
theorem dX5_pegAt_29 : decode cX5_pegAt 29 = .ok (.iconst 1, 1) := by decide +kernel
theorem dX5_pegAt_30 : decode cX5_pegAt 30 = .ok (.iaload, 1) := by decide +kernel
theorem dX5_pegAt_31 : decode cX5_pegAt 31 = .ok (.iload_n 2, 1) := by decide +kernel
theorem dX5_pegAt_32 : decode cX5_pegAt 32 = .ok (.if_icmp .ne 5, 3) := by decide +kernel
theorem dX5_pegAt_35 : decode cX5_pegAt 35 = .ok (.iload_n 3, 1) := by decide +kernel
theorem dX5_pegAt_36 : decode cX5_pegAt 36 = .ok (.ireturn, 1) := by decide +kernel
theorem dX5_pegAt_37 : decode cX5_pegAt 37 = .ok (.iinc 3 1, 3) := by decide +kernel
theorem dX5_pegAt_40 : decode cX5_pegAt 40 = .ok (.goto (-38), 3) := by decide +kernel
theorem dX5_pegAt_43 : decode cX5_pegAt 43 = .ok (.iconst (-1), 1) := by decide +kernel
theorem dX5_pegAt_44 : decode cX5_pegAt 44 = .ok (.ireturn, 1) := by decide +kernel
theorem dX5_pitAt_0 : decode cX5_pitAt 0 = .ok (.iconst 0, 1) := by decide +kernel
theorem dX5_pitAt_1 : decode cX5_pitAt 1 = .ok (.istore_n 3, 1) := by decide +kernel
theorem dX5_pitAt_2 : decode cX5_pitAt 2 = .ok (.iload_n 3, 1) := by decide +kernel
theorem dX5_pitAt_3 : decode cX5_pitAt 3 = .ok (.aload_n 0, 1) := by decide +kernel
theorem dX5_pitAt_4 : decode cX5_pitAt 4 = .ok (.getfield 25, 3) := by decide +kernel
theorem dX5_pitAt_7 : decode cX5_pitAt 7 = .ok (.arraylength, 1) := by decide +kernel
theorem dX5_pitAt_8 : decode cX5_pitAt 8 = .ok (.if_icmp .ge 35, 3) := by decide +kernel
theorem dX5_pitAt_11 : decode cX5_pitAt 11 = .ok (.aload_n 0, 1) := by decide +kernel
theorem dX5_pitAt_12 : decode cX5_pitAt 12 = .ok (.getfield 25, 3) := by decide +kernel
theorem dX5_pitAt_15 : decode cX5_pitAt 15 = .ok (.iload_n 3, 1) := by decide +kernel
theorem dX5_pitAt_16 : decode cX5_pitAt 16 = .ok (.aaload, 1) := by decide +kernel
theorem dX5_pitAt_17 : decode cX5_pitAt 17 = .ok (.iconst 0, 1) := by decide +kernel
theorem dX5_pitAt_18 : decode cX5_pitAt 18 = .ok (.iaload, 1) := by decide +kernel
theorem dX5_pitAt_19 : decode cX5_pitAt 19 = .ok (.iload_n 1, 1) := by decide +kernel
theorem dX5_pitAt_20 : decode cX5_pitAt 20 = .ok (.if_icmp .ne 17, 3) := by decide +kernel
theorem dX5_pitAt_23 : decode cX5_pitAt 23 = .ok (.aload_n 0, 1) := by decide +kernel
theorem dX5_pitAt_24 : decode cX5_pitAt 24 = .ok (.getfield 25, 3) := by decide +kernel
theorem dX5_pitAt_27 : decode cX5_pitAt 27 = .ok (.iload_n 3, 1) := by decide +kernel
theorem dX5_pitAt_28 : decode cX5_pitAt 28 = .ok (.aaload, 1) := by decide +kernel
theorem dX5_pitAt_29 : decode cX5_pitAt 29 = .ok (.iconst 1, 1) := by decide +kernel
theorem dX5_pitAt_30 : decode cX5_pitAt 30 = .ok (.iaload, 1) := by decide +kernel
theorem dX5_pitAt_31 : decode cX5_pitAt 31 = .ok (.iload_n 2, 1) := by decide +kernel
theorem dX5_pitAt_32 : decode cX5_pitAt 32 = .ok (.if_icmp .ne 5, 3) := by decide +kernel
theorem dX5_pitAt_35 : decode cX5_pitAt 35 = .ok (.iload_n 3, 1) := by decide +kernel
theorem dX5_pitAt_36 : decode cX5_pitAt 36 = .ok (.ireturn, 1) := by decide +kernel
theorem dX5_pitAt_37 : decode cX5_pitAt 37 = .ok (.iinc 3 1, 3) := by decide +kernel
theorem dX5_pitAt_40 : decode cX5_pitAt 40 = .ok (.goto (-38), 3) := by decide +kernel
theorem dX5_pitAt_43 : decode cX5_pitAt 43 = .ok (.iconst (-1), 1) := by decide +kernel
theorem dX5_pitAt_44 : decode cX5_pitAt 44 = .ok (.ireturn, 1) := by decide +kernel
theorem dX5_walk_0 : decode cX5_walk 0 = .ok (.aload_n 0, 1) := by decide +kernel
theorem dX5_walk_1 : decode cX5_walk 1 = .ok (.getfield 22, 3) := by decide +kernel
theorem dX5_walk_4 : decode cX5_walk 4 = .ok (.arraylength, 1) := by decide +kernel
theorem dX5_walk_5 : decode cX5_walk 5 = .ok (.istore 6, 2) := by decide +kernel
theorem dX5_walk_7 : decode cX5_walk 7 = .ok (.iload_n 2, 1) := by decide +kernel
theorem dX5_walk_8 : decode cX5_walk 8 = .ok (.istore 7, 2) := by decide +kernel
theorem dX5_walk_10 : decode cX5_walk 10 = .ok (.iload_n 3, 1) := by decide +kernel
theorem dX5_walk_11 : decode cX5_walk 11 = .ok (.istore 8, 2) := by decide +kernel
theorem dX5_walk_13 : decode cX5_walk 13 = .ok (.aload_n 0, 1) := by decide +kernel
theorem dX5_walk_14 : decode cX5_walk 14 = .ok (.getfield 22, 3) := by decide +kernel
theorem dX5_walk_17 : decode cX5_walk 17 = .ok (.arraylength, 1) := by decide +kernel
theorem dX5_walk_18 : decode cX5_walk 18 = .ok (.bipush 60, 2) := by decide +kernel
theorem dX5_walk_20 : decode cX5_walk 20 = .ok (.if_icmp .ge 58, 3) := by decide +kernel
theorem dX5_walk_23 : decode cX5_walk 23 = .ok (.aload_n 0, 1) := by decide +kernel
theorem dX5_walk_24 : decode cX5_walk 24 = .ok (.iload 7, 2) := by decide +kernel
theorem dX5_walk_26 : decode cX5_walk 26 = .ok (.iload 8, 2) := by decide +kernel
theorem dX5_walk_28 : decode cX5_walk 28 = .ok (.invokevirtual 57, 3) := by decide +kernel
theorem dX5_walk_31 : decode cX5_walk 31 = .ok (.ifCond .ge 47, 3) := by decide +kernel
theorem dX5_walk_34 : decode cX5_walk 34 = .ok (.aload_n 0, 1) := by decide +kernel
theorem dX5_walk_35 : decode cX5_walk 35 = .ok (.iload_n 1, 1) := by decide +kernel
theorem dX5_walk_36 : decode cX5_walk 36 = .ok (.iload 7, 2) := by decide +kernel
theorem dX5_walk_38 : decode cX5_walk 38 = .ok (.iload 8, 2) := by decide +kernel
theorem dX5_walk_40 : decode cX5_walk 40 = .ok (.invokevirtual 60, 3) := by decide +kernel
theorem dX5_walk_43 : decode cX5_walk 43 = .ok (.aload_n 0, 1) := by decide +kernel
theorem dX5_walk_44 : decode cX5_walk 44 = .ok (.getfield 7, 3) := by decide +kernel
theorem dX5_walk_47 : decode cX5_walk 47 = .ok (.if_icmp .lt 31, 3) := by decide +kernel
theorem dX5_walk_50 : decode cX5_walk 50 = .ok (.aload_n 0, 1) := by decide +kernel
theorem dX5_walk_51 : decode cX5_walk 51 = .ok (.aload_n 0, 1) := by decide +kernel
theorem dX5_walk_52 : decode cX5_walk 52 = .ok (.getfield 22, 3) := by decide +kernel
theorem dX5_walk_55 : decode cX5_walk 55 = .ok (.iconst 3, 1) := by decide +kernel
theorem dX5_walk_56 : decode cX5_walk 56 = .ok (.newarray .int, 2) := by decide +kernel
theorem dX5_walk_58 : decode cX5_walk 58 = .ok (.dup, 1) := by decide +kernel
theorem dX5_walk_59 : decode cX5_walk 59 = .ok (.iconst 0, 1) := by decide +kernel
theorem dX5_walk_60 : decode cX5_walk 60 = .ok (.iload 7, 2) := by decide +kernel
theorem dX5_walk_62 : decode cX5_walk 62 = .ok (.iastore, 1) := by decide +kernel
theorem dX5_walk_63 : decode cX5_walk 63 = .ok (.dup, 1) := by decide +kernel
theorem dX5_walk_64 : decode cX5_walk 64 = .ok (.iconst 1, 1) := by decide +kernel
theorem dX5_walk_65 : decode cX5_walk 65 = .ok (.iload 8, 2) := by decide +kernel
theorem dX5_walk_67 : decode cX5_walk 67 = .ok (.iastore, 1) := by decide +kernel
theorem dX5_walk_68 : decode cX5_walk 68 = .ok (.dup, 1) := by decide +kernel
theorem dX5_walk_69 : decode cX5_walk 69 = .ok (.iconst 2, 1) := by decide +kernel
theorem dX5_walk_70 : decode cX5_walk 70 = .ok (.iload_n 1, 1) := by decide +kernel
theorem dX5_walk_71 : decode cX5_walk 71 = .ok (.iastore, 1) := by decide +kernel
theorem dX5_walk_72 : decode cX5_walk 72 = .ok (.invokestatic 50, 3) := by decide +kernel
theorem dX5_walk_75 : decode cX5_walk 75 = .ok (.putfield 22, 3) := by decide +kernel
theorem dX5_walk_78 : decode cX5_walk 78 = .ok (.iload 7, 2) := by decide +kernel
theorem dX5_walk_80 : decode cX5_walk 80 = .ok (.iload 4, 2) := by decide +kernel
theorem dX5_walk_82 : decode cX5_walk 82 = .ok (.if_icmp .eq 23, 3) := by decide +kernel
theorem dX5_walk_85 : decode cX5_walk 85 = .ok (.iload 7, 2) := by decide +kernel
theorem dX5_walk_87 : decode cX5_walk 87 = .ok (.iload 7, 2) := by decide +kernel
theorem dX5_walk_89 : decode cX5_walk 89 = .ok (.iload 4, 2) := by decide +kernel
theorem dX5_walk_91 : decode cX5_walk 91 = .ok (.if_icmp .ge 7, 3) := by decide +kernel
theorem dX5_walk_94 : decode cX5_walk 94 = .ok (.iconst 1, 1) := by decide +kernel
theorem dX5_walk_95 : decode cX5_walk 95 = .ok (.goto 4, 3) := by decide +kernel
theorem dX5_walk_98 : decode cX5_walk 98 = .ok (.iconst (-1), 1) := by decide +kernel
theorem dX5_walk_99 : decode cX5_walk 99 = .ok (.iadd, 1) := by decide +kernel
theorem dX5_walk_100 : decode cX5_walk 100 = .ok (.istore 7, 2) := by decide +kernel
theorem dX5_walk_102 : decode cX5_walk 102 = .ok (.goto (-89), 3) := by decide +kernel
theorem dX5_walk_105 : decode cX5_walk 105 = .ok (.iload 8, 2) := by decide +kernel
theorem dX5_walk_107 : decode cX5_walk 107 = .ok (.iload 5, 2) := by decide +kernel
theorem dX5_walk_109 : decode cX5_walk 109 = .ok (.if_icmp .eq 23, 3) := by decide +kernel
theorem dX5_walk_112 : decode cX5_walk 112 = .ok (.iload 8, 2) := by decide +kernel
theorem dX5_walk_114 : decode cX5_walk 114 = .ok (.iload 8, 2) := by decide +kernel
theorem dX5_walk_116 : decode cX5_walk 116 = .ok (.iload 5, 2) := by decide +kernel
theorem dX5_walk_118 : decode cX5_walk 118 = .ok (.if_icmp .ge 7, 3) := by decide +kernel
theorem dX5_walk_121 : decode cX5_walk 121 = .ok (.iconst 1, 1) := by decide +kernel
theorem dX5_walk_122 : decode cX5_walk 122 = .ok (.goto 4, 3) := by decide +kernel
theorem dX5_walk_125 : decode cX5_walk 125 = .ok (.iconst (-1), 1) := by decide +kernel
theorem dX5_walk_126 : decode cX5_walk 126 = .ok (.iadd, 1) := by decide +kernel
theorem dX5_walk_127 : decode cX5_walk 127 = .ok (.istore 8, 2) := by decide +kernel
theorem dX5_walk_129 : decode cX5_walk 129 = .ok (.goto (-116), 3) := by decide +kernel
theorem dX5_walk_132 : decode cX5_walk 132 = .ok (.aload_n 0, 1) := by decide +kernel
theorem dX5_walk_133 : decode cX5_walk 133 = .ok (.getfield 22, 3) := by decide +kernel
theorem dX5_walk_136 : decode cX5_walk 136 = .ok (.arraylength, 1) := by decide +kernel
theorem dX5_walk_137 : decode cX5_walk 137 = .ok (.iload 6, 2) := by decide +kernel
theorem dX5_walk_139 : decode cX5_walk 139 = .ok (.isub, 1) := by decide +kernel
theorem dX5_walk_140 : decode cX5_walk 140 = .ok (.ireturn, 1) := by decide +kernel
theorem dX5_isOver_0 : decode cX5_isOver 0 = .ok (.aload_n 0, 1) := by decide +kernel
theorem dX5_isOver_1 : decode cX5_isOver 1 = .ok (.getfield 25, 3) := by decide +kernel
theorem dX5_isOver_4 : decode cX5_isOver 4 = .ok (.iload_n 1, 1) := by decide +kernel
theorem dX5_isOver_5 : decode cX5_isOver 5 = .ok (.aaload, 1) := by decide +kernel
theorem dX5_isOver_6 : decode cX5_isOver 6 = .ok (.iconst 3, 1) := by decide +kernel
theorem dX5_isOver_7 : decode cX5_isOver 7 = .ok (.iaload, 1) := by decide +kernel
theorem dX5_isOver_8 : decode cX5_isOver 8 = .ok (.bipush 20, 2) := by decide +kernel
theorem dX5_isOver_10 : decode cX5_isOver 10 = .ok (.if_icmp .eq 33, 3) := by decide +kernel
theorem dX5_isOver_13 : decode cX5_isOver 13 = .ok (.aload_n 0, 1) := by decide +kernel
theorem dX5_isOver_14 : decode cX5_isOver 14 = .ok (.getfield 25, 3) := by decide +kernel
theorem dX5_isOver_17 : decode cX5_isOver 17 = .ok (.iload_n 1, 1) := by decide +kernel
theorem dX5_isOver_18 : decode cX5_isOver 18 = .ok (.aaload, 1) := by decide +kernel
theorem dX5_isOver_19 : decode cX5_isOver 19 = .ok (.iconst 2, 1) := by decide +kernel
theorem dX5_isOver_20 : decode cX5_isOver 20 = .ok (.iaload, 1) := by decide +kernel
theorem dX5_isOver_21 : decode cX5_isOver 21 = .ok (.ifCond .le 26, 3) := by decide +kernel
theorem dX5_isOver_24 : decode cX5_isOver 24 = .ok (.aload_n 0, 1) := by decide +kernel
theorem dX5_isOver_25 : decode cX5_isOver 25 = .ok (.getfield 25, 3) := by decide +kernel
theorem dX5_isOver_28 : decode cX5_isOver 28 = .ok (.iload_n 1, 1) := by decide +kernel
theorem dX5_isOver_29 : decode cX5_isOver 29 = .ok (.aaload, 1) := by decide +kernel
theorem dX5_isOver_30 : decode cX5_isOver 30 = .ok (.iconst 3, 1) := by decide +kernel
theorem dX5_isOver_31 : decode cX5_isOver 31 = .ok (.iaload, 1) := by decide +kernel
theorem dX5_isOver_32 : decode cX5_isOver 32 = .ok (.aload_n 0, 1) := by decide +kernel
theorem dX5_isOver_33 : decode cX5_isOver 33 = .ok (.getfield 25, 3) := by decide +kernel
theorem dX5_isOver_36 : decode cX5_isOver 36 = .ok (.iload_n 1, 1) := by decide +kernel
theorem dX5_isOver_37 : decode cX5_isOver 37 = .ok (.aaload, 1) := by decide +kernel
theorem dX5_isOver_38 : decode cX5_isOver 38 = .ok (.iconst 2, 1) := by decide +kernel
theorem dX5_isOver_39 : decode cX5_isOver 39 = .ok (.iaload, 1) := by decide +kernel
theorem dX5_isOver_40 : decode cX5_isOver 40 = .ok (.if_icmp .ne 7, 3) := by decide +kernel
theorem dX5_isOver_43 : decode cX5_isOver 43 = .ok (.iconst 1, 1) := by decide +kernel
theorem dX5_isOver_44 : decode cX5_isOver 44 = .ok (.goto 4, 3) := by decide +kernel
theorem dX5_isOver_47 : decode cX5_isOver 47 = .ok (.iconst 0, 1) := by decide +kernel
theorem dX5_isOver_48 : decode cX5_isOver 48 = .ok (.ireturn, 1) := by decide +kernel
theorem dX5_bets_0 : decode cX5_bets 0 = .ok (.iconst 0, 1) := by decide +kernel
theorem dX5_bets_1 : decode cX5_bets 1 = .ok (.istore_n 2, 1) := by decide +kernel
theorem dX5_bets_2 : decode cX5_bets 2 = .ok (.iconst 4, 1) := by decide +kernel
theorem dX5_bets_3 : decode cX5_bets 3 = .ok (.istore_n 3, 1) := by decide +kernel
theorem dX5_bets_4 : decode cX5_bets 4 = .ok (.iload_n 3, 1) := by decide +kernel
theorem dX5_bets_5 : decode cX5_bets 5 = .ok (.bipush 9, 2) := by decide +kernel
theorem dX5_bets_7 : decode cX5_bets 7 = .ok (.if_icmp .ge 37, 3) := by decide +kernel
theorem dX5_bets_10 : decode cX5_bets 10 = .ok (.iload_n 2, 1) := by decide +kernel
theorem dX5_bets_11 : decode cX5_bets 11 = .ok (.aload_n 0, 1) := by decide +kernel
theorem dX5_bets_12 : decode cX5_bets 12 = .ok (.iload_n 3, 1) := by decide +kernel
theorem dX5_bets_13 : decode cX5_bets 13 = .ok (.iaload, 1) := by decide +kernel
theorem dX5_bets_14 : decode cX5_bets 14 = .ok (.ifCond .le 7, 3) := by decide +kernel
theorem dX5_bets_17 : decode cX5_bets 17 = .ok (.iconst 1, 1) := by decide +kernel
theorem dX5_bets_18 : decode cX5_bets 18 = .ok (.goto 4, 3) := by decide +kernel
theorem dX5_bets_21 : decode cX5_bets 21 = .ok (.iconst 0, 1) := by decide +kernel
theorem dX5_bets_22 : decode cX5_bets 22 = .ok (.iload_n 1, 1) := by decide +kernel
theorem dX5_bets_23 : decode cX5_bets 23 = .ok (.if_icmp .ne 12, 3) := by decide +kernel
theorem dX5_bets_26 : decode cX5_bets 26 = .ok (.aload_n 0, 1) := by decide +kernel
theorem dX5_bets_27 : decode cX5_bets 27 = .ok (.iload_n 3, 1) := by decide +kernel
theorem dX5_bets_28 : decode cX5_bets 28 = .ok (.iaload, 1) := by decide +kernel
theorem dX5_bets_29 : decode cX5_bets 29 = .ok (.invokestatic 28, 3) := by decide +kernel
theorem dX5_bets_32 : decode cX5_bets 32 = .ok (.goto 4, 3) := by decide +kernel
theorem dX5_bets_35 : decode cX5_bets 35 = .ok (.iconst 0, 1) := by decide +kernel
theorem dX5_bets_36 : decode cX5_bets 36 = .ok (.iadd, 1) := by decide +kernel
theorem dX5_bets_37 : decode cX5_bets 37 = .ok (.istore_n 2, 1) := by decide +kernel
theorem dX5_bets_38 : decode cX5_bets 38 = .ok (.iinc 3 1, 3) := by decide +kernel
theorem dX5_bets_41 : decode cX5_bets 41 = .ok (.goto (-37), 3) := by decide +kernel
theorem dX5_bets_44 : decode cX5_bets 44 = .ok (.iload_n 2, 1) := by decide +kernel
theorem dX5_bets_45 : decode cX5_bets 45 = .ok (.ireturn, 1) := by decide +kernel
theorem dX5_gets_0 : decode cX5_gets 0 = .ok (.aload_n 0, 1) := by decide +kernel
theorem dX5_gets_1 : decode cX5_gets 1 = .ok (.iconst 4, 1) := by decide +kernel
theorem dX5_gets_2 : decode cX5_gets 2 = .ok (.iload_n 1, 1) := by decide +kernel
theorem dX5_gets_3 : decode cX5_gets 3 = .ok (.iadd, 1) := by decide +kernel
theorem dX5_gets_4 : decode cX5_gets 4 = .ok (.iaload, 1) := by decide +kernel
theorem dX5_gets_5 : decode cX5_gets 5 = .ok (.istore_n 3, 1) := by decide +kernel
theorem dX5_gets_6 : decode cX5_gets 6 = .ok (.iload_n 3, 1) := by decide +kernel
theorem dX5_gets_7 : decode cX5_gets 7 = .ok (.ifCond .eq 16, 3) := by decide +kernel
theorem dX5_gets_10 : decode cX5_gets 10 = .ok (.iload_n 3, 1) := by decide +kernel
theorem dX5_gets_11 : decode cX5_gets 11 = .ok (.ifCond .le 7, 3) := by decide +kernel
theorem dX5_gets_14 : decode cX5_gets 14 = .ok (.iconst 1, 1) := by decide +kernel
theorem dX5_gets_15 : decode cX5_gets 15 = .ok (.goto 4, 3) := by decide +kernel
theorem dX5_gets_18 : decode cX5_gets 18 = .ok (.iconst 0, 1) := by decide +kernel
theorem dX5_gets_19 : decode cX5_gets 19 = .ok (.iload_n 2, 1) := by decide +kernel
theorem dX5_gets_20 : decode cX5_gets 20 = .ok (.if_icmp .eq 5, 3) := by decide +kernel
theorem dX5_gets_23 : decode cX5_gets 23 = .ok (.iconst 0, 1) := by decide +kernel
theorem dX5_gets_24 : decode cX5_gets 24 = .ok (.ireturn, 1) := by decide +kernel
theorem dX5_gets_25 : decode cX5_gets 25 = .ok (.iload_n 3, 1) := by decide +kernel
theorem dX5_gets_26 : decode cX5_gets 26 = .ok (.invokestatic 28, 3) := by decide +kernel
theorem dX5_gets_29 : decode cX5_gets 29 = .ok (.aload_n 0, 1) := by decide +kernel
theorem dX5_gets_30 : decode cX5_gets 30 = .ok (.iconst 1, 1) := by decide +kernel
theorem dX5_gets_31 : decode cX5_gets 31 = .ok (.invokestatic 64, 3) := by decide +kernel
theorem dX5_gets_34 : decode cX5_gets 34 = .ok (.aload_n 0, 1) := by decide +kernel
theorem dX5_gets_35 : decode cX5_gets 35 = .ok (.iconst 0, 1) := by decide +kernel
theorem dX5_gets_36 : decode cX5_gets 36 = .ok (.invokestatic 64, 3) := by decide +kernel
theorem dX5_gets_39 : decode cX5_gets 39 = .ok (.iadd, 1) := by decide +kernel
theorem dX5_gets_40 : decode cX5_gets 40 = .ok (.imul, 1) := by decide +kernel
theorem dX5_gets_41 : decode cX5_gets 41 = .ok (.aload_n 0, 1) := by decide +kernel
theorem dX5_gets_42 : decode cX5_gets 42 = .ok (.iload_n 2, 1) := by decide +kernel
theorem dX5_gets_43 : decode cX5_gets 43 = .ok (.invokestatic 64, 3) := by decide +kernel
theorem dX5_gets_46 : decode cX5_gets 46 = .ok (.idiv, 1) := by decide +kernel
theorem dX5_gets_47 : decode cX5_gets 47 = .ok (.ireturn, 1) := by decide +kernel
theorem dX5_dig_0 : decode cX5_dig 0 = .ok (.aload_n 0, 1) := by decide +kernel
theorem dX5_dig_1 : decode cX5_dig 1 = .ok (.getfield 25, 3) := by decide +kernel
theorem dX5_dig_4 : decode cX5_dig 4 = .ok (.iload_n 1, 1) := by decide +kernel
theorem dX5_dig_5 : decode cX5_dig 5 = .ok (.aaload, 1) := by decide +kernel
theorem dX5_dig_6 : decode cX5_dig 6 = .ok (.astore_n 3, 1) := by decide +kernel
theorem dX5_dig_7 : decode cX5_dig 7 = .ok (.iconst 0, 1) := by decide +kernel
theorem dX5_dig_8 : decode cX5_dig 8 = .ok (.istore 4, 2) := by decide +kernel
theorem dX5_dig_10 : decode cX5_dig 10 = .ok (.iload 4, 2) := by decide +kernel
theorem dX5_dig_12 : decode cX5_dig 12 = .ok (.iload_n 2, 1) := by decide +kernel
theorem dX5_dig_13 : decode cX5_dig 13 = .ok (.if_icmp .ge 24, 3) := by decide +kernel
theorem dX5_dig_16 : decode cX5_dig 16 = .ok (.aload_n 0, 1) := by decide +kernel
theorem dX5_dig_17 : decode cX5_dig 17 = .ok (.iload_n 1, 1) := by decide +kernel
theorem dX5_dig_18 : decode cX5_dig 18 = .ok (.invokevirtual 68, 3) := by decide +kernel
theorem dX5_dig_21 : decode cX5_dig 21 = .ok (.ifCond .ne 16, 3) := by decide +kernel
theorem dX5_dig_24 : decode cX5_dig 24 = .ok (.aload_n 3, 1) := by decide +kernel
theorem dX5_dig_25 : decode cX5_dig 25 = .ok (.iconst 3, 1) := by decide +kernel
theorem dX5_dig_26 : decode cX5_dig 26 = .ok (.dup2, 1) := by decide +kernel
theorem dX5_dig_27 : decode cX5_dig 27 = .ok (.iaload, 1) := by decide +kernel
theorem dX5_dig_28 : decode cX5_dig 28 = .ok (.iconst 1, 1) := by decide +kernel
theorem dX5_dig_29 : decode cX5_dig 29 = .ok (.iadd, 1) := by decide +kernel
theorem dX5_dig_30 : decode cX5_dig 30 = .ok (.iastore, 1) := by decide +kernel
theorem dX5_dig_31 : decode cX5_dig 31 = .ok (.iinc 4 1, 3) := by decide +kernel
theorem dX5_dig_34 : decode cX5_dig 34 = .ok (.goto (-24), 3) := by decide +kernel
theorem dX5_dig_37 : decode cX5_dig 37 = .ok (.aload_n 0, 1) := by decide +kernel
theorem dX5_dig_38 : decode cX5_dig 38 = .ok (.iload_n 1, 1) := by decide +kernel
theorem dX5_dig_39 : decode cX5_dig 39 = .ok (.invokevirtual 68, 3) := by decide +kernel
theorem dX5_dig_42 : decode cX5_dig 42 = .ok (.ifCond .ne 7, 3) := by decide +kernel
theorem dX5_dig_45 : decode cX5_dig 45 = .ok (.aload_n 3, 1) := by decide +kernel
theorem dX5_dig_46 : decode cX5_dig 46 = .ok (.iconst 3, 1) := by decide +kernel
theorem dX5_dig_47 : decode cX5_dig 47 = .ok (.iaload, 1) := by decide +kernel
theorem dX5_dig_48 : decode cX5_dig 48 = .ok (.ireturn, 1) := by decide +kernel
theorem dX5_dig_49 : decode cX5_dig 49 = .ok (.aload_n 3, 1) := by decide +kernel
theorem dX5_dig_50 : decode cX5_dig 50 = .ok (.iconst 2, 1) := by decide +kernel
theorem dX5_dig_51 : decode cX5_dig 51 = .ok (.iaload, 1) := by decide +kernel
theorem dX5_dig_52 : decode cX5_dig 52 = .ok (.ifCond .le 7, 3) := by decide +kernel
theorem dX5_dig_55 : decode cX5_dig 55 = .ok (.iconst 1, 1) := by decide +kernel
theorem dX5_dig_56 : decode cX5_dig 56 = .ok (.goto 4, 3) := by decide +kernel
theorem dX5_dig_59 : decode cX5_dig 59 = .ok (.iconst 0, 1) := by decide +kernel
theorem dX5_dig_60 : decode cX5_dig 60 = .ok (.istore 4, 2) := by decide +kernel
theorem dX5_dig_62 : decode cX5_dig 62 = .ok (.aload_n 0, 1) := by decide +kernel
theorem dX5_dig_63 : decode cX5_dig 63 = .ok (.dup, 1) := by decide +kernel
theorem dX5_dig_64 : decode cX5_dig 64 = .ok (.getfield 72, 3) := by decide +kernel
theorem dX5_dig_67 : decode cX5_dig 67 = .ok (.aload_n 3, 1) := by decide +kernel
theorem dX5_dig_68 : decode cX5_dig 68 = .ok (.iconst 1, 1) := by decide +kernel
theorem dX5_dig_69 : decode cX5_dig 69 = .ok (.invokestatic 64, 3) := by decide +kernel
theorem dX5_dig_72 : decode cX5_dig 72 = .ok (.aload_n 3, 1) := by decide +kernel
theorem dX5_dig_73 : decode cX5_dig 73 = .ok (.iconst 0, 1) := by decide +kernel
theorem dX5_dig_74 : decode cX5_dig 74 = .ok (.invokestatic 64, 3) := by decide +kernel
theorem dX5_dig_77 : decode cX5_dig 77 = .ok (.iadd, 1) := by decide +kernel
theorem dX5_dig_78 : decode cX5_dig 78 = .ok (.iadd, 1) := by decide +kernel
theorem dX5_dig_79 : decode cX5_dig 79 = .ok (.putfield 72, 3) := by decide +kernel
theorem dX5_dig_82 : decode cX5_dig 82 = .ok (.iconst 0, 1) := by decide +kernel
theorem dX5_dig_83 : decode cX5_dig 83 = .ok (.istore 5, 2) := by decide +kernel
theorem dX5_dig_85 : decode cX5_dig 85 = .ok (.iload 5, 2) := by decide +kernel
theorem dX5_dig_87 : decode cX5_dig 87 = .ok (.aload_n 0, 1) := by decide +kernel
theorem dX5_dig_88 : decode cX5_dig 88 = .ok (.getfield 19, 3) := by decide +kernel
theorem dX5_dig_91 : decode cX5_dig 91 = .ok (.arraylength, 1) := by decide +kernel
theorem dX5_dig_92 : decode cX5_dig 92 = .ok (.if_icmp .ge 89, 3) := by decide +kernel
theorem dX5_dig_95 : decode cX5_dig 95 = .ok (.aload_n 3, 1) := by decide +kernel
theorem dX5_dig_96 : decode cX5_dig 96 = .ok (.iload 5, 2) := by decide +kernel
theorem dX5_dig_98 : decode cX5_dig 98 = .ok (.iload 4, 2) := by decide +kernel
theorem dX5_dig_100 : decode cX5_dig 100 = .ok (.invokestatic 75, 3) := by decide +kernel
theorem dX5_dig_103 : decode cX5_dig 103 = .ok (.istore 6, 2) := by decide +kernel
theorem dX5_dig_105 : decode cX5_dig 105 = .ok (.aload_n 0, 1) := by decide +kernel
theorem dX5_dig_106 : decode cX5_dig 106 = .ok (.getfield 19, 3) := by decide +kernel
theorem dX5_dig_109 : decode cX5_dig 109 = .ok (.iload 5, 2) := by decide +kernel
theorem dX5_dig_111 : decode cX5_dig 111 = .ok (.aaload, 1) := by decide +kernel
theorem dX5_dig_112 : decode cX5_dig 112 = .ok (.iconst 2, 1) := by decide +kernel
theorem dX5_dig_113 : decode cX5_dig 113 = .ok (.dup2, 1) := by decide +kernel
theorem dX5_dig_114 : decode cX5_dig 114 = .ok (.iaload, 1) := by decide +kernel
theorem dX5_dig_115 : decode cX5_dig 115 = .ok (.iload 6, 2) := by decide +kernel
theorem dX5_dig_117 : decode cX5_dig 117 = .ok (.iadd, 1) := by decide +kernel
theorem dX5_dig_118 : decode cX5_dig 118 = .ok (.iastore, 1) := by decide +kernel
theorem dX5_dig_119 : decode cX5_dig 119 = .ok (.aload_n 0, 1) := by decide +kernel
theorem dX5_dig_120 : decode cX5_dig 120 = .ok (.dup, 1) := by decide +kernel
theorem dX5_dig_121 : decode cX5_dig 121 = .ok (.getfield 72, 3) := by decide +kernel
theorem dX5_dig_124 : decode cX5_dig 124 = .ok (.iload 6, 2) := by decide +kernel
theorem dX5_dig_126 : decode cX5_dig 126 = .ok (.isub, 1) := by decide +kernel
theorem dX5_dig_127 : decode cX5_dig 127 = .ok (.putfield 72, 3) := by decide +kernel
theorem dX5_dig_130 : decode cX5_dig 130 = .ok (.aload_n 3, 1) := by decide +kernel
theorem dX5_dig_131 : decode cX5_dig 131 = .ok (.iconst 4, 1) := by decide +kernel
theorem dX5_dig_132 : decode cX5_dig 132 = .ok (.iload 5, 2) := by decide +kernel
theorem dX5_dig_134 : decode cX5_dig 134 = .ok (.iadd, 1) := by decide +kernel
theorem dX5_dig_135 : decode cX5_dig 135 = .ok (.iaload, 1) := by decide +kernel
theorem dX5_dig_136 : decode cX5_dig 136 = .ok (.ifCond .eq 39, 3) := by decide +kernel
theorem dX5_dig_139 : decode cX5_dig 139 = .ok (.aload_n 0, 1) := by decide +kernel
theorem dX5_dig_140 : decode cX5_dig 140 = .ok (.getfield 19, 3) := by decide +kernel
theorem dX5_dig_143 : decode cX5_dig 143 = .ok (.iload 5, 2) := by decide +kernel
theorem dX5_dig_145 : decode cX5_dig 145 = .ok (.aaload, 1) := by decide +kernel
theorem dX5_dig_146 : decode cX5_dig 146 = .ok (.aload_n 3, 1) := by decide +kernel
theorem dX5_dig_147 : decode cX5_dig 147 = .ok (.iconst 4, 1) := by decide +kernel
theorem dX5_dig_148 : decode cX5_dig 148 = .ok (.iload 5, 2) := by decide +kernel
theorem dX5_dig_150 : decode cX5_dig 150 = .ok (.iadd, 1) := by decide +kernel
theorem dX5_dig_151 : decode cX5_dig 151 = .ok (.iaload, 1) := by decide +kernel
theorem dX5_dig_152 : decode cX5_dig 152 = .ok (.ifCond .le 7, 3) := by decide +kernel
theorem dX5_dig_155 : decode cX5_dig 155 = .ok (.iconst 1, 1) := by decide +kernel
theorem dX5_dig_156 : decode cX5_dig 156 = .ok (.goto 4, 3) := by decide +kernel
theorem dX5_dig_159 : decode cX5_dig 159 = .ok (.iconst 0, 1) := by decide +kernel
theorem dX5_dig_160 : decode cX5_dig 160 = .ok (.iload 4, 2) := by decide +kernel
theorem dX5_dig_162 : decode cX5_dig 162 = .ok (.if_icmp .ne 7, 3) := by decide +kernel
theorem dX5_dig_165 : decode cX5_dig 165 = .ok (.iconst 3, 1) := by decide +kernel
theorem dX5_dig_166 : decode cX5_dig 166 = .ok (.goto 4, 3) := by decide +kernel
theorem dX5_dig_169 : decode cX5_dig 169 = .ok (.iconst 4, 1) := by decide +kernel
theorem dX5_dig_170 : decode cX5_dig 170 = .ok (.dup2, 1) := by decide +kernel
theorem dX5_dig_171 : decode cX5_dig 171 = .ok (.iaload, 1) := by decide +kernel
theorem dX5_dig_172 : decode cX5_dig 172 = .ok (.iconst 1, 1) := by decide +kernel
theorem dX5_dig_173 : decode cX5_dig 173 = .ok (.iadd, 1) := by decide +kernel
theorem dX5_dig_174 : decode cX5_dig 174 = .ok (.iastore, 1) := by decide +kernel
theorem dX5_dig_175 : decode cX5_dig 175 = .ok (.iinc 5 1, 3) := by decide +kernel
theorem dX5_dig_178 : decode cX5_dig 178 = .ok (.goto (-93), 3) := by decide +kernel
theorem dX5_dig_181 : decode cX5_dig 181 = .ok (.aload_n 3, 1) := by decide +kernel
theorem dX5_dig_182 : decode cX5_dig 182 = .ok (.iconst 3, 1) := by decide +kernel
theorem dX5_dig_183 : decode cX5_dig 183 = .ok (.iaload, 1) := by decide +kernel
theorem dX5_dig_184 : decode cX5_dig 184 = .ok (.ireturn, 1) := by decide +kernel
theorem dX5_isSame_0 : decode cX5_isSame 0 = .ok (.bipush 9, 2) := by decide +kernel
theorem dX5_isSame_2 : decode cX5_isSame 2 = .ok (.newarray .int, 2) := by decide +kernel
theorem dX5_isSame_4 : decode cX5_isSame 4 = .ok (.dup, 1) := by decide +kernel
theorem dX5_isSame_5 : decode cX5_isSame 5 = .ok (.iconst 0, 1) := by decide +kernel
theorem dX5_isSame_6 : decode cX5_isSame 6 = .ok (.aload_n 0, 1) := by decide +kernel
theorem dX5_isSame_7 : decode cX5_isSame 7 = .ok (.getfield 15, 3) := by decide +kernel
theorem dX5_isSame_10 : decode cX5_isSame 10 = .ok (.arraylength, 1) := by decide +kernel
theorem dX5_isSame_11 : decode cX5_isSame 11 = .ok (.iastore, 1) := by decide +kernel
theorem dX5_isSame_12 : decode cX5_isSame 12 = .ok (.dup, 1) := by decide +kernel
theorem dX5_isSame_13 : decode cX5_isSame 13 = .ok (.iconst 1, 1) := by decide +kernel
theorem dX5_isSame_14 : decode cX5_isSame 14 = .ok (.aload_n 0, 1) := by decide +kernel
theorem dX5_isSame_15 : decode cX5_isSame 15 = .ok (.getfield 19, 3) := by decide +kernel
theorem dX5_isSame_18 : decode cX5_isSame 18 = .ok (.arraylength, 1) := by decide +kernel
theorem dX5_isSame_19 : decode cX5_isSame 19 = .ok (.iastore, 1) := by decide +kernel
theorem dX5_isSame_20 : decode cX5_isSame 20 = .ok (.dup, 1) := by decide +kernel
theorem dX5_isSame_21 : decode cX5_isSame 21 = .ok (.iconst 2, 1) := by decide +kernel
theorem dX5_isSame_22 : decode cX5_isSame 22 = .ok (.aload_n 0, 1) := by decide +kernel
theorem dX5_isSame_23 : decode cX5_isSame 23 = .ok (.getfield 22, 3) := by decide +kernel
theorem dX5_isSame_26 : decode cX5_isSame 26 = .ok (.arraylength, 1) := by decide +kernel
theorem dX5_isSame_27 : decode cX5_isSame 27 = .ok (.iastore, 1) := by decide +kernel
theorem dX5_isSame_28 : decode cX5_isSame 28 = .ok (.dup, 1) := by decide +kernel
theorem dX5_isSame_29 : decode cX5_isSame 29 = .ok (.iconst 3, 1) := by decide +kernel
theorem dX5_isSame_30 : decode cX5_isSame 30 = .ok (.aload_n 0, 1) := by decide +kernel
theorem dX5_isSame_31 : decode cX5_isSame 31 = .ok (.getfield 25, 3) := by decide +kernel
theorem dX5_isSame_34 : decode cX5_isSame 34 = .ok (.arraylength, 1) := by decide +kernel
theorem dX5_isSame_35 : decode cX5_isSame 35 = .ok (.iastore, 1) := by decide +kernel
theorem dX5_isSame_36 : decode cX5_isSame 36 = .ok (.dup, 1) := by decide +kernel
theorem dX5_isSame_37 : decode cX5_isSame 37 = .ok (.iconst 4, 1) := by decide +kernel
theorem dX5_isSame_38 : decode cX5_isSame 38 = .ok (.aload_n 0, 1) := by decide +kernel
theorem dX5_isSame_39 : decode cX5_isSame 39 = .ok (.getfield 7, 3) := by decide +kernel
theorem dX5_isSame_42 : decode cX5_isSame 42 = .ok (.iastore, 1) := by decide +kernel
theorem dX5_isSame_43 : decode cX5_isSame 43 = .ok (.dup, 1) := by decide +kernel
theorem dX5_isSame_44 : decode cX5_isSame 44 = .ok (.iconst 5, 1) := by decide +kernel
theorem dX5_isSame_45 : decode cX5_isSame 45 = .ok (.iconst 0, 1) := by decide +kernel
theorem dX5_isSame_46 : decode cX5_isSame 46 = .ok (.iastore, 1) := by decide +kernel
theorem dX5_isSame_47 : decode cX5_isSame 47 = .ok (.dup, 1) := by decide +kernel
theorem dX5_isSame_48 : decode cX5_isSame 48 = .ok (.bipush 6, 2) := by decide +kernel
theorem dX5_isSame_50 : decode cX5_isSame 50 = .ok (.iconst 0, 1) := by decide +kernel
theorem dX5_isSame_51 : decode cX5_isSame 51 = .ok (.iastore, 1) := by decide +kernel
theorem dX5_isSame_52 : decode cX5_isSame 52 = .ok (.dup, 1) := by decide +kernel
theorem dX5_isSame_53 : decode cX5_isSame 53 = .ok (.bipush 7, 2) := by decide +kernel
theorem dX5_isSame_55 : decode cX5_isSame 55 = .ok (.aload_n 0, 1) := by decide +kernel
theorem dX5_isSame_56 : decode cX5_isSame 56 = .ok (.getfield 72, 3) := by decide +kernel
theorem dX5_isSame_59 : decode cX5_isSame 59 = .ok (.iastore, 1) := by decide +kernel
theorem dX5_isSame_60 : decode cX5_isSame 60 = .ok (.dup, 1) := by decide +kernel
theorem dX5_isSame_61 : decode cX5_isSame 61 = .ok (.bipush 8, 2) := by decide +kernel
theorem dX5_isSame_63 : decode cX5_isSame 63 = .ok (.iconst 0, 1) := by decide +kernel
theorem dX5_isSame_64 : decode cX5_isSame 64 = .ok (.iastore, 1) := by decide +kernel
theorem dX5_isSame_65 : decode cX5_isSame 65 = .ok (.astore_n 2, 1) := by decide +kernel
theorem dX5_isSame_66 : decode cX5_isSame 66 = .ok (.iconst 0, 1) := by decide +kernel
theorem dX5_isSame_67 : decode cX5_isSame 67 = .ok (.istore_n 3, 1) := by decide +kernel
theorem dX5_isSame_68 : decode cX5_isSame 68 = .ok (.iload_n 3, 1) := by decide +kernel
theorem dX5_isSame_69 : decode cX5_isSame 69 = .ok (.bipush 20, 2) := by decide +kernel
theorem dX5_isSame_71 : decode cX5_isSame 71 = .ok (.if_icmp .ge 144, 3) := by decide +kernel
theorem dX5_isSame_74 : decode cX5_isSame 74 = .ok (.iconst 0, 1) := by decide +kernel
theorem dX5_isSame_75 : decode cX5_isSame 75 = .ok (.istore 4, 2) := by decide +kernel
theorem dX5_isSame_77 : decode cX5_isSame 77 = .ok (.iload 4, 2) := by decide +kernel
theorem dX5_isSame_79 : decode cX5_isSame 79 = .ok (.bipush 20, 2) := by decide +kernel
theorem dX5_isSame_81 : decode cX5_isSame 81 = .ok (.if_icmp .ge 128, 3) := by decide +kernel
theorem dX5_isSame_84 : decode cX5_isSame 84 = .ok (.aload_n 0, 1) := by decide +kernel
theorem dX5_isSame_85 : decode cX5_isSame 85 = .ok (.iload_n 3, 1) := by decide +kernel
theorem dX5_isSame_86 : decode cX5_isSame 86 = .ok (.iload 4, 2) := by decide +kernel
theorem dX5_isSame_88 : decode cX5_isSame 88 = .ok (.invokevirtual 79, 3) := by decide +kernel
theorem dX5_isSame_91 : decode cX5_isSame 91 = .ok (.istore 5, 2) := by decide +kernel
theorem dX5_isSame_93 : decode cX5_isSame 93 = .ok (.aload_n 2, 1) := by decide +kernel
theorem dX5_isSame_94 : decode cX5_isSame 94 = .ok (.iconst 5, 1) := by decide +kernel
theorem dX5_isSame_95 : decode cX5_isSame 95 = .ok (.dup2, 1) := by decide +kernel
theorem dX5_isSame_96 : decode cX5_isSame 96 = .ok (.iaload, 1) := by decide +kernel
theorem dX5_isSame_97 : decode cX5_isSame 97 = .ok (.iload 5, 2) := by decide +kernel
theorem dX5_isSame_99 : decode cX5_isSame 99 = .ok (.ifCond .le 7, 3) := by decide +kernel
theorem dX5_isSame_102 : decode cX5_isSame 102 = .ok (.iconst 1, 1) := by decide +kernel
theorem dX5_isSame_103 : decode cX5_isSame 103 = .ok (.goto 4, 3) := by decide +kernel
theorem dX5_isSame_106 : decode cX5_isSame 106 = .ok (.iconst 0, 1) := by decide +kernel
theorem dX5_isSame_107 : decode cX5_isSame 107 = .ok (.iadd, 1) := by decide +kernel
theorem dX5_isSame_108 : decode cX5_isSame 108 = .ok (.iastore, 1) := by decide +kernel
theorem dX5_isSame_109 : decode cX5_isSame 109 = .ok (.iload_n 3, 1) := by decide +kernel
theorem dX5_isSame_110 : decode cX5_isSame 110 = .ok (.iload 4, 2) := by decide +kernel
theorem dX5_isSame_112 : decode cX5_isSame 112 = .ok (.iadd, 1) := by decide +kernel
theorem dX5_isSame_113 : decode cX5_isSame 113 = .ok (.iconst 3, 1) := by decide +kernel
theorem dX5_isSame_114 : decode cX5_isSame 114 = .ok (.irem, 1) := by decide +kernel
theorem dX5_isSame_115 : decode cX5_isSame 115 = .ok (.ifCond .ne 88, 3) := by decide +kernel
theorem dX5_isSame_118 : decode cX5_isSame 118 = .ok (.aload_n 1, 1) := by decide +kernel
theorem dX5_isSame_119 : decode cX5_isSame 119 = .ok (.iload_n 3, 1) := by decide +kernel
theorem dX5_isSame_120 : decode cX5_isSame 120 = .ok (.iload 4, 2) := by decide +kernel
theorem dX5_isSame_122 : decode cX5_isSame 122 = .ok (.iconst 0, 1) := by decide +kernel
theorem dX5_isSame_123 : decode cX5_isSame 123 = .ok (.invokevirtual 82, 3) := by decide +kernel
theorem dX5_isSame_126 : decode cX5_isSame 126 = .ok (.iload 5, 2) := by decide +kernel
theorem dX5_isSame_128 : decode cX5_isSame 128 = .ok (.if_icmp .ne 73, 3) := by decide +kernel
theorem dX5_isSame_131 : decode cX5_isSame 131 = .ok (.aload_n 1, 1) := by decide +kernel
theorem dX5_isSame_132 : decode cX5_isSame 132 = .ok (.iload_n 3, 1) := by decide +kernel
theorem dX5_isSame_133 : decode cX5_isSame 133 = .ok (.iload 4, 2) := by decide +kernel
theorem dX5_isSame_135 : decode cX5_isSame 135 = .ok (.iconst 1, 1) := by decide +kernel
theorem dX5_isSame_136 : decode cX5_isSame 136 = .ok (.invokevirtual 82, 3) := by decide +kernel
theorem dX5_isSame_139 : decode cX5_isSame 139 = .ok (.aload_n 0, 1) := by decide +kernel
theorem dX5_isSame_140 : decode cX5_isSame 140 = .ok (.iload_n 3, 1) := by decide +kernel
theorem dX5_isSame_141 : decode cX5_isSame 141 = .ok (.iload 4, 2) := by decide +kernel
theorem dX5_isSame_143 : decode cX5_isSame 143 = .ok (.invokevirtual 87, 3) := by decide +kernel
theorem dX5_isSame_146 : decode cX5_isSame 146 = .ok (.if_icmp .ne 55, 3) := by decide +kernel
theorem dX5_isSame_149 : decode cX5_isSame 149 = .ok (.aload_n 1, 1) := by decide +kernel
theorem dX5_isSame_150 : decode cX5_isSame 150 = .ok (.iload_n 3, 1) := by decide +kernel
theorem dX5_isSame_151 : decode cX5_isSame 151 = .ok (.iload 4, 2) := by decide +kernel
theorem dX5_isSame_153 : decode cX5_isSame 153 = .ok (.iconst 2, 1) := by decide +kernel
theorem dX5_isSame_154 : decode cX5_isSame 154 = .ok (.invokevirtual 82, 3) := by decide +kernel
theorem dX5_isSame_157 : decode cX5_isSame 157 = .ok (.ifCond .lt 7, 3) := by decide +kernel
theorem dX5_isSame_160 : decode cX5_isSame 160 = .ok (.iconst 1, 1) := by decide +kernel
theorem dX5_isSame_161 : decode cX5_isSame 161 = .ok (.goto 4, 3) := by decide +kernel
theorem dX5_isSame_164 : decode cX5_isSame 164 = .ok (.iconst 0, 1) := by decide +kernel
theorem dX5_isSame_165 : decode cX5_isSame 165 = .ok (.aload_n 0, 1) := by decide +kernel
theorem dX5_isSame_166 : decode cX5_isSame 166 = .ok (.iload_n 3, 1) := by decide +kernel
theorem dX5_isSame_167 : decode cX5_isSame 167 = .ok (.iload 4, 2) := by decide +kernel
theorem dX5_isSame_169 : decode cX5_isSame 169 = .ok (.invokevirtual 57, 3) := by decide +kernel
theorem dX5_isSame_172 : decode cX5_isSame 172 = .ok (.ifCond .lt 7, 3) := by decide +kernel
theorem dX5_isSame_175 : decode cX5_isSame 175 = .ok (.iconst 1, 1) := by decide +kernel
theorem dX5_isSame_176 : decode cX5_isSame 176 = .ok (.goto 4, 3) := by decide +kernel
theorem dX5_isSame_179 : decode cX5_isSame 179 = .ok (.iconst 0, 1) := by decide +kernel
theorem dX5_isSame_180 : decode cX5_isSame 180 = .ok (.if_icmp .ne 21, 3) := by decide +kernel
theorem dX5_isSame_183 : decode cX5_isSame 183 = .ok (.aload_n 1, 1) := by decide +kernel
theorem dX5_isSame_184 : decode cX5_isSame 184 = .ok (.iload_n 3, 1) := by decide +kernel
theorem dX5_isSame_185 : decode cX5_isSame 185 = .ok (.iload 4, 2) := by decide +kernel
theorem dX5_isSame_187 : decode cX5_isSame 187 = .ok (.iconst 3, 1) := by decide +kernel
theorem dX5_isSame_188 : decode cX5_isSame 188 = .ok (.invokevirtual 82, 3) := by decide +kernel
theorem dX5_isSame_191 : decode cX5_isSame 191 = .ok (.aload_n 0, 1) := by decide +kernel
theorem dX5_isSame_192 : decode cX5_isSame 192 = .ok (.iload_n 3, 1) := by decide +kernel
theorem dX5_isSame_193 : decode cX5_isSame 193 = .ok (.iload 4, 2) := by decide +kernel
theorem dX5_isSame_195 : decode cX5_isSame 195 = .ok (.invokevirtual 90, 3) := by decide +kernel
theorem dX5_isSame_198 : decode cX5_isSame 198 = .ok (.if_icmp .eq 5, 3) := by decide +kernel
theorem dX5_isSame_201 : decode cX5_isSame 201 = .ok (.iconst 0, 1) := by decide +kernel
theorem dX5_isSame_202 : decode cX5_isSame 202 = .ok (.ireturn, 1) := by decide +kernel
theorem dX5_isSame_203 : decode cX5_isSame 203 = .ok (.iinc 4 1, 3) := by decide +kernel
theorem dX5_isSame_206 : decode cX5_isSame 206 = .ok (.goto (-129), 3) := by decide +kernel
theorem dX5_isSame_209 : decode cX5_isSame 209 = .ok (.iinc 3 1, 3) := by decide +kernel
theorem dX5_isSame_212 : decode cX5_isSame 212 = .ok (.goto (-144), 3) := by decide +kernel
theorem dX5_isSame_215 : decode cX5_isSame 215 = .ok (.iconst 5, 1) := by decide +kernel
theorem dX5_isSame_216 : decode cX5_isSame 216 = .ok (.iconst 2, 1) := by decide +kernel
theorem dX5_isSame_217 : decode cX5_isSame 217 = .ok (.multianewarray 93 2, 4) := by decide +kernel
theorem dX5_isSame_221 : decode cX5_isSame 221 = .ok (.astore_n 3, 1) := by decide +kernel
theorem dX5_isSame_222 : decode cX5_isSame 222 = .ok (.iconst 0, 1) := by decide +kernel
theorem dX5_isSame_223 : decode cX5_isSame 223 = .ok (.istore 4, 2) := by decide +kernel
theorem dX5_isSame_225 : decode cX5_isSame 225 = .ok (.aload_n 0, 1) := by decide +kernel
theorem dX5_isSame_226 : decode cX5_isSame 226 = .ok (.getfield 22, 3) := by decide +kernel
theorem dX5_isSame_229 : decode cX5_isSame 229 = .ok (.astore 5, 2) := by decide +kernel
theorem dX5_isSame_231 : decode cX5_isSame 231 = .ok (.aload 5, 2) := by decide +kernel
theorem dX5_isSame_233 : decode cX5_isSame 233 = .ok (.arraylength, 1) := by decide +kernel
theorem dX5_isSame_234 : decode cX5_isSame 234 = .ok (.istore 6, 2) := by decide +kernel
theorem dX5_isSame_236 : decode cX5_isSame 236 = .ok (.iconst 0, 1) := by decide +kernel
theorem dX5_isSame_237 : decode cX5_isSame 237 = .ok (.istore 7, 2) := by decide +kernel
theorem dX5_isSame_239 : decode cX5_isSame 239 = .ok (.iload 7, 2) := by decide +kernel
theorem dX5_isSame_241 : decode cX5_isSame 241 = .ok (.iload 6, 2) := by decide +kernel
theorem dX5_isSame_243 : decode cX5_isSame 243 = .ok (.if_icmp .ge 109, 3) := by decide +kernel
theorem dX5_isSame_246 : decode cX5_isSame 246 = .ok (.aload 5, 2) := by decide +kernel
theorem dX5_isSame_248 : decode cX5_isSame 248 = .ok (.iload 7, 2) := by decide +kernel
theorem dX5_isSame_250 : decode cX5_isSame 250 = .ok (.aaload, 1) := by decide +kernel
theorem dX5_isSame_251 : decode cX5_isSame 251 = .ok (.astore 8, 2) := by decide +kernel
theorem dX5_isSame_253 : decode cX5_isSame 253 = .ok (.aload_n 0, 1) := by decide +kernel
theorem dX5_isSame_254 : decode cX5_isSame 254 = .ok (.aload 8, 2) := by decide +kernel
theorem dX5_isSame_256 : decode cX5_isSame 256 = .ok (.iconst 0, 1) := by decide +kernel
theorem dX5_isSame_257 : decode cX5_isSame 257 = .ok (.iaload, 1) := by decide +kernel
theorem dX5_isSame_258 : decode cX5_isSame 258 = .ok (.aload 8, 2) := by decide +kernel
theorem dX5_isSame_260 : decode cX5_isSame 260 = .ok (.iconst 1, 1) := by decide +kernel
theorem dX5_isSame_261 : decode cX5_isSame 261 = .ok (.iaload, 1) := by decide +kernel
theorem dX5_isSame_262 : decode cX5_isSame 262 = .ok (.invokevirtual 79, 3) := by decide +kernel
theorem dX5_isSame_265 : decode cX5_isSame 265 = .ok (.istore 9, 2) := by decide +kernel
theorem dX5_isSame_267 : decode cX5_isSame 267 = .ok (.aload_n 1, 1) := by decide +kernel
theorem dX5_isSame_268 : decode cX5_isSame 268 = .ok (.aload 8, 2) := by decide +kernel
theorem dX5_isSame_270 : decode cX5_isSame 270 = .ok (.iconst 0, 1) := by decide +kernel
theorem dX5_isSame_271 : decode cX5_isSame 271 = .ok (.iaload, 1) := by decide +kernel
theorem dX5_isSame_272 : decode cX5_isSame 272 = .ok (.aload 8, 2) := by decide +kernel
theorem dX5_isSame_274 : decode cX5_isSame 274 = .ok (.iconst 1, 1) := by decide +kernel
theorem dX5_isSame_275 : decode cX5_isSame 275 = .ok (.iaload, 1) := by decide +kernel
theorem dX5_isSame_276 : decode cX5_isSame 276 = .ok (.iconst 2, 1) := by decide +kernel
theorem dX5_isSame_277 : decode cX5_isSame 277 = .ok (.invokevirtual 82, 3) := by decide +kernel
theorem dX5_isSame_280 : decode cX5_isSame 280 = .ok (.aload 8, 2) := by decide +kernel
theorem dX5_isSame_282 : decode cX5_isSame 282 = .ok (.iconst 2, 1) := by decide +kernel
theorem dX5_isSame_283 : decode cX5_isSame 283 = .ok (.iaload, 1) := by decide +kernel
theorem dX5_isSame_284 : decode cX5_isSame 284 = .ok (.if_icmp .eq 5, 3) := by decide +kernel
theorem dX5_isSame_287 : decode cX5_isSame 287 = .ok (.iconst 0, 1) := by decide +kernel
theorem dX5_isSame_288 : decode cX5_isSame 288 = .ok (.ireturn, 1) := by decide +kernel
theorem dX5_isSame_289 : decode cX5_isSame 289 = .ok (.aload_n 3, 1) := by decide +kernel
theorem dX5_isSame_290 : decode cX5_isSame 290 = .ok (.aload 8, 2) := by decide +kernel
theorem dX5_isSame_292 : decode cX5_isSame 292 = .ok (.iconst 2, 1) := by decide +kernel
theorem dX5_isSame_293 : decode cX5_isSame 293 = .ok (.iaload, 1) := by decide +kernel
theorem dX5_isSame_294 : decode cX5_isSame 294 = .ok (.aaload, 1) := by decide +kernel
theorem dX5_isSame_295 : decode cX5_isSame 295 = .ok (.iconst 0, 1) := by decide +kernel
theorem dX5_isSame_296 : decode cX5_isSame 296 = .ok (.dup2, 1) := by decide +kernel
theorem dX5_isSame_297 : decode cX5_isSame 297 = .ok (.iaload, 1) := by decide +kernel
theorem dX5_isSame_298 : decode cX5_isSame 298 = .ok (.iconst 1, 1) := by decide +kernel
theorem dX5_isSame_299 : decode cX5_isSame 299 = .ok (.iadd, 1) := by decide +kernel
theorem dX5_isSame_300 : decode cX5_isSame 300 = .ok (.iastore, 1) := by decide +kernel
theorem dX5_isSame_301 : decode cX5_isSame 301 = .ok (.aload_n 3, 1) := by decide +kernel
theorem dX5_isSame_302 : decode cX5_isSame 302 = .ok (.aload 8, 2) := by decide +kernel
theorem dX5_isSame_304 : decode cX5_isSame 304 = .ok (.iconst 2, 1) := by decide +kernel
theorem dX5_isSame_305 : decode cX5_isSame 305 = .ok (.iaload, 1) := by decide +kernel
theorem dX5_isSame_306 : decode cX5_isSame 306 = .ok (.aaload, 1) := by decide +kernel
theorem dX5_isSame_307 : decode cX5_isSame 307 = .ok (.iconst 1, 1) := by decide +kernel
theorem dX5_isSame_308 : decode cX5_isSame 308 = .ok (.dup2, 1) := by decide +kernel
theorem dX5_isSame_309 : decode cX5_isSame 309 = .ok (.iaload, 1) := by decide +kernel
theorem dX5_isSame_310 : decode cX5_isSame 310 = .ok (.iload 9, 2) := by decide +kernel
theorem dX5_isSame_312 : decode cX5_isSame 312 = .ok (.ifCond .le 7, 3) := by decide +kernel
theorem dX5_isSame_315 : decode cX5_isSame 315 = .ok (.iconst 1, 1) := by decide +kernel
theorem dX5_isSame_316 : decode cX5_isSame 316 = .ok (.goto 4, 3) := by decide +kernel
theorem dX5_isSame_319 : decode cX5_isSame 319 = .ok (.iconst 0, 1) := by decide +kernel
theorem dX5_isSame_320 : decode cX5_isSame 320 = .ok (.iadd, 1) := by decide +kernel
theorem dX5_isSame_321 : decode cX5_isSame 321 = .ok (.iastore, 1) := by decide +kernel
theorem dX5_isSame_322 : decode cX5_isSame 322 = .ok (.aload_n 2, 1) := by decide +kernel
theorem dX5_isSame_323 : decode cX5_isSame 323 = .ok (.bipush 6, 2) := by decide +kernel
theorem dX5_isSame_325 : decode cX5_isSame 325 = .ok (.dup2, 1) := by decide +kernel
theorem dX5_isSame_326 : decode cX5_isSame 326 = .ok (.iaload, 1) := by decide +kernel
theorem dX5_isSame_327 : decode cX5_isSame 327 = .ok (.iload 9, 2) := by decide +kernel
theorem dX5_isSame_329 : decode cX5_isSame 329 = .ok (.ifCond .le 7, 3) := by decide +kernel
theorem dX5_isSame_332 : decode cX5_isSame 332 = .ok (.iconst 1, 1) := by decide +kernel
theorem dX5_isSame_333 : decode cX5_isSame 333 = .ok (.goto 4, 3) := by decide +kernel
theorem dX5_isSame_336 : decode cX5_isSame 336 = .ok (.iconst 0, 1) := by decide +kernel
theorem dX5_isSame_337 : decode cX5_isSame 337 = .ok (.iadd, 1) := by decide +kernel
theorem dX5_isSame_338 : decode cX5_isSame 338 = .ok (.iastore, 1) := by decide +kernel
theorem dX5_isSame_339 : decode cX5_isSame 339 = .ok (.iload 4, 2) := by decide +kernel
theorem dX5_isSame_341 : decode cX5_isSame 341 = .ok (.iload 9, 2) := by decide +kernel
theorem dX5_isSame_343 : decode cX5_isSame 343 = .ok (.iadd, 1) := by decide +kernel
theorem dX5_isSame_344 : decode cX5_isSame 344 = .ok (.istore 4, 2) := by decide +kernel
theorem dX5_isSame_346 : decode cX5_isSame 346 = .ok (.iinc 7 1, 3) := by decide +kernel
theorem dX5_isSame_349 : decode cX5_isSame 349 = .ok (.goto (-110), 3) := by decide +kernel
theorem dX5_isSame_352 : decode cX5_isSame 352 = .ok (.iconst 0, 1) := by decide +kernel
theorem dX5_isSame_353 : decode cX5_isSame 353 = .ok (.istore 5, 2) := by decide +kernel
theorem dX5_isSame_355 : decode cX5_isSame 355 = .ok (.iload 5, 2) := by decide +kernel
theorem dX5_isSame_357 : decode cX5_isSame 357 = .ok (.aload_n 0, 1) := by decide +kernel
theorem dX5_isSame_358 : decode cX5_isSame 358 = .ok (.getfield 19, 3) := by decide +kernel
theorem dX5_isSame_361 : decode cX5_isSame 361 = .ok (.arraylength, 1) := by decide +kernel
theorem dX5_isSame_362 : decode cX5_isSame 362 = .ok (.if_icmp .ge 184, 3) := by decide +kernel
theorem dX5_isSame_365 : decode cX5_isSame 365 = .ok (.iconst 0, 1) := by decide +kernel
theorem dX5_isSame_366 : decode cX5_isSame 366 = .ok (.istore 6, 2) := by decide +kernel
theorem dX5_isSame_368 : decode cX5_isSame 368 = .ok (.iconst 0, 1) := by decide +kernel
theorem dX5_isSame_369 : decode cX5_isSame 369 = .ok (.istore 7, 2) := by decide +kernel
theorem dX5_isSame_371 : decode cX5_isSame 371 = .ok (.iload 7, 2) := by decide +kernel
theorem dX5_isSame_373 : decode cX5_isSame 373 = .ok (.aload_n 0, 1) := by decide +kernel
theorem dX5_isSame_374 : decode cX5_isSame 374 = .ok (.getfield 25, 3) := by decide +kernel
theorem dX5_isSame_377 : decode cX5_isSame 377 = .ok (.arraylength, 1) := by decide +kernel
theorem dX5_isSame_378 : decode cX5_isSame 378 = .ok (.if_icmp .ge 42, 3) := by decide +kernel
theorem dX5_isSame_381 : decode cX5_isSame 381 = .ok (.iload 6, 2) := by decide +kernel
theorem dX5_isSame_383 : decode cX5_isSame 383 = .ok (.aload_n 0, 1) := by decide +kernel
theorem dX5_isSame_384 : decode cX5_isSame 384 = .ok (.iload 7, 2) := by decide +kernel
theorem dX5_isSame_386 : decode cX5_isSame 386 = .ok (.invokevirtual 68, 3) := by decide +kernel
theorem dX5_isSame_389 : decode cX5_isSame 389 = .ok (.ifCond .eq 7, 3) := by decide +kernel
theorem dX5_isSame_392 : decode cX5_isSame 392 = .ok (.iconst 0, 1) := by decide +kernel
theorem dX5_isSame_393 : decode cX5_isSame 393 = .ok (.goto 18, 3) := by decide +kernel
theorem dX5_isSame_396 : decode cX5_isSame 396 = .ok (.aload_n 0, 1) := by decide +kernel
theorem dX5_isSame_397 : decode cX5_isSame 397 = .ok (.getfield 25, 3) := by decide +kernel
theorem dX5_isSame_400 : decode cX5_isSame 400 = .ok (.iload 7, 2) := by decide +kernel
theorem dX5_isSame_402 : decode cX5_isSame 402 = .ok (.aaload, 1) := by decide +kernel
theorem dX5_isSame_403 : decode cX5_isSame 403 = .ok (.iconst 4, 1) := by decide +kernel
theorem dX5_isSame_404 : decode cX5_isSame 404 = .ok (.iload 5, 2) := by decide +kernel
theorem dX5_isSame_406 : decode cX5_isSame 406 = .ok (.iadd, 1) := by decide +kernel
theorem dX5_isSame_407 : decode cX5_isSame 407 = .ok (.iaload, 1) := by decide +kernel
theorem dX5_isSame_408 : decode cX5_isSame 408 = .ok (.invokestatic 28, 3) := by decide +kernel
theorem dX5_isSame_411 : decode cX5_isSame 411 = .ok (.iadd, 1) := by decide +kernel
theorem dX5_isSame_412 : decode cX5_isSame 412 = .ok (.istore 6, 2) := by decide +kernel
theorem dX5_isSame_414 : decode cX5_isSame 414 = .ok (.iinc 7 1, 3) := by decide +kernel
theorem dX5_isSame_417 : decode cX5_isSame 417 = .ok (.goto (-46), 3) := by decide +kernel
theorem dX5_isSame_420 : decode cX5_isSame 420 = .ok (.aload_n 0, 1) := by decide +kernel
theorem dX5_isSame_421 : decode cX5_isSame 421 = .ok (.getfield 19, 3) := by decide +kernel
theorem dX5_isSame_424 : decode cX5_isSame 424 = .ok (.iload 5, 2) := by decide +kernel
theorem dX5_isSame_426 : decode cX5_isSame 426 = .ok (.aaload, 1) := by decide +kernel
theorem dX5_isSame_427 : decode cX5_isSame 427 = .ok (.astore 7, 2) := by decide +kernel
theorem dX5_isSame_429 : decode cX5_isSame 429 = .ok (.bipush 8, 2) := by decide +kernel
theorem dX5_isSame_431 : decode cX5_isSame 431 = .ok (.newarray .int, 2) := by decide +kernel
theorem dX5_isSame_433 : decode cX5_isSame 433 = .ok (.dup, 1) := by decide +kernel
theorem dX5_isSame_434 : decode cX5_isSame 434 = .ok (.iconst 0, 1) := by decide +kernel
theorem dX5_isSame_435 : decode cX5_isSame 435 = .ok (.aload 7, 2) := by decide +kernel
theorem dX5_isSame_437 : decode cX5_isSame 437 = .ok (.iconst 0, 1) := by decide +kernel
theorem dX5_isSame_438 : decode cX5_isSame 438 = .ok (.iaload, 1) := by decide +kernel
theorem dX5_isSame_439 : decode cX5_isSame 439 = .ok (.iastore, 1) := by decide +kernel
theorem dX5_isSame_440 : decode cX5_isSame 440 = .ok (.dup, 1) := by decide +kernel
theorem dX5_isSame_441 : decode cX5_isSame 441 = .ok (.iconst 1, 1) := by decide +kernel
theorem dX5_isSame_442 : decode cX5_isSame 442 = .ok (.aload 7, 2) := by decide +kernel
theorem dX5_isSame_444 : decode cX5_isSame 444 = .ok (.iconst 1, 1) := by decide +kernel
theorem dX5_isSame_445 : decode cX5_isSame 445 = .ok (.iaload, 1) := by decide +kernel
theorem dX5_isSame_446 : decode cX5_isSame 446 = .ok (.iastore, 1) := by decide +kernel
theorem dX5_isSame_447 : decode cX5_isSame 447 = .ok (.dup, 1) := by decide +kernel
theorem dX5_isSame_448 : decode cX5_isSame 448 = .ok (.iconst 2, 1) := by decide +kernel
theorem dX5_isSame_449 : decode cX5_isSame 449 = .ok (.aload 7, 2) := by decide +kernel
theorem dX5_isSame_451 : decode cX5_isSame 451 = .ok (.iconst 2, 1) := by decide +kernel
theorem dX5_isSame_452 : decode cX5_isSame 452 = .ok (.iaload, 1) := by decide +kernel
theorem dX5_isSame_453 : decode cX5_isSame 453 = .ok (.iastore, 1) := by decide +kernel
theorem dX5_isSame_454 : decode cX5_isSame 454 = .ok (.dup, 1) := by decide +kernel
theorem dX5_isSame_455 : decode cX5_isSame 455 = .ok (.iconst 3, 1) := by decide +kernel
theorem dX5_isSame_456 : decode cX5_isSame 456 = .ok (.aload_n 3, 1) := by decide +kernel
theorem dX5_isSame_457 : decode cX5_isSame 457 = .ok (.iload 5, 2) := by decide +kernel
theorem dX5_isSame_459 : decode cX5_isSame 459 = .ok (.aaload, 1) := by decide +kernel
theorem dX5_isSame_460 : decode cX5_isSame 460 = .ok (.iconst 0, 1) := by decide +kernel
theorem dX5_isSame_461 : decode cX5_isSame 461 = .ok (.iaload, 1) := by decide +kernel
theorem dX5_isSame_462 : decode cX5_isSame 462 = .ok (.iastore, 1) := by decide +kernel
theorem dX5_isSame_463 : decode cX5_isSame 463 = .ok (.dup, 1) := by decide +kernel
theorem dX5_isSame_464 : decode cX5_isSame 464 = .ok (.iconst 4, 1) := by decide +kernel
theorem dX5_isSame_465 : decode cX5_isSame 465 = .ok (.aload_n 3, 1) := by decide +kernel
theorem dX5_isSame_466 : decode cX5_isSame 466 = .ok (.iload 5, 2) := by decide +kernel
theorem dX5_isSame_468 : decode cX5_isSame 468 = .ok (.aaload, 1) := by decide +kernel
theorem dX5_isSame_469 : decode cX5_isSame 469 = .ok (.iconst 1, 1) := by decide +kernel
theorem dX5_isSame_470 : decode cX5_isSame 470 = .ok (.iaload, 1) := by decide +kernel
theorem dX5_isSame_471 : decode cX5_isSame 471 = .ok (.iastore, 1) := by decide +kernel
theorem dX5_isSame_472 : decode cX5_isSame 472 = .ok (.dup, 1) := by decide +kernel
theorem dX5_isSame_473 : decode cX5_isSame 473 = .ok (.iconst 5, 1) := by decide +kernel
theorem dX5_isSame_474 : decode cX5_isSame 474 = .ok (.iload 6, 2) := by decide +kernel
theorem dX5_isSame_476 : decode cX5_isSame 476 = .ok (.iastore, 1) := by decide +kernel
theorem dX5_isSame_477 : decode cX5_isSame 477 = .ok (.dup, 1) := by decide +kernel
theorem dX5_isSame_478 : decode cX5_isSame 478 = .ok (.bipush 6, 2) := by decide +kernel
theorem dX5_isSame_480 : decode cX5_isSame 480 = .ok (.aload 7, 2) := by decide +kernel
theorem dX5_isSame_482 : decode cX5_isSame 482 = .ok (.iconst 3, 1) := by decide +kernel
theorem dX5_isSame_483 : decode cX5_isSame 483 = .ok (.iaload, 1) := by decide +kernel
theorem dX5_isSame_484 : decode cX5_isSame 484 = .ok (.iastore, 1) := by decide +kernel
theorem dX5_isSame_485 : decode cX5_isSame 485 = .ok (.dup, 1) := by decide +kernel
theorem dX5_isSame_486 : decode cX5_isSame 486 = .ok (.bipush 7, 2) := by decide +kernel
theorem dX5_isSame_488 : decode cX5_isSame 488 = .ok (.aload 7, 2) := by decide +kernel
theorem dX5_isSame_490 : decode cX5_isSame 490 = .ok (.iconst 4, 1) := by decide +kernel
theorem dX5_isSame_491 : decode cX5_isSame 491 = .ok (.iaload, 1) := by decide +kernel
theorem dX5_isSame_492 : decode cX5_isSame 492 = .ok (.iastore, 1) := by decide +kernel
theorem dX5_isSame_493 : decode cX5_isSame 493 = .ok (.astore 8, 2) := by decide +kernel
theorem dX5_isSame_495 : decode cX5_isSame 495 = .ok (.iconst 0, 1) := by decide +kernel
theorem dX5_isSame_496 : decode cX5_isSame 496 = .ok (.istore 9, 2) := by decide +kernel
theorem dX5_isSame_498 : decode cX5_isSame 498 = .ok (.iload 9, 2) := by decide +kernel
theorem dX5_isSame_500 : decode cX5_isSame 500 = .ok (.bipush 8, 2) := by decide +kernel
theorem dX5_isSame_502 : decode cX5_isSame 502 = .ok (.if_icmp .ge 27, 3) := by decide +kernel
theorem dX5_isSame_505 : decode cX5_isSame 505 = .ok (.aload_n 1, 1) := by decide +kernel
theorem dX5_isSame_506 : decode cX5_isSame 506 = .ok (.iload 5, 2) := by decide +kernel
theorem dX5_isSame_508 : decode cX5_isSame 508 = .ok (.iload 9, 2) := by decide +kernel
theorem dX5_isSame_510 : decode cX5_isSame 510 = .ok (.invokevirtual 94, 3) := by decide +kernel
theorem dX5_isSame_513 : decode cX5_isSame 513 = .ok (.aload 8, 2) := by decide +kernel
theorem dX5_isSame_515 : decode cX5_isSame 515 = .ok (.iload 9, 2) := by decide +kernel
theorem dX5_isSame_517 : decode cX5_isSame 517 = .ok (.iaload, 1) := by decide +kernel
theorem dX5_isSame_518 : decode cX5_isSame 518 = .ok (.if_icmp .eq 5, 3) := by decide +kernel
theorem dX5_isSame_521 : decode cX5_isSame 521 = .ok (.iconst 0, 1) := by decide +kernel
theorem dX5_isSame_522 : decode cX5_isSame 522 = .ok (.ireturn, 1) := by decide +kernel
theorem dX5_isSame_523 : decode cX5_isSame 523 = .ok (.iinc 9 1, 3) := by decide +kernel
theorem dX5_isSame_526 : decode cX5_isSame 526 = .ok (.goto (-28), 3) := by decide +kernel
theorem dX5_isSame_529 : decode cX5_isSame 529 = .ok (.aload_n 2, 1) := by decide +kernel
theorem dX5_isSame_530 : decode cX5_isSame 530 = .ok (.bipush 8, 2) := by decide +kernel
theorem dX5_isSame_532 : decode cX5_isSame 532 = .ok (.dup2, 1) := by decide +kernel
theorem dX5_isSame_533 : decode cX5_isSame 533 = .ok (.iaload, 1) := by decide +kernel
theorem dX5_isSame_534 : decode cX5_isSame 534 = .ok (.aload 7, 2) := by decide +kernel
theorem dX5_isSame_536 : decode cX5_isSame 536 = .ok (.iconst 2, 1) := by decide +kernel
theorem dX5_isSame_537 : decode cX5_isSame 537 = .ok (.iaload, 1) := by decide +kernel
theorem dX5_isSame_538 : decode cX5_isSame 538 = .ok (.iadd, 1) := by decide +kernel
theorem dX5_isSame_539 : decode cX5_isSame 539 = .ok (.iastore, 1) := by decide +kernel
theorem dX5_isSame_540 : decode cX5_isSame 540 = .ok (.iinc 5 1, 3) := by decide +kernel
theorem dX5_isSame_543 : decode cX5_isSame 543 = .ok (.goto (-188), 3) := by decide +kernel
theorem dX5_isSame_546 : decode cX5_isSame 546 = .ok (.iconst 0, 1) := by decide +kernel
theorem dX5_isSame_547 : decode cX5_isSame 547 = .ok (.istore 5, 2) := by decide +kernel
theorem dX5_isSame_549 : decode cX5_isSame 549 = .ok (.iload 5, 2) := by decide +kernel
theorem dX5_isSame_551 : decode cX5_isSame 551 = .ok (.aload_n 0, 1) := by decide +kernel
theorem dX5_isSame_552 : decode cX5_isSame 552 = .ok (.getfield 25, 3) := by decide +kernel
theorem dX5_isSame_555 : decode cX5_isSame 555 = .ok (.arraylength, 1) := by decide +kernel
theorem dX5_isSame_556 : decode cX5_isSame 556 = .ok (.if_icmp .ge 153, 3) := by decide +kernel
theorem dX5_isSame_559 : decode cX5_isSame 559 = .ok (.aload_n 0, 1) := by decide +kernel
theorem dX5_isSame_560 : decode cX5_isSame 560 = .ok (.getfield 25, 3) := by decide +kernel
theorem dX5_isSame_563 : decode cX5_isSame 563 = .ok (.iload 5, 2) := by decide +kernel
theorem dX5_isSame_565 : decode cX5_isSame 565 = .ok (.aaload, 1) := by decide +kernel
theorem dX5_isSame_566 : decode cX5_isSame 566 = .ok (.astore 6, 2) := by decide +kernel
theorem dX5_isSame_568 : decode cX5_isSame 568 = .ok (.aload 6, 2) := by decide +kernel
theorem dX5_isSame_570 : decode cX5_isSame 570 = .ok (.iconst 2, 1) := by decide +kernel
theorem dX5_isSame_571 : decode cX5_isSame 571 = .ok (.iaload, 1) := by decide +kernel
theorem dX5_isSame_572 : decode cX5_isSame 572 = .ok (.ifCond .le 18, 3) := by decide +kernel
theorem dX5_isSame_575 : decode cX5_isSame 575 = .ok (.aload 6, 2) := by decide +kernel
theorem dX5_isSame_577 : decode cX5_isSame 577 = .ok (.iconst 3, 1) := by decide +kernel
theorem dX5_isSame_578 : decode cX5_isSame 578 = .ok (.iaload, 1) := by decide +kernel
theorem dX5_isSame_579 : decode cX5_isSame 579 = .ok (.aload 6, 2) := by decide +kernel
theorem dX5_isSame_581 : decode cX5_isSame 581 = .ok (.iconst 2, 1) := by decide +kernel
theorem dX5_isSame_582 : decode cX5_isSame 582 = .ok (.iaload, 1) := by decide +kernel
theorem dX5_isSame_583 : decode cX5_isSame 583 = .ok (.if_icmp .lt 7, 3) := by decide +kernel
theorem dX5_isSame_586 : decode cX5_isSame 586 = .ok (.iconst 1, 1) := by decide +kernel
theorem dX5_isSame_587 : decode cX5_isSame 587 = .ok (.goto 4, 3) := by decide +kernel
theorem dX5_isSame_590 : decode cX5_isSame 590 = .ok (.iconst 0, 1) := by decide +kernel
theorem dX5_isSame_591 : decode cX5_isSame 591 = .ok (.istore 7, 2) := by decide +kernel
theorem dX5_isSame_593 : decode cX5_isSame 593 = .ok (.bipush 7, 2) := by decide +kernel
theorem dX5_isSame_595 : decode cX5_isSame 595 = .ok (.newarray .int, 2) := by decide +kernel
theorem dX5_isSame_597 : decode cX5_isSame 597 = .ok (.dup, 1) := by decide +kernel
theorem dX5_isSame_598 : decode cX5_isSame 598 = .ok (.iconst 0, 1) := by decide +kernel
theorem dX5_isSame_599 : decode cX5_isSame 599 = .ok (.aload 6, 2) := by decide +kernel
theorem dX5_isSame_601 : decode cX5_isSame 601 = .ok (.iconst 0, 1) := by decide +kernel
theorem dX5_isSame_602 : decode cX5_isSame 602 = .ok (.iaload, 1) := by decide +kernel
theorem dX5_isSame_603 : decode cX5_isSame 603 = .ok (.iastore, 1) := by decide +kernel
theorem dX5_isSame_604 : decode cX5_isSame 604 = .ok (.dup, 1) := by decide +kernel
theorem dX5_isSame_605 : decode cX5_isSame 605 = .ok (.iconst 1, 1) := by decide +kernel
theorem dX5_isSame_606 : decode cX5_isSame 606 = .ok (.aload 6, 2) := by decide +kernel
theorem dX5_isSame_608 : decode cX5_isSame 608 = .ok (.iconst 1, 1) := by decide +kernel
theorem dX5_isSame_609 : decode cX5_isSame 609 = .ok (.iaload, 1) := by decide +kernel
theorem dX5_isSame_610 : decode cX5_isSame 610 = .ok (.iastore, 1) := by decide +kernel
theorem dX5_isSame_611 : decode cX5_isSame 611 = .ok (.dup, 1) := by decide +kernel
theorem dX5_isSame_612 : decode cX5_isSame 612 = .ok (.iconst 2, 1) := by decide +kernel
theorem dX5_isSame_613 : decode cX5_isSame 613 = .ok (.aload 6, 2) := by decide +kernel
theorem dX5_isSame_615 : decode cX5_isSame 615 = .ok (.iconst 3, 1) := by decide +kernel
theorem dX5_isSame_616 : decode cX5_isSame 616 = .ok (.iaload, 1) := by decide +kernel
theorem dX5_isSame_617 : decode cX5_isSame 617 = .ok (.iastore, 1) := by decide +kernel
theorem dX5_isSame_618 : decode cX5_isSame 618 = .ok (.dup, 1) := by decide +kernel
theorem dX5_isSame_619 : decode cX5_isSame 619 = .ok (.iconst 3, 1) := by decide +kernel
theorem dX5_isSame_620 : decode cX5_isSame 620 = .ok (.iload 7, 2) := by decide +kernel
theorem dX5_isSame_622 : decode cX5_isSame 622 = .ok (.ifCond .eq 7, 3) := by decide +kernel
theorem dX5_isSame_625 : decode cX5_isSame 625 = .ok (.iconst 1, 1) := by decide +kernel
theorem dX5_isSame_626 : decode cX5_isSame 626 = .ok (.goto 4, 3) := by decide +kernel
theorem dX5_isSame_629 : decode cX5_isSame 629 = .ok (.iconst 0, 1) := by decide +kernel
theorem dX5_isSame_630 : decode cX5_isSame 630 = .ok (.iastore, 1) := by decide +kernel
theorem dX5_isSame_631 : decode cX5_isSame 631 = .ok (.dup, 1) := by decide +kernel
theorem dX5_isSame_632 : decode cX5_isSame 632 = .ok (.iconst 4, 1) := by decide +kernel
theorem dX5_isSame_633 : decode cX5_isSame 633 = .ok (.aload_n 0, 1) := by decide +kernel
theorem dX5_isSame_634 : decode cX5_isSame 634 = .ok (.iload 5, 2) := by decide +kernel
theorem dX5_isSame_636 : decode cX5_isSame 636 = .ok (.invokevirtual 68, 3) := by decide +kernel
theorem dX5_isSame_639 : decode cX5_isSame 639 = .ok (.ifCond .eq 7, 3) := by decide +kernel
theorem dX5_isSame_642 : decode cX5_isSame 642 = .ok (.iconst 1, 1) := by decide +kernel
theorem dX5_isSame_643 : decode cX5_isSame 643 = .ok (.goto 4, 3) := by decide +kernel
theorem dX5_isSame_646 : decode cX5_isSame 646 = .ok (.iconst 0, 1) := by decide +kernel
theorem dX5_isSame_647 : decode cX5_isSame 647 = .ok (.iastore, 1) := by decide +kernel
theorem dX5_isSame_648 : decode cX5_isSame 648 = .ok (.dup, 1) := by decide +kernel
theorem dX5_isSame_649 : decode cX5_isSame 649 = .ok (.iconst 5, 1) := by decide +kernel
theorem dX5_isSame_650 : decode cX5_isSame 650 = .ok (.aload 6, 2) := by decide +kernel
theorem dX5_isSame_652 : decode cX5_isSame 652 = .ok (.iconst 1, 1) := by decide +kernel
theorem dX5_isSame_653 : decode cX5_isSame 653 = .ok (.invokestatic 64, 3) := by decide +kernel
theorem dX5_isSame_656 : decode cX5_isSame 656 = .ok (.iastore, 1) := by decide +kernel
theorem dX5_isSame_657 : decode cX5_isSame 657 = .ok (.dup, 1) := by decide +kernel
theorem dX5_isSame_658 : decode cX5_isSame 658 = .ok (.bipush 6, 2) := by decide +kernel
theorem dX5_isSame_660 : decode cX5_isSame 660 = .ok (.aload 6, 2) := by decide +kernel
theorem dX5_isSame_662 : decode cX5_isSame 662 = .ok (.iconst 0, 1) := by decide +kernel
theorem dX5_isSame_663 : decode cX5_isSame 663 = .ok (.invokestatic 64, 3) := by decide +kernel
theorem dX5_isSame_666 : decode cX5_isSame 666 = .ok (.iastore, 1) := by decide +kernel
theorem dX5_isSame_667 : decode cX5_isSame 667 = .ok (.astore 8, 2) := by decide +kernel
theorem dX5_isSame_669 : decode cX5_isSame 669 = .ok (.iconst 0, 1) := by decide +kernel
theorem dX5_isSame_670 : decode cX5_isSame 670 = .ok (.istore 9, 2) := by decide +kernel
theorem dX5_isSame_672 : decode cX5_isSame 672 = .ok (.iload 9, 2) := by decide +kernel
theorem dX5_isSame_674 : decode cX5_isSame 674 = .ok (.bipush 7, 2) := by decide +kernel
theorem dX5_isSame_676 : decode cX5_isSame 676 = .ok (.if_icmp .ge 27, 3) := by decide +kernel
theorem dX5_isSame_679 : decode cX5_isSame 679 = .ok (.aload_n 1, 1) := by decide +kernel
theorem dX5_isSame_680 : decode cX5_isSame 680 = .ok (.iload 5, 2) := by decide +kernel
theorem dX5_isSame_682 : decode cX5_isSame 682 = .ok (.iload 9, 2) := by decide +kernel
theorem dX5_isSame_684 : decode cX5_isSame 684 = .ok (.invokevirtual 97, 3) := by decide +kernel
theorem dX5_isSame_687 : decode cX5_isSame 687 = .ok (.aload 8, 2) := by decide +kernel
theorem dX5_isSame_689 : decode cX5_isSame 689 = .ok (.iload 9, 2) := by decide +kernel
theorem dX5_isSame_691 : decode cX5_isSame 691 = .ok (.iaload, 1) := by decide +kernel
theorem dX5_isSame_692 : decode cX5_isSame 692 = .ok (.if_icmp .eq 5, 3) := by decide +kernel
theorem dX5_isSame_695 : decode cX5_isSame 695 = .ok (.iconst 0, 1) := by decide +kernel
theorem dX5_isSame_696 : decode cX5_isSame 696 = .ok (.ireturn, 1) := by decide +kernel
theorem dX5_isSame_697 : decode cX5_isSame 697 = .ok (.iinc 9 1, 3) := by decide +kernel
theorem dX5_isSame_700 : decode cX5_isSame 700 = .ok (.goto (-28), 3) := by decide +kernel
theorem dX5_isSame_703 : decode cX5_isSame 703 = .ok (.iinc 5 1, 3) := by decide +kernel
theorem dX5_isSame_706 : decode cX5_isSame 706 = .ok (.goto (-157), 3) := by decide +kernel
theorem dX5_isSame_709 : decode cX5_isSame 709 = .ok (.iconst 0, 1) := by decide +kernel
theorem dX5_isSame_710 : decode cX5_isSame 710 = .ok (.istore 5, 2) := by decide +kernel
theorem dX5_isSame_712 : decode cX5_isSame 712 = .ok (.iload 5, 2) := by decide +kernel
theorem dX5_isSame_714 : decode cX5_isSame 714 = .ok (.bipush 9, 2) := by decide +kernel
theorem dX5_isSame_716 : decode cX5_isSame 716 = .ok (.if_icmp .ge 24, 3) := by decide +kernel
theorem dX5_isSame_719 : decode cX5_isSame 719 = .ok (.aload_n 1, 1) := by decide +kernel
theorem dX5_isSame_720 : decode cX5_isSame 720 = .ok (.iload 5, 2) := by decide +kernel
theorem dX5_isSame_722 : decode cX5_isSame 722 = .ok (.invokevirtual 100, 3) := by decide +kernel
theorem dX5_isSame_725 : decode cX5_isSame 725 = .ok (.aload_n 2, 1) := by decide +kernel
theorem dX5_isSame_726 : decode cX5_isSame 726 = .ok (.iload 5, 2) := by decide +kernel
theorem dX5_isSame_728 : decode cX5_isSame 728 = .ok (.iaload, 1) := by decide +kernel
theorem dX5_isSame_729 : decode cX5_isSame 729 = .ok (.if_icmp .eq 5, 3) := by decide +kernel
theorem dX5_isSame_732 : decode cX5_isSame 732 = .ok (.iconst 0, 1) := by decide +kernel
theorem dX5_isSame_733 : decode cX5_isSame 733 = .ok (.ireturn, 1) := by decide +kernel
theorem dX5_isSame_734 : decode cX5_isSame 734 = .ok (.iinc 5 1, 3) := by decide +kernel
theorem dX5_isSame_737 : decode cX5_isSame 737 = .ok (.goto (-25), 3) := by decide +kernel
theorem dX5_isSame_740 : decode cX5_isSame 740 = .ok (.aload_n 1, 1) := by decide +kernel
theorem dX5_isSame_741 : decode cX5_isSame 741 = .ok (.invokevirtual 103, 3) := by decide +kernel
theorem dX5_isSame_744 : decode cX5_isSame 744 = .ok (.aload_n 0, 1) := by decide +kernel
theorem dX5_isSame_745 : decode cX5_isSame 745 = .ok (.getfield 22, 3) := by decide +kernel
theorem dX5_isSame_748 : decode cX5_isSame 748 = .ok (.arraylength, 1) := by decide +kernel
theorem dX5_isSame_749 : decode cX5_isSame 749 = .ok (.ifCond .ne 7, 3) := by decide +kernel
theorem dX5_isSame_752 : decode cX5_isSame 752 = .ok (.dconst 0, 1) := by decide +kernel
theorem dX5_isSame_753 : decode cX5_isSame 753 = .ok (.goto 13, 3) := by decide +kernel
theorem dX5_isSame_756 : decode cX5_isSame 756 = .ok (.iload 4, 2) := by decide +kernel
theorem dX5_isSame_758 : decode cX5_isSame 758 = .ok (.i2d, 1) := by decide +kernel
theorem dX5_isSame_759 : decode cX5_isSame 759 = .ok (.aload_n 0, 1) := by decide +kernel
theorem dX5_isSame_760 : decode cX5_isSame 760 = .ok (.getfield 22, 3) := by decide +kernel
theorem dX5_isSame_763 : decode cX5_isSame 763 = .ok (.arraylength, 1) := by decide +kernel
theorem dX5_isSame_764 : decode cX5_isSame 764 = .ok (.i2d, 1) := by decide +kernel
theorem dX5_isSame_765 : decode cX5_isSame 765 = .ok (.ddiv, 1) := by decide +kernel
theorem dX5_isSame_766 : decode cX5_isSame 766 = .ok (.dcmp .l, 1) := by decide +kernel
theorem dX5_isSame_767 : decode cX5_isSame 767 = .ok (.ifCond .ne 7, 3) := by decide +kernel
theorem dX5_isSame_770 : decode cX5_isSame 770 = .ok (.iconst 1, 1) := by decide +kernel
theorem dX5_isSame_771 : decode cX5_isSame 771 = .ok (.goto 4, 3) := by decide +kernel
theorem dX5_isSame_774 : decode cX5_isSame 774 = .ok (.iconst 0, 1) := by decide +kernel
theorem dX5_isSame_775 : decode cX5_isSame 775 = .ok (.ireturn, 1) := by decide +kernel
