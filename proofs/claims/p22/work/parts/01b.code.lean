theorem dX0_init_0 : decode cX0_init 0 = .ok (.aload_n 0, 1) := by decide +kernel
theorem dX0_init_1 : decode cX0_init 1 = .ok (.invokespecial 3, 3) := by decide +kernel
theorem dX0_init_4 : decode cX0_init 4 = .ok (.aload_n 0, 1) := by decide +kernel
theorem dX0_init_5 : decode cX0_init 5 = .ok (.iconst 0, 1) := by decide +kernel
theorem dX0_init_6 : decode cX0_init 6 = .ok (.putfield 9, 3) := by decide +kernel
theorem dX0_init_9 : decode cX0_init 9 = .ok (.aload_n 0, 1) := by decide +kernel
theorem dX0_init_10 : decode cX0_init 10 = .ok (.iconst 5, 1) := by decide +kernel
theorem dX0_init_11 : decode cX0_init 11 = .ok (.newarray .int, 2) := by decide +kernel
theorem dX0_init_13 : decode cX0_init 13 = .ok (.putfield 15, 3) := by decide +kernel
theorem dX0_init_16 : decode cX0_init 16 = .ok (.aload_n 0, 1) := by decide +kernel
theorem dX0_init_17 : decode cX0_init 17 = .ok (.iconst 5, 1) := by decide +kernel
theorem dX0_init_18 : decode cX0_init 18 = .ok (.newarray .int, 2) := by decide +kernel
theorem dX0_init_20 : decode cX0_init 20 = .ok (.putfield 19, 3) := by decide +kernel
theorem dX0_init_23 : decode cX0_init 23 = .ok (.aload_n 0, 1) := by decide +kernel
theorem dX0_init_24 : decode cX0_init 24 = .ok (.iconst 5, 1) := by decide +kernel
theorem dX0_init_25 : decode cX0_init 25 = .ok (.newarray .int, 2) := by decide +kernel
theorem dX0_init_27 : decode cX0_init 27 = .ok (.putfield 22, 3) := by decide +kernel
theorem dX0_init_30 : decode cX0_init 30 = .ok (.return_, 1) := by decide +kernel
theorem dX0_add_0 : decode cX0_add 0 = .ok (.aload_n 0, 1) := by decide +kernel
theorem dX0_add_1 : decode cX0_add 1 = .ok (.getfield 9, 3) := by decide +kernel
theorem dX0_add_4 : decode cX0_add 4 = .ok (.istore_n 3, 1) := by decide +kernel
theorem dX0_add_5 : decode cX0_add 5 = .ok (.aload_n 0, 1) := by decide +kernel
theorem dX0_add_6 : decode cX0_add 6 = .ok (.getfield 15, 3) := by decide +kernel
theorem dX0_add_9 : decode cX0_add 9 = .ok (.iload_n 3, 1) := by decide +kernel
theorem dX0_add_10 : decode cX0_add 10 = .ok (.iload_n 1, 1) := by decide +kernel
theorem dX0_add_11 : decode cX0_add 11 = .ok (.iastore, 1) := by decide +kernel
theorem dX0_add_12 : decode cX0_add 12 = .ok (.aload_n 0, 1) := by decide +kernel
theorem dX0_add_13 : decode cX0_add 13 = .ok (.getfield 19, 3) := by decide +kernel
theorem dX0_add_16 : decode cX0_add 16 = .ok (.iload_n 3, 1) := by decide +kernel
theorem dX0_add_17 : decode cX0_add 17 = .ok (.iload_n 2, 1) := by decide +kernel
theorem dX0_add_18 : decode cX0_add 18 = .ok (.iastore, 1) := by decide +kernel
theorem dX0_add_19 : decode cX0_add 19 = .ok (.aload_n 0, 1) := by decide +kernel
theorem dX0_add_20 : decode cX0_add 20 = .ok (.getfield 22, 3) := by decide +kernel
theorem dX0_add_23 : decode cX0_add 23 = .ok (.iload_n 3, 1) := by decide +kernel
theorem dX0_add_24 : decode cX0_add 24 = .ok (.bipush 50, 2) := by decide +kernel
theorem dX0_add_26 : decode cX0_add 26 = .ok (.iastore, 1) := by decide +kernel
theorem dX0_add_27 : decode cX0_add 27 = .ok (.aload_n 0, 1) := by decide +kernel
theorem dX0_add_28 : decode cX0_add 28 = .ok (.dup, 1) := by decide +kernel
theorem dX0_add_29 : decode cX0_add 29 = .ok (.getfield 9, 3) := by decide +kernel
theorem dX0_add_32 : decode cX0_add 32 = .ok (.iconst 1, 1) := by decide +kernel
theorem dX0_add_33 : decode cX0_add 33 = .ok (.iadd, 1) := by decide +kernel
theorem dX0_add_34 : decode cX0_add 34 = .ok (.putfield 9, 3) := by decide +kernel
theorem dX0_add_37 : decode cX0_add 37 = .ok (.iload_n 3, 1) := by decide +kernel
theorem dX0_add_38 : decode cX0_add 38 = .ok (.ireturn, 1) := by decide +kernel
theorem dX0_allCoins_0 : decode cX0_allCoins 0 = .ok (.iconst 0, 1) := by decide +kernel
theorem dX0_allCoins_1 : decode cX0_allCoins 1 = .ok (.istore_n 1, 1) := by decide +kernel
theorem dX0_allCoins_2 : decode cX0_allCoins 2 = .ok (.iconst 0, 1) := by decide +kernel
theorem dX0_allCoins_3 : decode cX0_allCoins 3 = .ok (.istore_n 2, 1) := by decide +kernel
theorem dX0_allCoins_4 : decode cX0_allCoins 4 = .ok (.iload_n 2, 1) := by decide +kernel
theorem dX0_allCoins_5 : decode cX0_allCoins 5 = .ok (.aload_n 0, 1) := by decide +kernel
theorem dX0_allCoins_6 : decode cX0_allCoins 6 = .ok (.getfield 9, 3) := by decide +kernel
theorem dX0_allCoins_9 : decode cX0_allCoins 9 = .ok (.if_icmp .ge 18, 3) := by decide +kernel
theorem dX0_allCoins_12 : decode cX0_allCoins 12 = .ok (.iload_n 1, 1) := by decide +kernel
theorem dX0_allCoins_13 : decode cX0_allCoins 13 = .ok (.aload_n 0, 1) := by decide +kernel
theorem dX0_allCoins_14 : decode cX0_allCoins 14 = .ok (.getfield 22, 3) := by decide +kernel
theorem dX0_allCoins_17 : decode cX0_allCoins 17 = .ok (.iload_n 2, 1) := by decide +kernel
theorem dX0_allCoins_18 : decode cX0_allCoins 18 = .ok (.iaload, 1) := by decide +kernel
theorem dX0_allCoins_19 : decode cX0_allCoins 19 = .ok (.iadd, 1) := by decide +kernel
theorem dX0_allCoins_20 : decode cX0_allCoins 20 = .ok (.istore_n 1, 1) := by decide +kernel
theorem dX0_allCoins_21 : decode cX0_allCoins 21 = .ok (.iinc 2 1, 3) := by decide +kernel
theorem dX0_allCoins_24 : decode cX0_allCoins 24 = .ok (.goto (-20), 3) := by decide +kernel
theorem dX0_allCoins_27 : decode cX0_allCoins 27 = .ok (.iload_n 1, 1) := by decide +kernel
theorem dX0_allCoins_28 : decode cX0_allCoins 28 = .ok (.ireturn, 1) := by decide +kernel
theorem dX1_init_0 : decode cX1_init 0 = .ok (.aload_n 0, 1) := by decide +kernel
theorem dX1_init_1 : decode cX1_init 1 = .ok (.invokespecial 5, 3) := by decide +kernel
theorem dX1_init_4 : decode cX1_init 4 = .ok (.aload_n 0, 1) := by decide +kernel
theorem dX1_init_5 : decode cX1_init 5 = .ok (.iconst 0, 1) := by decide +kernel
theorem dX1_init_6 : decode cX1_init 6 = .ok (.putfield 11, 3) := by decide +kernel
theorem dX1_init_9 : decode cX1_init 9 = .ok (.aload_n 0, 1) := by decide +kernel
theorem dX1_init_10 : decode cX1_init 10 = .ok (.sipush 400, 3) := by decide +kernel
theorem dX1_init_13 : decode cX1_init 13 = .ok (.newarray .int, 2) := by decide +kernel
theorem dX1_init_15 : decode cX1_init 15 = .ok (.putfield 15, 3) := by decide +kernel
theorem dX1_init_18 : decode cX1_init 18 = .ok (.aload_n 0, 1) := by decide +kernel
theorem dX1_init_19 : decode cX1_init 19 = .ok (.getfield 15, 3) := by decide +kernel
theorem dX1_init_22 : decode cX1_init 22 = .ok (.iconst (-1), 1) := by decide +kernel
theorem dX1_init_23 : decode cX1_init 23 = .ok (.invokestatic 19, 3) := by decide +kernel
theorem dX1_init_26 : decode cX1_init 26 = .ok (.aload_n 0, 1) := by decide +kernel
theorem dX1_init_27 : decode cX1_init 27 = .ok (.bipush 118, 2) := by decide +kernel
theorem dX1_init_29 : decode cX1_init 29 = .ok (.newarray .int, 2) := by decide +kernel
theorem dX1_init_31 : decode cX1_init 31 = .ok (.putfield 25, 3) := by decide +kernel
theorem dX1_init_34 : decode cX1_init 34 = .ok (.return_, 1) := by decide +kernel
theorem dX1_standsAt_0 : decode cX1_standsAt 0 = .ok (.aload_n 0, 1) := by decide +kernel
theorem dX1_standsAt_1 : decode cX1_standsAt 1 = .ok (.getfield 15, 3) := by decide +kernel
theorem dX1_standsAt_4 : decode cX1_standsAt 4 = .ok (.iload_n 1, 1) := by decide +kernel
theorem dX1_standsAt_5 : decode cX1_standsAt 5 = .ok (.iaload, 1) := by decide +kernel
theorem dX1_standsAt_6 : decode cX1_standsAt 6 = .ok (.iconst (-1), 1) := by decide +kernel
theorem dX1_standsAt_7 : decode cX1_standsAt 7 = .ok (.if_icmp .eq 7, 3) := by decide +kernel
theorem dX1_standsAt_10 : decode cX1_standsAt 10 = .ok (.iconst 1, 1) := by decide +kernel
theorem dX1_standsAt_11 : decode cX1_standsAt 11 = .ok (.goto 4, 3) := by decide +kernel
theorem dX1_standsAt_14 : decode cX1_standsAt 14 = .ok (.iconst 0, 1) := by decide +kernel
theorem dX1_standsAt_15 : decode cX1_standsAt 15 = .ok (.ireturn, 1) := by decide +kernel
theorem dX1_add_0 : decode cX1_add 0 = .ok (.aload_n 0, 1) := by decide +kernel
theorem dX1_add_1 : decode cX1_add 1 = .ok (.getfield 15, 3) := by decide +kernel
theorem dX1_add_4 : decode cX1_add 4 = .ok (.iload_n 1, 1) := by decide +kernel
theorem dX1_add_5 : decode cX1_add 5 = .ok (.iload_n 2, 1) := by decide +kernel
theorem dX1_add_6 : decode cX1_add 6 = .ok (.iastore, 1) := by decide +kernel
theorem dX1_add_7 : decode cX1_add 7 = .ok (.aload_n 0, 1) := by decide +kernel
theorem dX1_add_8 : decode cX1_add 8 = .ok (.dup, 1) := by decide +kernel
theorem dX1_add_9 : decode cX1_add 9 = .ok (.getfield 11, 3) := by decide +kernel
theorem dX1_add_12 : decode cX1_add 12 = .ok (.iconst 1, 1) := by decide +kernel
theorem dX1_add_13 : decode cX1_add 13 = .ok (.iadd, 1) := by decide +kernel
theorem dX1_add_14 : decode cX1_add 14 = .ok (.putfield 11, 3) := by decide +kernel
theorem dX1_add_17 : decode cX1_add 17 = .ok (.return_, 1) := by decide +kernel
theorem dX1_remove_0 : decode cX1_remove 0 = .ok (.aload_n 0, 1) := by decide +kernel
theorem dX1_remove_1 : decode cX1_remove 1 = .ok (.getfield 15, 3) := by decide +kernel
theorem dX1_remove_4 : decode cX1_remove 4 = .ok (.iload_n 1, 1) := by decide +kernel
theorem dX1_remove_5 : decode cX1_remove 5 = .ok (.iaload, 1) := by decide +kernel
theorem dX1_remove_6 : decode cX1_remove 6 = .ok (.istore_n 2, 1) := by decide +kernel
theorem dX1_remove_7 : decode cX1_remove 7 = .ok (.aload_n 0, 1) := by decide +kernel
theorem dX1_remove_8 : decode cX1_remove 8 = .ok (.getfield 15, 3) := by decide +kernel
theorem dX1_remove_11 : decode cX1_remove 11 = .ok (.iload_n 1, 1) := by decide +kernel
theorem dX1_remove_12 : decode cX1_remove 12 = .ok (.iconst (-1), 1) := by decide +kernel
theorem dX1_remove_13 : decode cX1_remove 13 = .ok (.iastore, 1) := by decide +kernel
theorem dX1_remove_14 : decode cX1_remove 14 = .ok (.aload_n 0, 1) := by decide +kernel
theorem dX1_remove_15 : decode cX1_remove 15 = .ok (.dup, 1) := by decide +kernel
theorem dX1_remove_16 : decode cX1_remove 16 = .ok (.getfield 11, 3) := by decide +kernel
theorem dX1_remove_19 : decode cX1_remove 19 = .ok (.iconst 1, 1) := by decide +kernel
theorem dX1_remove_20 : decode cX1_remove 20 = .ok (.isub, 1) := by decide +kernel
theorem dX1_remove_21 : decode cX1_remove 21 = .ok (.putfield 11, 3) := by decide +kernel
theorem dX1_remove_24 : decode cX1_remove 24 = .ok (.iload_n 2, 1) := by decide +kernel
theorem dX1_remove_25 : decode cX1_remove 25 = .ok (.ireturn, 1) := by decide +kernel
theorem dX1_standingOf_0 : decode cX1_standingOf 0 = .ok (.iconst 0, 1) := by decide +kernel
theorem dX1_standingOf_1 : decode cX1_standingOf 1 = .ok (.istore_n 2, 1) := by decide +kernel
theorem dX1_standingOf_2 : decode cX1_standingOf 2 = .ok (.iconst 0, 1) := by decide +kernel
theorem dX1_standingOf_3 : decode cX1_standingOf 3 = .ok (.istore_n 3, 1) := by decide +kernel
theorem dX1_standingOf_4 : decode cX1_standingOf 4 = .ok (.iload_n 3, 1) := by decide +kernel
theorem dX1_standingOf_5 : decode cX1_standingOf 5 = .ok (.sipush 400, 3) := by decide +kernel
theorem dX1_standingOf_8 : decode cX1_standingOf 8 = .ok (.if_icmp .ge 22, 3) := by decide +kernel
theorem dX1_standingOf_11 : decode cX1_standingOf 11 = .ok (.aload_n 0, 1) := by decide +kernel
theorem dX1_standingOf_12 : decode cX1_standingOf 12 = .ok (.getfield 15, 3) := by decide +kernel
theorem dX1_standingOf_15 : decode cX1_standingOf 15 = .ok (.iload_n 3, 1) := by decide +kernel
theorem dX1_standingOf_16 : decode cX1_standingOf 16 = .ok (.iaload, 1) := by decide +kernel
theorem dX1_standingOf_17 : decode cX1_standingOf 17 = .ok (.iload_n 1, 1) := by decide +kernel
theorem dX1_standingOf_18 : decode cX1_standingOf 18 = .ok (.if_icmp .ne 6, 3) := by decide +kernel
theorem dX1_standingOf_21 : decode cX1_standingOf 21 = .ok (.iinc 2 1, 3) := by decide +kernel
theorem dX1_standingOf_24 : decode cX1_standingOf 24 = .ok (.iinc 3 1, 3) := by decide +kernel
theorem dX1_standingOf_27 : decode cX1_standingOf 27 = .ok (.goto (-23), 3) := by decide +kernel
theorem dX1_standingOf_30 : decode cX1_standingOf 30 = .ok (.iload_n 2, 1) := by decide +kernel
theorem dX1_standingOf_31 : decode cX1_standingOf 31 = .ok (.ireturn, 1) := by decide +kernel
theorem dX1_besides_0 : decode cX1_besides 0 = .ok (.iload_n 1, 1) := by decide +kernel
theorem dX1_besides_1 : decode cX1_besides 1 = .ok (.invokestatic 28, 3) := by decide +kernel
theorem dX1_besides_4 : decode cX1_besides 4 = .ok (.istore_n 2, 1) := by decide +kernel
theorem dX1_besides_5 : decode cX1_besides 5 = .ok (.iload_n 1, 1) := by decide +kernel
theorem dX1_besides_6 : decode cX1_besides 6 = .ok (.invokestatic 32, 3) := by decide +kernel
theorem dX1_besides_9 : decode cX1_besides 9 = .ok (.istore_n 3, 1) := by decide +kernel
theorem dX1_besides_10 : decode cX1_besides 10 = .ok (.aload_n 0, 1) := by decide +kernel
theorem dX1_besides_11 : decode cX1_besides 11 = .ok (.iload_n 2, 1) := by decide +kernel
theorem dX1_besides_12 : decode cX1_besides 12 = .ok (.iconst 1, 1) := by decide +kernel
theorem dX1_besides_13 : decode cX1_besides 13 = .ok (.isub, 1) := by decide +kernel
theorem dX1_besides_14 : decode cX1_besides 14 = .ok (.iload_n 3, 1) := by decide +kernel
theorem dX1_besides_15 : decode cX1_besides 15 = .ok (.invokevirtual 35, 3) := by decide +kernel
theorem dX1_besides_18 : decode cX1_besides 18 = .ok (.aload_n 0, 1) := by decide +kernel
theorem dX1_besides_19 : decode cX1_besides 19 = .ok (.iload_n 2, 1) := by decide +kernel
theorem dX1_besides_20 : decode cX1_besides 20 = .ok (.iconst 1, 1) := by decide +kernel
theorem dX1_besides_21 : decode cX1_besides 21 = .ok (.iadd, 1) := by decide +kernel
theorem dX1_besides_22 : decode cX1_besides 22 = .ok (.iload_n 3, 1) := by decide +kernel
theorem dX1_besides_23 : decode cX1_besides 23 = .ok (.invokevirtual 35, 3) := by decide +kernel
theorem dX1_besides_26 : decode cX1_besides 26 = .ok (.iadd, 1) := by decide +kernel
theorem dX1_besides_27 : decode cX1_besides 27 = .ok (.aload_n 0, 1) := by decide +kernel
theorem dX1_besides_28 : decode cX1_besides 28 = .ok (.iload_n 2, 1) := by decide +kernel
theorem dX1_besides_29 : decode cX1_besides 29 = .ok (.iload_n 3, 1) := by decide +kernel
theorem dX1_besides_30 : decode cX1_besides 30 = .ok (.iconst 1, 1) := by decide +kernel
theorem dX1_besides_31 : decode cX1_besides 31 = .ok (.isub, 1) := by decide +kernel
theorem dX1_besides_32 : decode cX1_besides 32 = .ok (.invokevirtual 35, 3) := by decide +kernel
theorem dX1_besides_35 : decode cX1_besides 35 = .ok (.iadd, 1) := by decide +kernel
theorem dX1_besides_36 : decode cX1_besides 36 = .ok (.aload_n 0, 1) := by decide +kernel
theorem dX1_besides_37 : decode cX1_besides 37 = .ok (.iload_n 2, 1) := by decide +kernel
theorem dX1_besides_38 : decode cX1_besides 38 = .ok (.iload_n 3, 1) := by decide +kernel
theorem dX1_besides_39 : decode cX1_besides 39 = .ok (.iconst 1, 1) := by decide +kernel
theorem dX1_besides_40 : decode cX1_besides 40 = .ok (.iadd, 1) := by decide +kernel
theorem dX1_besides_41 : decode cX1_besides 41 = .ok (.invokevirtual 35, 3) := by decide +kernel
theorem dX1_besides_44 : decode cX1_besides 44 = .ok (.iadd, 1) := by decide +kernel
theorem dX1_besides_45 : decode cX1_besides 45 = .ok (.ireturn, 1) := by decide +kernel
theorem dX1_pegsAt_0 : decode cX1_pegsAt 0 = .ok (.iload_n 1, 1) := by decide +kernel
theorem dX1_pegsAt_1 : decode cX1_pegsAt 1 = .ok (.iload_n 2, 1) := by decide +kernel
theorem dX1_pegsAt_2 : decode cX1_pegsAt 2 = .ok (.invokestatic 39, 3) := by decide +kernel
theorem dX1_pegsAt_5 : decode cX1_pegsAt 5 = .ok (.ifCond .eq 19, 3) := by decide +kernel
theorem dX1_pegsAt_8 : decode cX1_pegsAt 8 = .ok (.aload_n 0, 1) := by decide +kernel
theorem dX1_pegsAt_9 : decode cX1_pegsAt 9 = .ok (.iload_n 1, 1) := by decide +kernel
theorem dX1_pegsAt_10 : decode cX1_pegsAt 10 = .ok (.iload_n 2, 1) := by decide +kernel
theorem dX1_pegsAt_11 : decode cX1_pegsAt 11 = .ok (.invokestatic 43, 3) := by decide +kernel
theorem dX1_pegsAt_14 : decode cX1_pegsAt 14 = .ok (.invokevirtual 46, 3) := by decide +kernel
theorem dX1_pegsAt_17 : decode cX1_pegsAt 17 = .ok (.ifCond .eq 7, 3) := by decide +kernel
theorem dX1_pegsAt_20 : decode cX1_pegsAt 20 = .ok (.iconst 1, 1) := by decide +kernel
theorem dX1_pegsAt_21 : decode cX1_pegsAt 21 = .ok (.goto 4, 3) := by decide +kernel
theorem dX1_pegsAt_24 : decode cX1_pegsAt 24 = .ok (.iconst 0, 1) := by decide +kernel
theorem dX1_pegsAt_25 : decode cX1_pegsAt 25 = .ok (.ireturn, 1) := by decide +kernel
theorem dX1_nearest_0 : decode cX1_nearest 0 = .ok (.iconst (-1), 1) := by decide +kernel
theorem dX1_nearest_1 : decode cX1_nearest 1 = .ok (.istore_n 2, 1) := by decide +kernel
theorem dX1_nearest_2 : decode cX1_nearest 2 = .ok (.iconst 0, 1) := by decide +kernel
theorem dX1_nearest_3 : decode cX1_nearest 3 = .ok (.istore_n 3, 1) := by decide +kernel
theorem dX1_nearest_4 : decode cX1_nearest 4 = .ok (.iload_n 3, 1) := by decide +kernel
theorem dX1_nearest_5 : decode cX1_nearest 5 = .ok (.sipush 400, 3) := by decide +kernel
theorem dX1_nearest_8 : decode cX1_nearest 8 = .ok (.if_icmp .ge 36, 3) := by decide +kernel
theorem dX1_nearest_11 : decode cX1_nearest 11 = .ok (.aload_n 0, 1) := by decide +kernel
theorem dX1_nearest_12 : decode cX1_nearest 12 = .ok (.iload_n 3, 1) := by decide +kernel
theorem dX1_nearest_13 : decode cX1_nearest 13 = .ok (.invokevirtual 46, 3) := by decide +kernel
theorem dX1_nearest_16 : decode cX1_nearest 16 = .ok (.ifCond .eq 22, 3) := by decide +kernel
theorem dX1_nearest_19 : decode cX1_nearest 19 = .ok (.iload_n 2, 1) := by decide +kernel
theorem dX1_nearest_20 : decode cX1_nearest 20 = .ok (.ifCond .lt 12, 3) := by decide +kernel
theorem dX1_nearest_23 : decode cX1_nearest 23 = .ok (.iload_n 1, 1) := by decide +kernel
theorem dX1_nearest_24 : decode cX1_nearest 24 = .ok (.iload_n 3, 1) := by decide +kernel
theorem dX1_nearest_25 : decode cX1_nearest 25 = .ok (.invokestatic 50, 3) := by decide +kernel
theorem dX1_nearest_28 : decode cX1_nearest 28 = .ok (.iload_n 2, 1) := by decide +kernel
theorem dX1_nearest_29 : decode cX1_nearest 29 = .ok (.if_icmp .ge 9, 3) := by decide +kernel
theorem dX1_nearest_32 : decode cX1_nearest 32 = .ok (.iload_n 1, 1) := by decide +kernel
theorem dX1_nearest_33 : decode cX1_nearest 33 = .ok (.iload_n 3, 1) := by decide +kernel
theorem dX1_nearest_34 : decode cX1_nearest 34 = .ok (.invokestatic 50, 3) := by decide +kernel
theorem dX1_nearest_37 : decode cX1_nearest 37 = .ok (.istore_n 2, 1) := by decide +kernel
theorem dX1_nearest_38 : decode cX1_nearest 38 = .ok (.iinc 3 1, 3) := by decide +kernel
theorem dX1_nearest_41 : decode cX1_nearest 41 = .ok (.goto (-37), 3) := by decide +kernel
theorem dX1_nearest_44 : decode cX1_nearest 44 = .ok (.iload_n 2, 1) := by decide +kernel
theorem dX1_nearest_45 : decode cX1_nearest 45 = .ok (.ireturn, 1) := by decide +kernel
theorem dX1_tellFullestLine_0 : decode cX1_tellFullestLine 0 = .ok (.aload_n 0, 1) := by decide +kernel
theorem dX1_tellFullestLine_1 : decode cX1_tellFullestLine 1 = .ok (.invokevirtual 53, 3) := by decide +kernel
theorem dX1_tellFullestLine_4 : decode cX1_tellFullestLine 4 = .ok (.aload_n 0, 1) := by decide +kernel
theorem dX1_tellFullestLine_5 : decode cX1_tellFullestLine 5 = .ok (.invokevirtual 56, 3) := by decide +kernel
theorem dX1_tellFullestLine_8 : decode cX1_tellFullestLine 8 = .ok (.istore_n 2, 1) := by decide +kernel
theorem dX1_tellFullestLine_9 : decode cX1_tellFullestLine 9 = .ok (.iload_n 1, 1) := by decide +kernel
theorem dX1_tellFullestLine_10 : decode cX1_tellFullestLine 10 = .ok (.ifCond .ne 10, 3) := by decide +kernel
theorem dX1_tellFullestLine_13 : decode cX1_tellFullestLine 13 = .ok (.aload_n 0, 1) := by decide +kernel
theorem dX1_tellFullestLine_14 : decode cX1_tellFullestLine 14 = .ok (.getfield 25, 3) := by decide +kernel
theorem dX1_tellFullestLine_17 : decode cX1_tellFullestLine 17 = .ok (.iload_n 2, 1) := by decide +kernel
theorem dX1_tellFullestLine_18 : decode cX1_tellFullestLine 18 = .ok (.iaload, 1) := by decide +kernel
theorem dX1_tellFullestLine_19 : decode cX1_tellFullestLine 19 = .ok (.ireturn, 1) := by decide +kernel
theorem dX1_tellFullestLine_20 : decode cX1_tellFullestLine 20 = .ok (.aload_n 0, 1) := by decide +kernel
theorem dX1_tellFullestLine_21 : decode cX1_tellFullestLine 21 = .ok (.getfield 11, 3) := by decide +kernel
theorem dX1_tellFullestLine_24 : decode cX1_tellFullestLine 24 = .ok (.ifCond .ne 5, 3) := by decide +kernel
theorem dX1_tellFullestLine_27 : decode cX1_tellFullestLine 27 = .ok (.iconst (-1), 1) := by decide +kernel
theorem dX1_tellFullestLine_28 : decode cX1_tellFullestLine 28 = .ok (.ireturn, 1) := by decide +kernel
theorem dX1_tellFullestLine_29 : decode cX1_tellFullestLine 29 = .ok (.iload_n 1, 1) := by decide +kernel
theorem dX1_tellFullestLine_30 : decode cX1_tellFullestLine 30 = .ok (.iconst 1, 1) := by decide +kernel
theorem dX1_tellFullestLine_31 : decode cX1_tellFullestLine 31 = .ok (.if_icmp .ne 10, 3) := by decide +kernel
theorem dX1_tellFullestLine_34 : decode cX1_tellFullestLine 34 = .ok (.iload_n 2, 1) := by decide +kernel
theorem dX1_tellFullestLine_35 : decode cX1_tellFullestLine 35 = .ok (.invokestatic 60, 3) := by decide +kernel
theorem dX1_tellFullestLine_38 : decode cX1_tellFullestLine 38 = .ok (.goto 7, 3) := by decide +kernel
theorem dX1_tellFullestLine_41 : decode cX1_tellFullestLine 41 = .ok (.iload_n 2, 1) := by decide +kernel
theorem dX1_tellFullestLine_42 : decode cX1_tellFullestLine 42 = .ok (.invokestatic 63, 3) := by decide +kernel
theorem dX1_tellFullestLine_45 : decode cX1_tellFullestLine 45 = .ok (.ireturn, 1) := by decide +kernel
theorem dX1_countByLine_0 : decode cX1_countByLine 0 = .ok (.aload_n 0, 1) := by decide +kernel
theorem dX1_countByLine_1 : decode cX1_countByLine 1 = .ok (.getfield 25, 3) := by decide +kernel
theorem dX1_countByLine_4 : decode cX1_countByLine 4 = .ok (.iconst 0, 1) := by decide +kernel
theorem dX1_countByLine_5 : decode cX1_countByLine 5 = .ok (.invokestatic 19, 3) := by decide +kernel
theorem dX1_countByLine_8 : decode cX1_countByLine 8 = .ok (.iconst 0, 1) := by decide +kernel
theorem dX1_countByLine_9 : decode cX1_countByLine 9 = .ok (.istore_n 1, 1) := by decide +kernel
theorem dX1_countByLine_10 : decode cX1_countByLine 10 = .ok (.iload_n 1, 1) := by decide +kernel
theorem dX1_countByLine_11 : decode cX1_countByLine 11 = .ok (.sipush 400, 3) := by decide +kernel
theorem dX1_countByLine_14 : decode cX1_countByLine 14 = .ok (.if_icmp .ge 80, 3) := by decide +kernel
theorem dX1_countByLine_17 : decode cX1_countByLine 17 = .ok (.aload_n 0, 1) := by decide +kernel
theorem dX1_countByLine_18 : decode cX1_countByLine 18 = .ok (.iload_n 1, 1) := by decide +kernel
theorem dX1_countByLine_19 : decode cX1_countByLine 19 = .ok (.invokevirtual 46, 3) := by decide +kernel
theorem dX1_countByLine_22 : decode cX1_countByLine 22 = .ok (.ifCond .eq 66, 3) := by decide +kernel
theorem dX1_countByLine_25 : decode cX1_countByLine 25 = .ok (.iload_n 1, 1) := by decide +kernel
theorem dX1_countByLine_26 : decode cX1_countByLine 26 = .ok (.invokestatic 28, 3) := by decide +kernel
theorem dX1_countByLine_29 : decode cX1_countByLine 29 = .ok (.istore_n 2, 1) := by decide +kernel
theorem dX1_countByLine_30 : decode cX1_countByLine 30 = .ok (.iload_n 1, 1) := by decide +kernel
theorem dX1_countByLine_31 : decode cX1_countByLine 31 = .ok (.invokestatic 32, 3) := by decide +kernel
theorem dX1_countByLine_34 : decode cX1_countByLine 34 = .ok (.istore_n 3, 1) := by decide +kernel
theorem dX1_countByLine_35 : decode cX1_countByLine 35 = .ok (.aload_n 0, 1) := by decide +kernel
theorem dX1_countByLine_36 : decode cX1_countByLine 36 = .ok (.getfield 25, 3) := by decide +kernel
theorem dX1_countByLine_39 : decode cX1_countByLine 39 = .ok (.iload_n 3, 1) := by decide +kernel
theorem dX1_countByLine_40 : decode cX1_countByLine 40 = .ok (.dup2, 1) := by decide +kernel
theorem dX1_countByLine_41 : decode cX1_countByLine 41 = .ok (.iaload, 1) := by decide +kernel
theorem dX1_countByLine_42 : decode cX1_countByLine 42 = .ok (.iconst 1, 1) := by decide +kernel
theorem dX1_countByLine_43 : decode cX1_countByLine 43 = .ok (.iadd, 1) := by decide +kernel
theorem dX1_countByLine_44 : decode cX1_countByLine 44 = .ok (.iastore, 1) := by decide +kernel
theorem dX1_countByLine_45 : decode cX1_countByLine 45 = .ok (.aload_n 0, 1) := by decide +kernel
theorem dX1_countByLine_46 : decode cX1_countByLine 46 = .ok (.getfield 25, 3) := by decide +kernel
theorem dX1_countByLine_49 : decode cX1_countByLine 49 = .ok (.bipush 20, 2) := by decide +kernel
theorem dX1_countByLine_51 : decode cX1_countByLine 51 = .ok (.iload_n 2, 1) := by decide +kernel
theorem dX1_countByLine_52 : decode cX1_countByLine 52 = .ok (.iadd, 1) := by decide +kernel
theorem dX1_countByLine_53 : decode cX1_countByLine 53 = .ok (.dup2, 1) := by decide +kernel
theorem dX1_countByLine_54 : decode cX1_countByLine 54 = .ok (.iaload, 1) := by decide +kernel
theorem dX1_countByLine_55 : decode cX1_countByLine 55 = .ok (.iconst 1, 1) := by decide +kernel
theorem dX1_countByLine_56 : decode cX1_countByLine 56 = .ok (.iadd, 1) := by decide +kernel
theorem dX1_countByLine_57 : decode cX1_countByLine 57 = .ok (.iastore, 1) := by decide +kernel
theorem dX1_countByLine_58 : decode cX1_countByLine 58 = .ok (.aload_n 0, 1) := by decide +kernel
theorem dX1_countByLine_59 : decode cX1_countByLine 59 = .ok (.getfield 25, 3) := by decide +kernel
theorem dX1_countByLine_62 : decode cX1_countByLine 62 = .ok (.bipush 59, 2) := by decide +kernel
theorem dX1_countByLine_64 : decode cX1_countByLine 64 = .ok (.iload_n 2, 1) := by decide +kernel
theorem dX1_countByLine_65 : decode cX1_countByLine 65 = .ok (.iadd, 1) := by decide +kernel
theorem dX1_countByLine_66 : decode cX1_countByLine 66 = .ok (.iload_n 3, 1) := by decide +kernel
theorem dX1_countByLine_67 : decode cX1_countByLine 67 = .ok (.isub, 1) := by decide +kernel
theorem dX1_countByLine_68 : decode cX1_countByLine 68 = .ok (.dup2, 1) := by decide +kernel
theorem dX1_countByLine_69 : decode cX1_countByLine 69 = .ok (.iaload, 1) := by decide +kernel
theorem dX1_countByLine_70 : decode cX1_countByLine 70 = .ok (.iconst 1, 1) := by decide +kernel
theorem dX1_countByLine_71 : decode cX1_countByLine 71 = .ok (.iadd, 1) := by decide +kernel
theorem dX1_countByLine_72 : decode cX1_countByLine 72 = .ok (.iastore, 1) := by decide +kernel
theorem dX1_countByLine_73 : decode cX1_countByLine 73 = .ok (.aload_n 0, 1) := by decide +kernel
theorem dX1_countByLine_74 : decode cX1_countByLine 74 = .ok (.getfield 25, 3) := by decide +kernel
theorem dX1_countByLine_77 : decode cX1_countByLine 77 = .ok (.bipush 79, 2) := by decide +kernel
theorem dX1_countByLine_79 : decode cX1_countByLine 79 = .ok (.iload_n 2, 1) := by decide +kernel
theorem dX1_countByLine_80 : decode cX1_countByLine 80 = .ok (.iadd, 1) := by decide +kernel
theorem dX1_countByLine_81 : decode cX1_countByLine 81 = .ok (.iload_n 3, 1) := by decide +kernel
theorem dX1_countByLine_82 : decode cX1_countByLine 82 = .ok (.iadd, 1) := by decide +kernel
theorem dX1_countByLine_83 : decode cX1_countByLine 83 = .ok (.dup2, 1) := by decide +kernel
theorem dX1_countByLine_84 : decode cX1_countByLine 84 = .ok (.iaload, 1) := by decide +kernel
theorem dX1_countByLine_85 : decode cX1_countByLine 85 = .ok (.iconst 1, 1) := by decide +kernel
theorem dX1_countByLine_86 : decode cX1_countByLine 86 = .ok (.iadd, 1) := by decide +kernel
theorem dX1_countByLine_87 : decode cX1_countByLine 87 = .ok (.iastore, 1) := by decide +kernel
theorem dX1_countByLine_88 : decode cX1_countByLine 88 = .ok (.iinc 1 1, 3) := by decide +kernel
theorem dX1_countByLine_91 : decode cX1_countByLine 91 = .ok (.goto (-81), 3) := by decide +kernel
theorem dX1_countByLine_94 : decode cX1_countByLine 94 = .ok (.return_, 1) := by decide +kernel
theorem dX1_fullestLine_0 : decode cX1_fullestLine 0 = .ok (.iconst 0, 1) := by decide +kernel
theorem dX1_fullestLine_1 : decode cX1_fullestLine 1 = .ok (.istore_n 1, 1) := by decide +kernel
theorem dX1_fullestLine_2 : decode cX1_fullestLine 2 = .ok (.iconst 1, 1) := by decide +kernel
theorem dX1_fullestLine_3 : decode cX1_fullestLine 3 = .ok (.istore_n 2, 1) := by decide +kernel
theorem dX1_fullestLine_4 : decode cX1_fullestLine 4 = .ok (.iload_n 2, 1) := by decide +kernel
theorem dX1_fullestLine_5 : decode cX1_fullestLine 5 = .ok (.bipush 118, 2) := by decide +kernel
theorem dX1_fullestLine_7 : decode cX1_fullestLine 7 = .ok (.if_icmp .ge 26, 3) := by decide +kernel
theorem dX1_fullestLine_10 : decode cX1_fullestLine 10 = .ok (.aload_n 0, 1) := by decide +kernel
theorem dX1_fullestLine_11 : decode cX1_fullestLine 11 = .ok (.getfield 25, 3) := by decide +kernel
theorem dX1_fullestLine_14 : decode cX1_fullestLine 14 = .ok (.iload_n 2, 1) := by decide +kernel
theorem dX1_fullestLine_15 : decode cX1_fullestLine 15 = .ok (.iaload, 1) := by decide +kernel
theorem dX1_fullestLine_16 : decode cX1_fullestLine 16 = .ok (.aload_n 0, 1) := by decide +kernel
theorem dX1_fullestLine_17 : decode cX1_fullestLine 17 = .ok (.getfield 25, 3) := by decide +kernel
theorem dX1_fullestLine_20 : decode cX1_fullestLine 20 = .ok (.iload_n 1, 1) := by decide +kernel
theorem dX1_fullestLine_21 : decode cX1_fullestLine 21 = .ok (.iaload, 1) := by decide +kernel
theorem dX1_fullestLine_22 : decode cX1_fullestLine 22 = .ok (.if_icmp .le 5, 3) := by decide +kernel
theorem dX1_fullestLine_25 : decode cX1_fullestLine 25 = .ok (.iload_n 2, 1) := by decide +kernel
theorem dX1_fullestLine_26 : decode cX1_fullestLine 26 = .ok (.istore_n 1, 1) := by decide +kernel
theorem dX1_fullestLine_27 : decode cX1_fullestLine 27 = .ok (.iinc 2 1, 3) := by decide +kernel
theorem dX1_fullestLine_30 : decode cX1_fullestLine 30 = .ok (.goto (-26), 3) := by decide +kernel
theorem dX1_fullestLine_33 : decode cX1_fullestLine 33 = .ok (.iload_n 1, 1) := by decide +kernel
theorem dX1_fullestLine_34 : decode cX1_fullestLine 34 = .ok (.ireturn, 1) := by decide +kernel
theorem dX1_kindOf_0 : decode cX1_kindOf 0 = .ok (.iload_n 0, 1) := by decide +kernel
theorem dX1_kindOf_1 : decode cX1_kindOf 1 = .ok (.bipush 20, 2) := by decide +kernel
theorem dX1_kindOf_3 : decode cX1_kindOf 3 = .ok (.if_icmp .ge 5, 3) := by decide +kernel
theorem dX1_kindOf_6 : decode cX1_kindOf 6 = .ok (.iconst 0, 1) := by decide +kernel
theorem dX1_kindOf_7 : decode cX1_kindOf 7 = .ok (.ireturn, 1) := by decide +kernel
theorem dX1_kindOf_8 : decode cX1_kindOf 8 = .ok (.iload_n 0, 1) := by decide +kernel
theorem dX1_kindOf_9 : decode cX1_kindOf 9 = .ok (.bipush 40, 2) := by decide +kernel
theorem dX1_kindOf_11 : decode cX1_kindOf 11 = .ok (.if_icmp .ge 5, 3) := by decide +kernel
theorem dX1_kindOf_14 : decode cX1_kindOf 14 = .ok (.iconst 1, 1) := by decide +kernel
theorem dX1_kindOf_15 : decode cX1_kindOf 15 = .ok (.ireturn, 1) := by decide +kernel
theorem dX1_kindOf_16 : decode cX1_kindOf 16 = .ok (.iload_n 0, 1) := by decide +kernel
theorem dX1_kindOf_17 : decode cX1_kindOf 17 = .ok (.bipush 79, 2) := by decide +kernel
theorem dX1_kindOf_19 : decode cX1_kindOf 19 = .ok (.if_icmp .ge 7, 3) := by decide +kernel
theorem dX1_kindOf_22 : decode cX1_kindOf 22 = .ok (.iconst 2, 1) := by decide +kernel
theorem dX1_kindOf_23 : decode cX1_kindOf 23 = .ok (.goto 4, 3) := by decide +kernel
theorem dX1_kindOf_26 : decode cX1_kindOf 26 = .ok (.iconst 3, 1) := by decide +kernel
theorem dX1_kindOf_27 : decode cX1_kindOf 27 = .ok (.ireturn, 1) := by decide +kernel
theorem dX1_numberOf_0 : decode cX1_numberOf 0 = .ok (.iload_n 0, 1) := by decide +kernel
theorem dX1_numberOf_1 : decode cX1_numberOf 1 = .ok (.invokestatic 60, 3) := by decide +kernel
theorem dX1_numberOf_4 : decode cX1_numberOf 4 = .ok (.tableswitch 40 0 2 #[28, 30, 35], 28) := by decide +kernel
theorem dX1_numberOf_32 : decode cX1_numberOf 32 = .ok (.iload_n 0, 1) := by decide +kernel
theorem dX1_numberOf_33 : decode cX1_numberOf 33 = .ok (.ireturn, 1) := by decide +kernel
theorem dX1_numberOf_34 : decode cX1_numberOf 34 = .ok (.iload_n 0, 1) := by decide +kernel
theorem dX1_numberOf_35 : decode cX1_numberOf 35 = .ok (.bipush 20, 2) := by decide +kernel
theorem dX1_numberOf_37 : decode cX1_numberOf 37 = .ok (.isub, 1) := by decide +kernel
theorem dX1_numberOf_38 : decode cX1_numberOf 38 = .ok (.ireturn, 1) := by decide +kernel
theorem dX1_numberOf_39 : decode cX1_numberOf 39 = .ok (.iload_n 0, 1) := by decide +kernel
theorem dX1_numberOf_40 : decode cX1_numberOf 40 = .ok (.bipush 59, 2) := by decide +kernel
theorem dX1_numberOf_42 : decode cX1_numberOf 42 = .ok (.isub, 1) := by decide +kernel
theorem dX1_numberOf_43 : decode cX1_numberOf 43 = .ok (.ireturn, 1) := by decide +kernel
theorem dX1_numberOf_44 : decode cX1_numberOf 44 = .ok (.iload_n 0, 1) := by decide +kernel
theorem dX1_numberOf_45 : decode cX1_numberOf 45 = .ok (.bipush 79, 2) := by decide +kernel
theorem dX1_numberOf_47 : decode cX1_numberOf 47 = .ok (.isub, 1) := by decide +kernel
theorem dX1_numberOf_48 : decode cX1_numberOf 48 = .ok (.ireturn, 1) := by decide +kernel
theorem dX2_init_0 : decode cX2_init 0 = .ok (.aload_n 0, 1) := by decide +kernel
theorem dX2_init_1 : decode cX2_init 1 = .ok (.invokespecial 3, 3) := by decide +kernel
theorem dX2_init_4 : decode cX2_init 4 = .ok (.aload_n 0, 1) := by decide +kernel
theorem dX2_init_5 : decode cX2_init 5 = .ok (.iconst 0, 1) := by decide +kernel
theorem dX2_init_6 : decode cX2_init 6 = .ok (.putfield 9, 3) := by decide +kernel
theorem dX2_init_9 : decode cX2_init 9 = .ok (.aload_n 0, 1) := by decide +kernel
theorem dX2_init_10 : decode cX2_init 10 = .ok (.sipush 400, 3) := by decide +kernel
theorem dX2_init_13 : decode cX2_init 13 = .ok (.newarray .int, 2) := by decide +kernel
theorem dX2_init_15 : decode cX2_init 15 = .ok (.putfield 15, 3) := by decide +kernel
theorem dX2_init_18 : decode cX2_init 18 = .ok (.aload_n 0, 1) := by decide +kernel
theorem dX2_init_19 : decode cX2_init 19 = .ok (.getfield 15, 3) := by decide +kernel
theorem dX2_init_22 : decode cX2_init 22 = .ok (.iconst (-1), 1) := by decide +kernel
theorem dX2_init_23 : decode cX2_init 23 = .ok (.invokestatic 19, 3) := by decide +kernel
theorem dX2_init_26 : decode cX2_init 26 = .ok (.aload_n 0, 1) := by decide +kernel
theorem dX2_init_27 : decode cX2_init 27 = .ok (.bipush 10, 2) := by decide +kernel
theorem dX2_init_29 : decode cX2_init 29 = .ok (.newarray .int, 2) := by decide +kernel
theorem dX2_init_31 : decode cX2_init 31 = .ok (.putfield 25, 3) := by decide +kernel
theorem dX2_init_34 : decode cX2_init 34 = .ok (.aload_n 0, 1) := by decide +kernel
theorem dX2_init_35 : decode cX2_init 35 = .ok (.bipush 10, 2) := by decide +kernel
theorem dX2_init_37 : decode cX2_init 37 = .ok (.newarray .int, 2) := by decide +kernel
theorem dX2_init_39 : decode cX2_init 39 = .ok (.putfield 28, 3) := by decide +kernel
theorem dX2_init_42 : decode cX2_init 42 = .ok (.aload_n 0, 1) := by decide +kernel
theorem dX2_init_43 : decode cX2_init 43 = .ok (.bipush 10, 2) := by decide +kernel
theorem dX2_init_45 : decode cX2_init 45 = .ok (.newarray .int, 2) := by decide +kernel
theorem dX2_init_47 : decode cX2_init 47 = .ok (.putfield 31, 3) := by decide +kernel
theorem dX2_init_50 : decode cX2_init 50 = .ok (.aload_n 0, 1) := by decide +kernel
theorem dX2_init_51 : decode cX2_init 51 = .ok (.bipush 50, 2) := by decide +kernel
theorem dX2_init_53 : decode cX2_init 53 = .ok (.newarray .int, 2) := by decide +kernel
theorem dX2_init_55 : decode cX2_init 55 = .ok (.putfield 34, 3) := by decide +kernel
theorem dX2_init_58 : decode cX2_init 58 = .ok (.aload_n 0, 1) := by decide +kernel
theorem dX2_init_59 : decode cX2_init 59 = .ok (.bipush 50, 2) := by decide +kernel
theorem dX2_init_61 : decode cX2_init 61 = .ok (.newarray .boolean, 2) := by decide +kernel
theorem dX2_init_63 : decode cX2_init 63 = .ok (.putfield 37, 3) := by decide +kernel
theorem dX2_init_66 : decode cX2_init 66 = .ok (.return_, 1) := by decide +kernel
theorem dX2_add_0 : decode cX2_add 0 = .ok (.aload_n 0, 1) := by decide +kernel
theorem dX2_add_1 : decode cX2_add 1 = .ok (.getfield 9, 3) := by decide +kernel
theorem dX2_add_4 : decode cX2_add 4 = .ok (.istore_n 3, 1) := by decide +kernel
theorem dX2_add_5 : decode cX2_add 5 = .ok (.aload_n 0, 1) := by decide +kernel
theorem dX2_add_6 : decode cX2_add 6 = .ok (.getfield 25, 3) := by decide +kernel
theorem dX2_add_9 : decode cX2_add 9 = .ok (.iload_n 3, 1) := by decide +kernel
theorem dX2_add_10 : decode cX2_add 10 = .ok (.iload_n 1, 1) := by decide +kernel
theorem dX2_add_11 : decode cX2_add 11 = .ok (.iastore, 1) := by decide +kernel
theorem dX2_add_12 : decode cX2_add 12 = .ok (.aload_n 0, 1) := by decide +kernel
theorem dX2_add_13 : decode cX2_add 13 = .ok (.getfield 28, 3) := by decide +kernel
theorem dX2_add_16 : decode cX2_add 16 = .ok (.iload_n 3, 1) := by decide +kernel
theorem dX2_add_17 : decode cX2_add 17 = .ok (.iload_n 2, 1) := by decide +kernel
theorem dX2_add_18 : decode cX2_add 18 = .ok (.iastore, 1) := by decide +kernel
theorem dX2_add_19 : decode cX2_add 19 = .ok (.aload_n 0, 1) := by decide +kernel
theorem dX2_add_20 : decode cX2_add 20 = .ok (.getfield 15, 3) := by decide +kernel
theorem dX2_add_23 : decode cX2_add 23 = .ok (.iload_n 1, 1) := by decide +kernel
theorem dX2_add_24 : decode cX2_add 24 = .ok (.iload_n 3, 1) := by decide +kernel
theorem dX2_add_25 : decode cX2_add 25 = .ok (.iastore, 1) := by decide +kernel
theorem dX2_add_26 : decode cX2_add 26 = .ok (.aload_n 0, 1) := by decide +kernel
theorem dX2_add_27 : decode cX2_add 27 = .ok (.dup, 1) := by decide +kernel
theorem dX2_add_28 : decode cX2_add 28 = .ok (.getfield 9, 3) := by decide +kernel
theorem dX2_add_31 : decode cX2_add 31 = .ok (.iconst 1, 1) := by decide +kernel
theorem dX2_add_32 : decode cX2_add 32 = .ok (.iadd, 1) := by decide +kernel
theorem dX2_add_33 : decode cX2_add 33 = .ok (.putfield 9, 3) := by decide +kernel
theorem dX2_add_36 : decode cX2_add 36 = .ok (.iload_n 3, 1) := by decide +kernel
theorem dX2_add_37 : decode cX2_add 37 = .ok (.ireturn, 1) := by decide +kernel
theorem dX2_hasFound_0 : decode cX2_hasFound 0 = .ok (.aload_n 0, 1) := by decide +kernel
theorem dX2_hasFound_1 : decode cX2_hasFound 1 = .ok (.getfield 28, 3) := by decide +kernel
theorem dX2_hasFound_4 : decode cX2_hasFound 4 = .ok (.iload_n 1, 1) := by decide +kernel
theorem dX2_hasFound_5 : decode cX2_hasFound 5 = .ok (.iaload, 1) := by decide +kernel
theorem dX2_hasFound_6 : decode cX2_hasFound 6 = .ok (.ifCond .le 22, 3) := by decide +kernel
theorem dX2_hasFound_9 : decode cX2_hasFound 9 = .ok (.aload_n 0, 1) := by decide +kernel
theorem dX2_hasFound_10 : decode cX2_hasFound 10 = .ok (.getfield 31, 3) := by decide +kernel
theorem dX2_hasFound_13 : decode cX2_hasFound 13 = .ok (.iload_n 1, 1) := by decide +kernel
theorem dX2_hasFound_14 : decode cX2_hasFound 14 = .ok (.iaload, 1) := by decide +kernel
theorem dX2_hasFound_15 : decode cX2_hasFound 15 = .ok (.aload_n 0, 1) := by decide +kernel
theorem dX2_hasFound_16 : decode cX2_hasFound 16 = .ok (.getfield 28, 3) := by decide +kernel
theorem dX2_hasFound_19 : decode cX2_hasFound 19 = .ok (.iload_n 1, 1) := by decide +kernel
theorem dX2_hasFound_20 : decode cX2_hasFound 20 = .ok (.iaload, 1) := by decide +kernel
theorem dX2_hasFound_21 : decode cX2_hasFound 21 = .ok (.if_icmp .lt 7, 3) := by decide +kernel
theorem dX2_hasFound_24 : decode cX2_hasFound 24 = .ok (.iconst 1, 1) := by decide +kernel
theorem dX2_hasFound_25 : decode cX2_hasFound 25 = .ok (.goto 4, 3) := by decide +kernel
theorem dX2_hasFound_28 : decode cX2_hasFound 28 = .ok (.iconst 0, 1) := by decide +kernel
theorem dX2_hasFound_29 : decode cX2_hasFound 29 = .ok (.ireturn, 1) := by decide +kernel
theorem dX2_isOver_0 : decode cX2_isOver 0 = .ok (.aload_n 0, 1) := by decide +kernel
theorem dX2_isOver_1 : decode cX2_isOver 1 = .ok (.iload_n 1, 1) := by decide +kernel
theorem dX2_isOver_2 : decode cX2_isOver 2 = .ok (.invokevirtual 41, 3) := by decide +kernel
theorem dX2_isOver_5 : decode cX2_isOver 5 = .ok (.ifCond .ne 14, 3) := by decide +kernel
theorem dX2_isOver_8 : decode cX2_isOver 8 = .ok (.aload_n 0, 1) := by decide +kernel
theorem dX2_isOver_9 : decode cX2_isOver 9 = .ok (.getfield 31, 3) := by decide +kernel
theorem dX2_isOver_12 : decode cX2_isOver 12 = .ok (.iload_n 1, 1) := by decide +kernel
theorem dX2_isOver_13 : decode cX2_isOver 13 = .ok (.iaload, 1) := by decide +kernel
theorem dX2_isOver_14 : decode cX2_isOver 14 = .ok (.bipush 20, 2) := by decide +kernel
theorem dX2_isOver_16 : decode cX2_isOver 16 = .ok (.if_icmp .lt 7, 3) := by decide +kernel
theorem dX2_isOver_19 : decode cX2_isOver 19 = .ok (.iconst 1, 1) := by decide +kernel
theorem dX2_isOver_20 : decode cX2_isOver 20 = .ok (.goto 4, 3) := by decide +kernel
theorem dX2_isOver_23 : decode cX2_isOver 23 = .ok (.iconst 0, 1) := by decide +kernel
theorem dX2_isOver_24 : decode cX2_isOver 24 = .ok (.ireturn, 1) := by decide +kernel
theorem dX2_deepen_0 : decode cX2_deepen 0 = .ok (.aload_n 0, 1) := by decide +kernel
theorem dX2_deepen_1 : decode cX2_deepen 1 = .ok (.getfield 28, 3) := by decide +kernel
theorem dX2_deepen_4 : decode cX2_deepen 4 = .ok (.iload_n 1, 1) := by decide +kernel
theorem dX2_deepen_5 : decode cX2_deepen 5 = .ok (.iaload, 1) := by decide +kernel
theorem dX2_deepen_6 : decode cX2_deepen 6 = .ok (.ifCond .le 12, 3) := by decide +kernel
theorem dX2_deepen_9 : decode cX2_deepen 9 = .ok (.aload_n 0, 1) := by decide +kernel
theorem dX2_deepen_10 : decode cX2_deepen 10 = .ok (.getfield 28, 3) := by decide +kernel
theorem dX2_deepen_13 : decode cX2_deepen 13 = .ok (.iload_n 1, 1) := by decide +kernel
theorem dX2_deepen_14 : decode cX2_deepen 14 = .ok (.iaload, 1) := by decide +kernel
theorem dX2_deepen_15 : decode cX2_deepen 15 = .ok (.goto 5, 3) := by decide +kernel
theorem dX2_deepen_18 : decode cX2_deepen 18 = .ok (.bipush 20, 2) := by decide +kernel
theorem dX2_deepen_20 : decode cX2_deepen 20 = .ok (.istore_n 3, 1) := by decide +kernel
theorem dX2_deepen_21 : decode cX2_deepen 21 = .ok (.aload_n 0, 1) := by decide +kernel
theorem dX2_deepen_22 : decode cX2_deepen 22 = .ok (.getfield 31, 3) := by decide +kernel
theorem dX2_deepen_25 : decode cX2_deepen 25 = .ok (.iload_n 1, 1) := by decide +kernel
theorem dX2_deepen_26 : decode cX2_deepen 26 = .ok (.iload_n 3, 1) := by decide +kernel
theorem dX2_deepen_27 : decode cX2_deepen 27 = .ok (.aload_n 0, 1) := by decide +kernel
theorem dX2_deepen_28 : decode cX2_deepen 28 = .ok (.getfield 31, 3) := by decide +kernel
theorem dX2_deepen_31 : decode cX2_deepen 31 = .ok (.iload_n 1, 1) := by decide +kernel
theorem dX2_deepen_32 : decode cX2_deepen 32 = .ok (.iaload, 1) := by decide +kernel
theorem dX2_deepen_33 : decode cX2_deepen 33 = .ok (.iload_n 2, 1) := by decide +kernel
theorem dX2_deepen_34 : decode cX2_deepen 34 = .ok (.iadd, 1) := by decide +kernel
theorem dX2_deepen_35 : decode cX2_deepen 35 = .ok (.invokestatic 45, 3) := by decide +kernel
theorem dX2_deepen_38 : decode cX2_deepen 38 = .ok (.iastore, 1) := by decide +kernel
theorem dX2_deepen_39 : decode cX2_deepen 39 = .ok (.return_, 1) := by decide +kernel
theorem dX2_slip_0 : decode cX2_slip 0 = .ok (.iload_n 0, 1) := by decide +kernel
theorem dX2_slip_1 : decode cX2_slip 1 = .ok (.iconst 5, 1) := by decide +kernel
theorem dX2_slip_2 : decode cX2_slip 2 = .ok (.imul, 1) := by decide +kernel
theorem dX2_slip_3 : decode cX2_slip 3 = .ok (.iload_n 1, 1) := by decide +kernel
theorem dX2_slip_4 : decode cX2_slip 4 = .ok (.iadd, 1) := by decide +kernel
theorem dX2_slip_5 : decode cX2_slip 5 = .ok (.ireturn, 1) := by decide +kernel
theorem dX2_hasBet_0 : decode cX2_hasBet 0 = .ok (.aload_n 0, 1) := by decide +kernel
theorem dX2_hasBet_1 : decode cX2_hasBet 1 = .ok (.getfield 34, 3) := by decide +kernel
theorem dX2_hasBet_4 : decode cX2_hasBet 4 = .ok (.iload_n 1, 1) := by decide +kernel
theorem dX2_hasBet_5 : decode cX2_hasBet 5 = .ok (.iload_n 2, 1) := by decide +kernel
theorem dX2_hasBet_6 : decode cX2_hasBet 6 = .ok (.invokestatic 51, 3) := by decide +kernel
theorem dX2_hasBet_9 : decode cX2_hasBet 9 = .ok (.iaload, 1) := by decide +kernel
theorem dX2_hasBet_10 : decode cX2_hasBet 10 = .ok (.ifCond .le 7, 3) := by decide +kernel
theorem dX2_hasBet_13 : decode cX2_hasBet 13 = .ok (.iconst 1, 1) := by decide +kernel
theorem dX2_hasBet_14 : decode cX2_hasBet 14 = .ok (.goto 4, 3) := by decide +kernel
theorem dX2_hasBet_17 : decode cX2_hasBet 17 = .ok (.iconst 0, 1) := by decide +kernel
theorem dX2_hasBet_18 : decode cX2_hasBet 18 = .ok (.ireturn, 1) := by decide +kernel
theorem dX2_takeBet_0 : decode cX2_takeBet 0 = .ok (.aload_n 0, 1) := by decide +kernel
theorem dX2_takeBet_1 : decode cX2_takeBet 1 = .ok (.getfield 34, 3) := by decide +kernel
theorem dX2_takeBet_4 : decode cX2_takeBet 4 = .ok (.iload_n 1, 1) := by decide +kernel
theorem dX2_takeBet_5 : decode cX2_takeBet 5 = .ok (.iload_n 2, 1) := by decide +kernel
theorem dX2_takeBet_6 : decode cX2_takeBet 6 = .ok (.invokestatic 51, 3) := by decide +kernel
theorem dX2_takeBet_9 : decode cX2_takeBet 9 = .ok (.iload_n 3, 1) := by decide +kernel
theorem dX2_takeBet_10 : decode cX2_takeBet 10 = .ok (.iastore, 1) := by decide +kernel
theorem dX2_takeBet_11 : decode cX2_takeBet 11 = .ok (.aload_n 0, 1) := by decide +kernel
theorem dX2_takeBet_12 : decode cX2_takeBet 12 = .ok (.getfield 37, 3) := by decide +kernel
theorem dX2_takeBet_15 : decode cX2_takeBet 15 = .ok (.iload_n 1, 1) := by decide +kernel
theorem dX2_takeBet_16 : decode cX2_takeBet 16 = .ok (.iload_n 2, 1) := by decide +kernel
theorem dX2_takeBet_17 : decode cX2_takeBet 17 = .ok (.invokestatic 51, 3) := by decide +kernel
theorem dX2_takeBet_20 : decode cX2_takeBet 20 = .ok (.iload 4, 2) := by decide +kernel
theorem dX2_takeBet_22 : decode cX2_takeBet 22 = .ok (.bastore, 1) := by decide +kernel
theorem dX2_takeBet_23 : decode cX2_takeBet 23 = .ok (.return_, 1) := by decide +kernel
theorem dX2_stakeOn_0 : decode cX2_stakeOn 0 = .ok (.iload_n 1, 1) := by decide +kernel
theorem dX2_stakeOn_1 : decode cX2_stakeOn 1 = .ok (.iload_n 2, 1) := by decide +kernel
theorem dX2_stakeOn_2 : decode cX2_stakeOn 2 = .ok (.invokestatic 51, 3) := by decide +kernel
theorem dX2_stakeOn_5 : decode cX2_stakeOn 5 = .ok (.istore 4, 2) := by decide +kernel
theorem dX2_stakeOn_7 : decode cX2_stakeOn 7 = .ok (.aload_n 0, 1) := by decide +kernel
theorem dX2_stakeOn_8 : decode cX2_stakeOn 8 = .ok (.getfield 37, 3) := by decide +kernel
theorem dX2_stakeOn_11 : decode cX2_stakeOn 11 = .ok (.iload 4, 2) := by decide +kernel
theorem dX2_stakeOn_13 : decode cX2_stakeOn 13 = .ok (.baload, 1) := by decide +kernel
theorem dX2_stakeOn_14 : decode cX2_stakeOn 14 = .ok (.iload_n 3, 1) := by decide +kernel
theorem dX2_stakeOn_15 : decode cX2_stakeOn 15 = .ok (.if_icmp .ne 13, 3) := by decide +kernel
theorem dX2_stakeOn_18 : decode cX2_stakeOn 18 = .ok (.aload_n 0, 1) := by decide +kernel
theorem dX2_stakeOn_19 : decode cX2_stakeOn 19 = .ok (.getfield 34, 3) := by decide +kernel
theorem dX2_stakeOn_22 : decode cX2_stakeOn 22 = .ok (.iload 4, 2) := by decide +kernel
theorem dX2_stakeOn_24 : decode cX2_stakeOn 24 = .ok (.iaload, 1) := by decide +kernel
theorem dX2_stakeOn_25 : decode cX2_stakeOn 25 = .ok (.goto 4, 3) := by decide +kernel
theorem dX2_stakeOn_28 : decode cX2_stakeOn 28 = .ok (.iconst 0, 1) := by decide +kernel
theorem dX2_stakeOn_29 : decode cX2_stakeOn 29 = .ok (.ireturn, 1) := by decide +kernel
theorem dX2_stakedOn_0 : decode cX2_stakedOn 0 = .ok (.iconst 0, 1) := by decide +kernel
theorem dX2_stakedOn_1 : decode cX2_stakedOn 1 = .ok (.istore_n 3, 1) := by decide +kernel
theorem dX2_stakedOn_2 : decode cX2_stakedOn 2 = .ok (.iconst 0, 1) := by decide +kernel
theorem dX2_stakedOn_3 : decode cX2_stakedOn 3 = .ok (.istore 4, 2) := by decide +kernel
theorem dX2_stakedOn_5 : decode cX2_stakedOn 5 = .ok (.iload 4, 2) := by decide +kernel
theorem dX2_stakedOn_7 : decode cX2_stakedOn 7 = .ok (.iconst 5, 1) := by decide +kernel
theorem dX2_stakedOn_8 : decode cX2_stakedOn 8 = .ok (.if_icmp .ge 20, 3) := by decide +kernel
theorem dX2_stakedOn_11 : decode cX2_stakedOn 11 = .ok (.iload_n 3, 1) := by decide +kernel
theorem dX2_stakedOn_12 : decode cX2_stakedOn 12 = .ok (.aload_n 0, 1) := by decide +kernel
theorem dX2_stakedOn_13 : decode cX2_stakedOn 13 = .ok (.iload_n 1, 1) := by decide +kernel
theorem dX2_stakedOn_14 : decode cX2_stakedOn 14 = .ok (.iload 4, 2) := by decide +kernel
theorem dX2_stakedOn_16 : decode cX2_stakedOn 16 = .ok (.iload_n 2, 1) := by decide +kernel
theorem dX2_stakedOn_17 : decode cX2_stakedOn 17 = .ok (.invokevirtual 54, 3) := by decide +kernel
theorem dX2_stakedOn_20 : decode cX2_stakedOn 20 = .ok (.iadd, 1) := by decide +kernel
theorem dX2_stakedOn_21 : decode cX2_stakedOn 21 = .ok (.istore_n 3, 1) := by decide +kernel
theorem dX2_stakedOn_22 : decode cX2_stakedOn 22 = .ok (.iinc 4 1, 3) := by decide +kernel
theorem dX2_stakedOn_25 : decode cX2_stakedOn 25 = .ok (.goto (-20), 3) := by decide +kernel
theorem dX2_stakedOn_28 : decode cX2_stakedOn 28 = .ok (.iload_n 3, 1) := by decide +kernel
theorem dX2_stakedOn_29 : decode cX2_stakedOn 29 = .ok (.ireturn, 1) := by decide +kernel
theorem dX2_allStaked_0 : decode cX2_allStaked 0 = .ok (.aload_n 0, 1) := by decide +kernel
theorem dX2_allStaked_1 : decode cX2_allStaked 1 = .ok (.iload_n 1, 1) := by decide +kernel
theorem dX2_allStaked_2 : decode cX2_allStaked 2 = .ok (.iconst 1, 1) := by decide +kernel
theorem dX2_allStaked_3 : decode cX2_allStaked 3 = .ok (.invokevirtual 58, 3) := by decide +kernel
theorem dX2_allStaked_6 : decode cX2_allStaked 6 = .ok (.aload_n 0, 1) := by decide +kernel
theorem dX2_allStaked_7 : decode cX2_allStaked 7 = .ok (.iload_n 1, 1) := by decide +kernel
theorem dX2_allStaked_8 : decode cX2_allStaked 8 = .ok (.iconst 0, 1) := by decide +kernel
theorem dX2_allStaked_9 : decode cX2_allStaked 9 = .ok (.invokevirtual 58, 3) := by decide +kernel
theorem dX2_allStaked_12 : decode cX2_allStaked 12 = .ok (.iadd, 1) := by decide +kernel
theorem dX2_allStaked_13 : decode cX2_allStaked 13 = .ok (.ireturn, 1) := by decide +kernel
theorem dX2_share_0 : decode cX2_share 0 = .ok (.aload_n 0, 1) := by decide +kernel
theorem dX2_share_1 : decode cX2_share 1 = .ok (.iload_n 1, 1) := by decide +kernel
theorem dX2_share_2 : decode cX2_share 2 = .ok (.invokevirtual 62, 3) := by decide +kernel
theorem dX2_share_5 : decode cX2_share 5 = .ok (.aload_n 0, 1) := by decide +kernel
theorem dX2_share_6 : decode cX2_share 6 = .ok (.iload_n 1, 1) := by decide +kernel
theorem dX2_share_7 : decode cX2_share 7 = .ok (.iload_n 2, 1) := by decide +kernel
theorem dX2_share_8 : decode cX2_share 8 = .ok (.iload_n 3, 1) := by decide +kernel
theorem dX2_share_9 : decode cX2_share 9 = .ok (.invokevirtual 54, 3) := by decide +kernel
theorem dX2_share_12 : decode cX2_share 12 = .ok (.imul, 1) := by decide +kernel
theorem dX2_share_13 : decode cX2_share 13 = .ok (.aload_n 0, 1) := by decide +kernel
theorem dX2_share_14 : decode cX2_share 14 = .ok (.iload_n 1, 1) := by decide +kernel
theorem dX2_share_15 : decode cX2_share 15 = .ok (.iload_n 3, 1) := by decide +kernel
theorem dX2_share_16 : decode cX2_share 16 = .ok (.invokevirtual 58, 3) := by decide +kernel
theorem dX2_share_19 : decode cX2_share 19 = .ok (.invokestatic 66, 3) := by decide +kernel
theorem dX2_share_22 : decode cX2_share 22 = .ok (.ireturn, 1) := by decide +kernel
theorem dX2_unpaidOf_0 : decode cX2_unpaidOf 0 = .ok (.iconst 0, 1) := by decide +kernel
theorem dX2_unpaidOf_1 : decode cX2_unpaidOf 1 = .ok (.istore_n 2, 1) := by decide +kernel
theorem dX2_unpaidOf_2 : decode cX2_unpaidOf 2 = .ok (.iconst 0, 1) := by decide +kernel
theorem dX2_unpaidOf_3 : decode cX2_unpaidOf 3 = .ok (.istore_n 3, 1) := by decide +kernel
theorem dX2_unpaidOf_4 : decode cX2_unpaidOf 4 = .ok (.iload_n 3, 1) := by decide +kernel
theorem dX2_unpaidOf_5 : decode cX2_unpaidOf 5 = .ok (.aload_n 0, 1) := by decide +kernel
theorem dX2_unpaidOf_6 : decode cX2_unpaidOf 6 = .ok (.getfield 9, 3) := by decide +kernel
theorem dX2_unpaidOf_9 : decode cX2_unpaidOf 9 = .ok (.if_icmp .ge 30, 3) := by decide +kernel
theorem dX2_unpaidOf_12 : decode cX2_unpaidOf 12 = .ok (.aload_n 0, 1) := by decide +kernel
theorem dX2_unpaidOf_13 : decode cX2_unpaidOf 13 = .ok (.iload_n 3, 1) := by decide +kernel
theorem dX2_unpaidOf_14 : decode cX2_unpaidOf 14 = .ok (.invokevirtual 69, 3) := by decide +kernel
theorem dX2_unpaidOf_17 : decode cX2_unpaidOf 17 = .ok (.ifCond .ne 16, 3) := by decide +kernel
theorem dX2_unpaidOf_20 : decode cX2_unpaidOf 20 = .ok (.iload_n 2, 1) := by decide +kernel
theorem dX2_unpaidOf_21 : decode cX2_unpaidOf 21 = .ok (.aload_n 0, 1) := by decide +kernel
theorem dX2_unpaidOf_22 : decode cX2_unpaidOf 22 = .ok (.getfield 34, 3) := by decide +kernel
theorem dX2_unpaidOf_25 : decode cX2_unpaidOf 25 = .ok (.iload_n 3, 1) := by decide +kernel
theorem dX2_unpaidOf_26 : decode cX2_unpaidOf 26 = .ok (.iload_n 1, 1) := by decide +kernel
theorem dX2_unpaidOf_27 : decode cX2_unpaidOf 27 = .ok (.invokestatic 51, 3) := by decide +kernel
theorem dX2_unpaidOf_30 : decode cX2_unpaidOf 30 = .ok (.iaload, 1) := by decide +kernel
theorem dX2_unpaidOf_31 : decode cX2_unpaidOf 31 = .ok (.iadd, 1) := by decide +kernel
theorem dX2_unpaidOf_32 : decode cX2_unpaidOf 32 = .ok (.istore_n 2, 1) := by decide +kernel
theorem dX2_unpaidOf_33 : decode cX2_unpaidOf 33 = .ok (.iinc 3 1, 3) := by decide +kernel
theorem dX2_unpaidOf_36 : decode cX2_unpaidOf 36 = .ok (.goto (-32), 3) := by decide +kernel
theorem dX2_unpaidOf_39 : decode cX2_unpaidOf 39 = .ok (.iload_n 2, 1) := by decide +kernel
theorem dX2_unpaidOf_40 : decode cX2_unpaidOf 40 = .ok (.ireturn, 1) := by decide +kernel
theorem dX2_paidBetsOf_0 : decode cX2_paidBetsOf 0 = .ok (.iconst 0, 1) := by decide +kernel
theorem dX2_paidBetsOf_1 : decode cX2_paidBetsOf 1 = .ok (.istore_n 3, 1) := by decide +kernel
theorem dX2_paidBetsOf_2 : decode cX2_paidBetsOf 2 = .ok (.iconst 0, 1) := by decide +kernel
theorem dX2_paidBetsOf_3 : decode cX2_paidBetsOf 3 = .ok (.istore 4, 2) := by decide +kernel
theorem dX2_paidBetsOf_5 : decode cX2_paidBetsOf 5 = .ok (.iload 4, 2) := by decide +kernel
theorem dX2_paidBetsOf_7 : decode cX2_paidBetsOf 7 = .ok (.aload_n 0, 1) := by decide +kernel
theorem dX2_paidBetsOf_8 : decode cX2_paidBetsOf 8 = .ok (.getfield 9, 3) := by decide +kernel
theorem dX2_paidBetsOf_11 : decode cX2_paidBetsOf 11 = .ok (.if_icmp .ge 64, 3) := by decide +kernel
theorem dX2_paidBetsOf_14 : decode cX2_paidBetsOf 14 = .ok (.aload_n 0, 1) := by decide +kernel
theorem dX2_paidBetsOf_15 : decode cX2_paidBetsOf 15 = .ok (.getfield 37, 3) := by decide +kernel
theorem dX2_paidBetsOf_18 : decode cX2_paidBetsOf 18 = .ok (.iload 4, 2) := by decide +kernel
theorem dX2_paidBetsOf_20 : decode cX2_paidBetsOf 20 = .ok (.iload_n 1, 1) := by decide +kernel
theorem dX2_paidBetsOf_21 : decode cX2_paidBetsOf 21 = .ok (.invokestatic 51, 3) := by decide +kernel
theorem dX2_paidBetsOf_24 : decode cX2_paidBetsOf 24 = .ok (.baload, 1) := by decide +kernel
theorem dX2_paidBetsOf_25 : decode cX2_paidBetsOf 25 = .ok (.aload_n 0, 1) := by decide +kernel
theorem dX2_paidBetsOf_26 : decode cX2_paidBetsOf 26 = .ok (.iload 4, 2) := by decide +kernel
theorem dX2_paidBetsOf_28 : decode cX2_paidBetsOf 28 = .ok (.invokevirtual 41, 3) := by decide +kernel
theorem dX2_paidBetsOf_31 : decode cX2_paidBetsOf 31 = .ok (.if_icmp .ne 7, 3) := by decide +kernel
theorem dX2_paidBetsOf_34 : decode cX2_paidBetsOf 34 = .ok (.iconst 1, 1) := by decide +kernel
theorem dX2_paidBetsOf_35 : decode cX2_paidBetsOf 35 = .ok (.goto 4, 3) := by decide +kernel
theorem dX2_paidBetsOf_38 : decode cX2_paidBetsOf 38 = .ok (.iconst 0, 1) := by decide +kernel
theorem dX2_paidBetsOf_39 : decode cX2_paidBetsOf 39 = .ok (.istore 5, 2) := by decide +kernel
theorem dX2_paidBetsOf_41 : decode cX2_paidBetsOf 41 = .ok (.aload_n 0, 1) := by decide +kernel
theorem dX2_paidBetsOf_42 : decode cX2_paidBetsOf 42 = .ok (.iload 4, 2) := by decide +kernel
theorem dX2_paidBetsOf_44 : decode cX2_paidBetsOf 44 = .ok (.invokevirtual 69, 3) := by decide +kernel
theorem dX2_paidBetsOf_47 : decode cX2_paidBetsOf 47 = .ok (.ifCond .eq 22, 3) := by decide +kernel
theorem dX2_paidBetsOf_50 : decode cX2_paidBetsOf 50 = .ok (.aload_n 0, 1) := by decide +kernel
theorem dX2_paidBetsOf_51 : decode cX2_paidBetsOf 51 = .ok (.iload 4, 2) := by decide +kernel
theorem dX2_paidBetsOf_53 : decode cX2_paidBetsOf 53 = .ok (.iload_n 1, 1) := by decide +kernel
theorem dX2_paidBetsOf_54 : decode cX2_paidBetsOf 54 = .ok (.invokevirtual 72, 3) := by decide +kernel
theorem dX2_paidBetsOf_57 : decode cX2_paidBetsOf 57 = .ok (.ifCond .eq 12, 3) := by decide +kernel
theorem dX2_paidBetsOf_60 : decode cX2_paidBetsOf 60 = .ok (.iload 5, 2) := by decide +kernel
theorem dX2_paidBetsOf_62 : decode cX2_paidBetsOf 62 = .ok (.iload_n 2, 1) := by decide +kernel
theorem dX2_paidBetsOf_63 : decode cX2_paidBetsOf 63 = .ok (.if_icmp .ne 6, 3) := by decide +kernel
theorem dX2_paidBetsOf_66 : decode cX2_paidBetsOf 66 = .ok (.iinc 3 1, 3) := by decide +kernel
theorem dX2_paidBetsOf_69 : decode cX2_paidBetsOf 69 = .ok (.iinc 4 1, 3) := by decide +kernel
theorem dX2_paidBetsOf_72 : decode cX2_paidBetsOf 72 = .ok (.goto (-67), 3) := by decide +kernel
theorem dX2_paidBetsOf_75 : decode cX2_paidBetsOf 75 = .ok (.iload_n 3, 1) := by decide +kernel
theorem dX2_paidBetsOf_76 : decode cX2_paidBetsOf 76 = .ok (.ireturn, 1) := by decide +kernel
theorem dX2_tell_0 : decode cX2_tell 0 = .ok (.iload_n 2, 1) := by decide +kernel
theorem dX2_tell_1 : decode cX2_tell 1 = .ok (.tableswitch 101 0 5 #[39, 49, 59, 66, 80, 94], 39) := by decide +kernel
theorem dX2_tell_40 : decode cX2_tell 40 = .ok (.aload_n 0, 1) := by decide +kernel
theorem dX2_tell_41 : decode cX2_tell 41 = .ok (.getfield 25, 3) := by decide +kernel
theorem dX2_tell_44 : decode cX2_tell 44 = .ok (.iload_n 1, 1) := by decide +kernel
theorem dX2_tell_45 : decode cX2_tell 45 = .ok (.iaload, 1) := by decide +kernel
theorem dX2_tell_46 : decode cX2_tell 46 = .ok (.invokestatic 76, 3) := by decide +kernel
theorem dX2_tell_49 : decode cX2_tell 49 = .ok (.ireturn, 1) := by decide +kernel
theorem dX2_tell_50 : decode cX2_tell 50 = .ok (.aload_n 0, 1) := by decide +kernel
theorem dX2_tell_51 : decode cX2_tell 51 = .ok (.getfield 25, 3) := by decide +kernel
theorem dX2_tell_54 : decode cX2_tell 54 = .ok (.iload_n 1, 1) := by decide +kernel
theorem dX2_tell_55 : decode cX2_tell 55 = .ok (.iaload, 1) := by decide +kernel
theorem dX2_tell_56 : decode cX2_tell 56 = .ok (.invokestatic 79, 3) := by decide +kernel
theorem dX2_tell_59 : decode cX2_tell 59 = .ok (.ireturn, 1) := by decide +kernel
theorem dX2_tell_60 : decode cX2_tell 60 = .ok (.aload_n 0, 1) := by decide +kernel
theorem dX2_tell_61 : decode cX2_tell 61 = .ok (.getfield 31, 3) := by decide +kernel
theorem dX2_tell_64 : decode cX2_tell 64 = .ok (.iload_n 1, 1) := by decide +kernel
theorem dX2_tell_65 : decode cX2_tell 65 = .ok (.iaload, 1) := by decide +kernel
theorem dX2_tell_66 : decode cX2_tell 66 = .ok (.ireturn, 1) := by decide +kernel
theorem dX2_tell_67 : decode cX2_tell 67 = .ok (.aload_n 0, 1) := by decide +kernel
theorem dX2_tell_68 : decode cX2_tell 68 = .ok (.iload_n 1, 1) := by decide +kernel
theorem dX2_tell_69 : decode cX2_tell 69 = .ok (.invokevirtual 41, 3) := by decide +kernel
theorem dX2_tell_72 : decode cX2_tell 72 = .ok (.ifCond .eq 7, 3) := by decide +kernel
theorem dX2_tell_75 : decode cX2_tell 75 = .ok (.iconst 1, 1) := by decide +kernel
theorem dX2_tell_76 : decode cX2_tell 76 = .ok (.goto 4, 3) := by decide +kernel
theorem dX2_tell_79 : decode cX2_tell 79 = .ok (.iconst 0, 1) := by decide +kernel
theorem dX2_tell_80 : decode cX2_tell 80 = .ok (.ireturn, 1) := by decide +kernel
theorem dX2_tell_81 : decode cX2_tell 81 = .ok (.aload_n 0, 1) := by decide +kernel
theorem dX2_tell_82 : decode cX2_tell 82 = .ok (.iload_n 1, 1) := by decide +kernel
theorem dX2_tell_83 : decode cX2_tell 83 = .ok (.invokevirtual 69, 3) := by decide +kernel
theorem dX2_tell_86 : decode cX2_tell 86 = .ok (.ifCond .eq 7, 3) := by decide +kernel
theorem dX2_tell_89 : decode cX2_tell 89 = .ok (.iconst 1, 1) := by decide +kernel
theorem dX2_tell_90 : decode cX2_tell 90 = .ok (.goto 4, 3) := by decide +kernel
theorem dX2_tell_93 : decode cX2_tell 93 = .ok (.iconst 0, 1) := by decide +kernel
theorem dX2_tell_94 : decode cX2_tell 94 = .ok (.ireturn, 1) := by decide +kernel
theorem dX2_tell_95 : decode cX2_tell 95 = .ok (.aload_n 0, 1) := by decide +kernel
theorem dX2_tell_96 : decode cX2_tell 96 = .ok (.iload_n 1, 1) := by decide +kernel
theorem dX2_tell_97 : decode cX2_tell 97 = .ok (.iconst 1, 1) := by decide +kernel
theorem dX2_tell_98 : decode cX2_tell 98 = .ok (.invokevirtual 58, 3) := by decide +kernel
theorem dX2_tell_101 : decode cX2_tell 101 = .ok (.ireturn, 1) := by decide +kernel
theorem dX2_tell_102 : decode cX2_tell 102 = .ok (.aload_n 0, 1) := by decide +kernel
theorem dX2_tell_103 : decode cX2_tell 103 = .ok (.iload_n 1, 1) := by decide +kernel
theorem dX2_tell_104 : decode cX2_tell 104 = .ok (.iconst 0, 1) := by decide +kernel
theorem dX2_tell_105 : decode cX2_tell 105 = .ok (.invokevirtual 58, 3) := by decide +kernel
theorem dX2_tell_108 : decode cX2_tell 108 = .ok (.ireturn, 1) := by decide +kernel
theorem dX3_init_0 : decode cX3_init 0 = .ok (.aload_n 0, 1) := by decide +kernel
theorem dX3_init_1 : decode cX3_init 1 = .ok (.invokespecial 3, 3) := by decide +kernel
theorem dX3_init_4 : decode cX3_init 4 = .ok (.aload_n 0, 1) := by decide +kernel
theorem dX3_init_5 : decode cX3_init 5 = .ok (.iconst 0, 1) := by decide +kernel
theorem dX3_init_6 : decode cX3_init 6 = .ok (.putfield 9, 3) := by decide +kernel
theorem dX3_init_9 : decode cX3_init 9 = .ok (.aload_n 0, 1) := by decide +kernel
theorem dX3_init_10 : decode cX3_init 10 = .ok (.bipush 6, 2) := by decide +kernel
theorem dX3_init_12 : decode cX3_init 12 = .ok (.newarray .int, 2) := by decide +kernel
theorem dX3_init_14 : decode cX3_init 14 = .ok (.putfield 15, 3) := by decide +kernel
theorem dX3_init_17 : decode cX3_init 17 = .ok (.aload_n 0, 1) := by decide +kernel
theorem dX3_init_18 : decode cX3_init 18 = .ok (.bipush 6, 2) := by decide +kernel
theorem dX3_init_20 : decode cX3_init 20 = .ok (.newarray .int, 2) := by decide +kernel
theorem dX3_init_22 : decode cX3_init 22 = .ok (.putfield 19, 3) := by decide +kernel
theorem dX3_init_25 : decode cX3_init 25 = .ok (.aload_n 0, 1) := by decide +kernel
theorem dX3_init_26 : decode cX3_init 26 = .ok (.sipush 2400, 3) := by decide +kernel
theorem dX3_init_29 : decode cX3_init 29 = .ok (.newarray .int, 2) := by decide +kernel
theorem dX3_init_31 : decode cX3_init 31 = .ok (.putfield 22, 3) := by decide +kernel
theorem dX3_init_34 : decode cX3_init 34 = .ok (.aload_n 0, 1) := by decide +kernel
theorem dX3_init_35 : decode cX3_init 35 = .ok (.sipush 400, 3) := by decide +kernel
theorem dX3_init_38 : decode cX3_init 38 = .ok (.newarray .int, 2) := by decide +kernel
theorem dX3_init_40 : decode cX3_init 40 = .ok (.putfield 25, 3) := by decide +kernel
theorem dX3_init_43 : decode cX3_init 43 = .ok (.aload_n 0, 1) := by decide +kernel
theorem dX3_init_44 : decode cX3_init 44 = .ok (.sipush 400, 3) := by decide +kernel
theorem dX3_init_47 : decode cX3_init 47 = .ok (.newarray .int, 2) := by decide +kernel
theorem dX3_init_49 : decode cX3_init 49 = .ok (.putfield 28, 3) := by decide +kernel
theorem dX3_init_52 : decode cX3_init 52 = .ok (.return_, 1) := by decide +kernel
theorem dX3_open_0 : decode cX3_open 0 = .ok (.aload_n 0, 1) := by decide +kernel
theorem dX3_open_1 : decode cX3_open 1 = .ok (.getfield 9, 3) := by decide +kernel
theorem dX3_open_4 : decode cX3_open 4 = .ok (.istore_n 3, 1) := by decide +kernel
theorem dX3_open_5 : decode cX3_open 5 = .ok (.aload_n 0, 1) := by decide +kernel
theorem dX3_open_6 : decode cX3_open 6 = .ok (.getfield 15, 3) := by decide +kernel
theorem dX3_open_9 : decode cX3_open 9 = .ok (.iload_n 3, 1) := by decide +kernel
theorem dX3_open_10 : decode cX3_open 10 = .ok (.iload_n 1, 1) := by decide +kernel
theorem dX3_open_11 : decode cX3_open 11 = .ok (.iastore, 1) := by decide +kernel
theorem dX3_open_12 : decode cX3_open 12 = .ok (.aload_n 0, 1) := by decide +kernel
theorem dX3_open_13 : decode cX3_open 13 = .ok (.getfield 19, 3) := by decide +kernel
theorem dX3_open_16 : decode cX3_open 16 = .ok (.iload_n 3, 1) := by decide +kernel
theorem dX3_open_17 : decode cX3_open 17 = .ok (.iload_n 2, 1) := by decide +kernel
theorem dX3_open_18 : decode cX3_open 18 = .ok (.iastore, 1) := by decide +kernel
theorem dX3_open_19 : decode cX3_open 19 = .ok (.aload_n 0, 1) := by decide +kernel
theorem dX3_open_20 : decode cX3_open 20 = .ok (.dup, 1) := by decide +kernel
theorem dX3_open_21 : decode cX3_open 21 = .ok (.getfield 9, 3) := by decide +kernel
theorem dX3_open_24 : decode cX3_open 24 = .ok (.iconst 1, 1) := by decide +kernel
theorem dX3_open_25 : decode cX3_open 25 = .ok (.iadd, 1) := by decide +kernel
theorem dX3_open_26 : decode cX3_open 26 = .ok (.putfield 9, 3) := by decide +kernel
theorem dX3_open_29 : decode cX3_open 29 = .ok (.iload_n 3, 1) := by decide +kernel
theorem dX3_open_30 : decode cX3_open 30 = .ok (.ireturn, 1) := by decide +kernel
theorem dX3_lay_0 : decode cX3_lay 0 = .ok (.iload 4, 2) := by decide +kernel
theorem dX3_lay_2 : decode cX3_lay 2 = .ok (.iload_n 2, 1) := by decide +kernel
theorem dX3_lay_3 : decode cX3_lay 3 = .ok (.isub, 1) := by decide +kernel
theorem dX3_lay_4 : decode cX3_lay 4 = .ok (.invokestatic 31, 3) := by decide +kernel
theorem dX3_lay_7 : decode cX3_lay 7 = .ok (.istore 6, 2) := by decide +kernel
theorem dX3_lay_9 : decode cX3_lay 9 = .ok (.iload 5, 2) := by decide +kernel
theorem dX3_lay_11 : decode cX3_lay 11 = .ok (.iload_n 3, 1) := by decide +kernel
theorem dX3_lay_12 : decode cX3_lay 12 = .ok (.isub, 1) := by decide +kernel
theorem dX3_lay_13 : decode cX3_lay 13 = .ok (.invokestatic 31, 3) := by decide +kernel
theorem dX3_lay_16 : decode cX3_lay 16 = .ok (.istore 7, 2) := by decide +kernel
theorem dX3_lay_18 : decode cX3_lay 18 = .ok (.iload 4, 2) := by decide +kernel
theorem dX3_lay_20 : decode cX3_lay 20 = .ok (.iload_n 2, 1) := by decide +kernel
theorem dX3_lay_21 : decode cX3_lay 21 = .ok (.isub, 1) := by decide +kernel
theorem dX3_lay_22 : decode cX3_lay 22 = .ok (.invokestatic 37, 3) := by decide +kernel
theorem dX3_lay_25 : decode cX3_lay 25 = .ok (.iload 5, 2) := by decide +kernel
theorem dX3_lay_27 : decode cX3_lay 27 = .ok (.iload_n 3, 1) := by decide +kernel
theorem dX3_lay_28 : decode cX3_lay 28 = .ok (.isub, 1) := by decide +kernel
theorem dX3_lay_29 : decode cX3_lay 29 = .ok (.invokestatic 37, 3) := by decide +kernel
theorem dX3_lay_32 : decode cX3_lay 32 = .ok (.invokestatic 42, 3) := by decide +kernel
theorem dX3_lay_35 : decode cX3_lay 35 = .ok (.istore 8, 2) := by decide +kernel
theorem dX3_lay_37 : decode cX3_lay 37 = .ok (.iconst 0, 1) := by decide +kernel
theorem dX3_lay_38 : decode cX3_lay 38 = .ok (.istore 9, 2) := by decide +kernel
theorem dX3_lay_40 : decode cX3_lay 40 = .ok (.iload 9, 2) := by decide +kernel
theorem dX3_lay_42 : decode cX3_lay 42 = .ok (.iload 8, 2) := by decide +kernel
theorem dX3_lay_44 : decode cX3_lay 44 = .ok (.if_icmp .gt 28, 3) := by decide +kernel
theorem dX3_lay_47 : decode cX3_lay 47 = .ok (.aload_n 0, 1) := by decide +kernel
theorem dX3_lay_48 : decode cX3_lay 48 = .ok (.iload_n 1, 1) := by decide +kernel
theorem dX3_lay_49 : decode cX3_lay 49 = .ok (.iload_n 2, 1) := by decide +kernel
theorem dX3_lay_50 : decode cX3_lay 50 = .ok (.iload 9, 2) := by decide +kernel
theorem dX3_lay_52 : decode cX3_lay 52 = .ok (.iload 6, 2) := by decide +kernel
theorem dX3_lay_54 : decode cX3_lay 54 = .ok (.imul, 1) := by decide +kernel
theorem dX3_lay_55 : decode cX3_lay 55 = .ok (.iadd, 1) := by decide +kernel
theorem dX3_lay_56 : decode cX3_lay 56 = .ok (.iload_n 3, 1) := by decide +kernel
theorem dX3_lay_57 : decode cX3_lay 57 = .ok (.iload 9, 2) := by decide +kernel
theorem dX3_lay_59 : decode cX3_lay 59 = .ok (.iload 7, 2) := by decide +kernel
theorem dX3_lay_61 : decode cX3_lay 61 = .ok (.imul, 1) := by decide +kernel
theorem dX3_lay_62 : decode cX3_lay 62 = .ok (.iadd, 1) := by decide +kernel
theorem dX3_lay_63 : decode cX3_lay 63 = .ok (.invokevirtual 46, 3) := by decide +kernel
theorem dX3_lay_66 : decode cX3_lay 66 = .ok (.iinc 9 1, 3) := by decide +kernel
theorem dX3_lay_69 : decode cX3_lay 69 = .ok (.goto (-29), 3) := by decide +kernel
theorem dX3_lay_72 : decode cX3_lay 72 = .ok (.return_, 1) := by decide +kernel
theorem dX3_cover_0 : decode cX3_cover 0 = .ok (.aload_n 0, 1) := by decide +kernel
theorem dX3_cover_1 : decode cX3_cover 1 = .ok (.iload_n 1, 1) := by decide +kernel
theorem dX3_cover_2 : decode cX3_cover 2 = .ok (.iload_n 2, 1) := by decide +kernel
theorem dX3_cover_3 : decode cX3_cover 3 = .ok (.iload_n 3, 1) := by decide +kernel
theorem dX3_cover_4 : decode cX3_cover 4 = .ok (.iconst 2, 1) := by decide +kernel
theorem dX3_cover_5 : decode cX3_cover 5 = .ok (.invokevirtual 50, 3) := by decide +kernel
theorem dX3_cover_8 : decode cX3_cover 8 = .ok (.aload_n 0, 1) := by decide +kernel
theorem dX3_cover_9 : decode cX3_cover 9 = .ok (.iload_n 1, 1) := by decide +kernel
theorem dX3_cover_10 : decode cX3_cover 10 = .ok (.iload_n 2, 1) := by decide +kernel
theorem dX3_cover_11 : decode cX3_cover 11 = .ok (.iconst 1, 1) := by decide +kernel
theorem dX3_cover_12 : decode cX3_cover 12 = .ok (.isub, 1) := by decide +kernel
theorem dX3_cover_13 : decode cX3_cover 13 = .ok (.iload_n 3, 1) := by decide +kernel
theorem dX3_cover_14 : decode cX3_cover 14 = .ok (.iconst 1, 1) := by decide +kernel
theorem dX3_cover_15 : decode cX3_cover 15 = .ok (.invokevirtual 50, 3) := by decide +kernel
theorem dX3_cover_18 : decode cX3_cover 18 = .ok (.aload_n 0, 1) := by decide +kernel
theorem dX3_cover_19 : decode cX3_cover 19 = .ok (.iload_n 1, 1) := by decide +kernel
theorem dX3_cover_20 : decode cX3_cover 20 = .ok (.iload_n 2, 1) := by decide +kernel
theorem dX3_cover_21 : decode cX3_cover 21 = .ok (.iconst 1, 1) := by decide +kernel
theorem dX3_cover_22 : decode cX3_cover 22 = .ok (.iadd, 1) := by decide +kernel
theorem dX3_cover_23 : decode cX3_cover 23 = .ok (.iload_n 3, 1) := by decide +kernel
theorem dX3_cover_24 : decode cX3_cover 24 = .ok (.iconst 1, 1) := by decide +kernel
theorem dX3_cover_25 : decode cX3_cover 25 = .ok (.invokevirtual 50, 3) := by decide +kernel
theorem dX3_cover_28 : decode cX3_cover 28 = .ok (.aload_n 0, 1) := by decide +kernel
theorem dX3_cover_29 : decode cX3_cover 29 = .ok (.iload_n 1, 1) := by decide +kernel
theorem dX3_cover_30 : decode cX3_cover 30 = .ok (.iload_n 2, 1) := by decide +kernel
theorem dX3_cover_31 : decode cX3_cover 31 = .ok (.iload_n 3, 1) := by decide +kernel
theorem dX3_cover_32 : decode cX3_cover 32 = .ok (.iconst 1, 1) := by decide +kernel
theorem dX3_cover_33 : decode cX3_cover 33 = .ok (.isub, 1) := by decide +kernel
theorem dX3_cover_34 : decode cX3_cover 34 = .ok (.iconst 1, 1) := by decide +kernel
theorem dX3_cover_35 : decode cX3_cover 35 = .ok (.invokevirtual 50, 3) := by decide +kernel
theorem dX3_cover_38 : decode cX3_cover 38 = .ok (.aload_n 0, 1) := by decide +kernel
theorem dX3_cover_39 : decode cX3_cover 39 = .ok (.iload_n 1, 1) := by decide +kernel
theorem dX3_cover_40 : decode cX3_cover 40 = .ok (.iload_n 2, 1) := by decide +kernel
theorem dX3_cover_41 : decode cX3_cover 41 = .ok (.iload_n 3, 1) := by decide +kernel
theorem dX3_cover_42 : decode cX3_cover 42 = .ok (.iconst 1, 1) := by decide +kernel
theorem dX3_cover_43 : decode cX3_cover 43 = .ok (.iadd, 1) := by decide +kernel
theorem dX3_cover_44 : decode cX3_cover 44 = .ok (.iconst 1, 1) := by decide +kernel
theorem dX3_cover_45 : decode cX3_cover 45 = .ok (.invokevirtual 50, 3) := by decide +kernel
theorem dX3_cover_48 : decode cX3_cover 48 = .ok (.iload_n 2, 1) := by decide +kernel
theorem dX3_cover_49 : decode cX3_cover 49 = .ok (.iload_n 3, 1) := by decide +kernel
theorem dX3_cover_50 : decode cX3_cover 50 = .ok (.invokestatic 54, 3) := by decide +kernel
theorem dX3_cover_53 : decode cX3_cover 53 = .ok (.istore 4, 2) := by decide +kernel
theorem dX3_cover_55 : decode cX3_cover 55 = .ok (.aload_n 0, 1) := by decide +kernel
theorem dX3_cover_56 : decode cX3_cover 56 = .ok (.getfield 25, 3) := by decide +kernel
theorem dX3_cover_59 : decode cX3_cover 59 = .ok (.iload 4, 2) := by decide +kernel
theorem dX3_cover_61 : decode cX3_cover 61 = .ok (.dup2, 1) := by decide +kernel
theorem dX3_cover_62 : decode cX3_cover 62 = .ok (.iaload, 1) := by decide +kernel
theorem dX3_cover_63 : decode cX3_cover 63 = .ok (.aload_n 0, 1) := by decide +kernel
theorem dX3_cover_64 : decode cX3_cover 64 = .ok (.getfield 19, 3) := by decide +kernel
theorem dX3_cover_67 : decode cX3_cover 67 = .ok (.iload_n 1, 1) := by decide +kernel
theorem dX3_cover_68 : decode cX3_cover 68 = .ok (.iaload, 1) := by decide +kernel
theorem dX3_cover_69 : decode cX3_cover 69 = .ok (.iadd, 1) := by decide +kernel
theorem dX3_cover_70 : decode cX3_cover 70 = .ok (.iastore, 1) := by decide +kernel
theorem dX3_cover_71 : decode cX3_cover 71 = .ok (.aload_n 0, 1) := by decide +kernel
theorem dX3_cover_72 : decode cX3_cover 72 = .ok (.getfield 28, 3) := by decide +kernel
theorem dX3_cover_75 : decode cX3_cover 75 = .ok (.iload 4, 2) := by decide +kernel
theorem dX3_cover_77 : decode cX3_cover 77 = .ok (.iaload, 1) := by decide +kernel
theorem dX3_cover_78 : decode cX3_cover 78 = .ok (.ifCond .eq 19, 3) := by decide +kernel
theorem dX3_cover_81 : decode cX3_cover 81 = .ok (.aload_n 0, 1) := by decide +kernel
theorem dX3_cover_82 : decode cX3_cover 82 = .ok (.getfield 15, 3) := by decide +kernel
theorem dX3_cover_85 : decode cX3_cover 85 = .ok (.iload_n 1, 1) := by decide +kernel
theorem dX3_cover_86 : decode cX3_cover 86 = .ok (.iaload, 1) := by decide +kernel
theorem dX3_cover_87 : decode cX3_cover 87 = .ok (.aload_n 0, 1) := by decide +kernel
theorem dX3_cover_88 : decode cX3_cover 88 = .ok (.getfield 28, 3) := by decide +kernel
theorem dX3_cover_91 : decode cX3_cover 91 = .ok (.iload 4, 2) := by decide +kernel
theorem dX3_cover_93 : decode cX3_cover 93 = .ok (.iaload, 1) := by decide +kernel
theorem dX3_cover_94 : decode cX3_cover 94 = .ok (.if_icmp .ge 7, 3) := by decide +kernel
theorem dX3_cover_97 : decode cX3_cover 97 = .ok (.iconst 1, 1) := by decide +kernel
theorem dX3_cover_98 : decode cX3_cover 98 = .ok (.goto 4, 3) := by decide +kernel
theorem dX3_cover_101 : decode cX3_cover 101 = .ok (.iconst 0, 1) := by decide +kernel
theorem dX3_cover_102 : decode cX3_cover 102 = .ok (.istore 5, 2) := by decide +kernel
theorem dX3_cover_104 : decode cX3_cover 104 = .ok (.aload_n 0, 1) := by decide +kernel
theorem dX3_cover_105 : decode cX3_cover 105 = .ok (.getfield 28, 3) := by decide +kernel
theorem dX3_cover_108 : decode cX3_cover 108 = .ok (.iload 4, 2) := by decide +kernel
theorem dX3_cover_110 : decode cX3_cover 110 = .ok (.iload 5, 2) := by decide +kernel
theorem dX3_cover_112 : decode cX3_cover 112 = .ok (.ifCond .eq 12, 3) := by decide +kernel
theorem dX3_cover_115 : decode cX3_cover 115 = .ok (.aload_n 0, 1) := by decide +kernel
theorem dX3_cover_116 : decode cX3_cover 116 = .ok (.getfield 15, 3) := by decide +kernel
theorem dX3_cover_119 : decode cX3_cover 119 = .ok (.iload_n 1, 1) := by decide +kernel
theorem dX3_cover_120 : decode cX3_cover 120 = .ok (.iaload, 1) := by decide +kernel
theorem dX3_cover_121 : decode cX3_cover 121 = .ok (.goto 10, 3) := by decide +kernel
theorem dX3_cover_124 : decode cX3_cover 124 = .ok (.aload_n 0, 1) := by decide +kernel
theorem dX3_cover_125 : decode cX3_cover 125 = .ok (.getfield 28, 3) := by decide +kernel
theorem dX3_cover_128 : decode cX3_cover 128 = .ok (.iload 4, 2) := by decide +kernel
theorem dX3_cover_130 : decode cX3_cover 130 = .ok (.iaload, 1) := by decide +kernel
theorem dX3_cover_131 : decode cX3_cover 131 = .ok (.iastore, 1) := by decide +kernel
theorem dX3_cover_132 : decode cX3_cover 132 = .ok (.return_, 1) := by decide +kernel
theorem dX3_raise_0 : decode cX3_raise 0 = .ok (.iload_n 2, 1) := by decide +kernel
theorem dX3_raise_1 : decode cX3_raise 1 = .ok (.iload_n 3, 1) := by decide +kernel
theorem dX3_raise_2 : decode cX3_raise 2 = .ok (.invokestatic 57, 3) := by decide +kernel
theorem dX3_raise_5 : decode cX3_raise 5 = .ok (.ifCond .eq 35, 3) := by decide +kernel
theorem dX3_raise_8 : decode cX3_raise 8 = .ok (.iload_n 1, 1) := by decide +kernel
theorem dX3_raise_9 : decode cX3_raise 9 = .ok (.sipush 400, 3) := by decide +kernel
theorem dX3_raise_12 : decode cX3_raise 12 = .ok (.imul, 1) := by decide +kernel
theorem dX3_raise_13 : decode cX3_raise 13 = .ok (.iload_n 2, 1) := by decide +kernel
theorem dX3_raise_14 : decode cX3_raise 14 = .ok (.iload_n 3, 1) := by decide +kernel
theorem dX3_raise_15 : decode cX3_raise 15 = .ok (.invokestatic 54, 3) := by decide +kernel
theorem dX3_raise_18 : decode cX3_raise 18 = .ok (.iadd, 1) := by decide +kernel
theorem dX3_raise_19 : decode cX3_raise 19 = .ok (.istore 5, 2) := by decide +kernel
theorem dX3_raise_21 : decode cX3_raise 21 = .ok (.aload_n 0, 1) := by decide +kernel
theorem dX3_raise_22 : decode cX3_raise 22 = .ok (.getfield 22, 3) := by decide +kernel
theorem dX3_raise_25 : decode cX3_raise 25 = .ok (.iload 5, 2) := by decide +kernel
theorem dX3_raise_27 : decode cX3_raise 27 = .ok (.aload_n 0, 1) := by decide +kernel
theorem dX3_raise_28 : decode cX3_raise 28 = .ok (.getfield 22, 3) := by decide +kernel
theorem dX3_raise_31 : decode cX3_raise 31 = .ok (.iload 5, 2) := by decide +kernel
theorem dX3_raise_33 : decode cX3_raise 33 = .ok (.iaload, 1) := by decide +kernel
theorem dX3_raise_34 : decode cX3_raise 34 = .ok (.iload 4, 2) := by decide +kernel
theorem dX3_raise_36 : decode cX3_raise 36 = .ok (.invokestatic 42, 3) := by decide +kernel
theorem dX3_raise_39 : decode cX3_raise 39 = .ok (.iastore, 1) := by decide +kernel
theorem dX3_raise_40 : decode cX3_raise 40 = .ok (.return_, 1) := by decide +kernel
theorem dX3_bend_0 : decode cX3_bend 0 = .ok (.iconst 0, 1) := by decide +kernel
theorem dX3_bend_1 : decode cX3_bend 1 = .ok (.istore_n 3, 1) := by decide +kernel
theorem dX3_bend_2 : decode cX3_bend 2 = .ok (.iconst 0, 1) := by decide +kernel
theorem dX3_bend_3 : decode cX3_bend 3 = .ok (.istore 4, 2) := by decide +kernel
theorem dX3_bend_5 : decode cX3_bend 5 = .ok (.iload 4, 2) := by decide +kernel
theorem dX3_bend_7 : decode cX3_bend 7 = .ok (.aload_n 0, 1) := by decide +kernel
theorem dX3_bend_8 : decode cX3_bend 8 = .ok (.getfield 9, 3) := by decide +kernel
theorem dX3_bend_11 : decode cX3_bend 11 = .ok (.if_icmp .ge 72, 3) := by decide +kernel
theorem dX3_bend_14 : decode cX3_bend 14 = .ok (.aload_n 0, 1) := by decide +kernel
theorem dX3_bend_15 : decode cX3_bend 15 = .ok (.getfield 22, 3) := by decide +kernel
theorem dX3_bend_18 : decode cX3_bend 18 = .ok (.iload 4, 2) := by decide +kernel
theorem dX3_bend_20 : decode cX3_bend 20 = .ok (.sipush 400, 3) := by decide +kernel
theorem dX3_bend_23 : decode cX3_bend 23 = .ok (.imul, 1) := by decide +kernel
theorem dX3_bend_24 : decode cX3_bend 24 = .ok (.iload_n 1, 1) := by decide +kernel
theorem dX3_bend_25 : decode cX3_bend 25 = .ok (.iadd, 1) := by decide +kernel
theorem dX3_bend_26 : decode cX3_bend 26 = .ok (.iaload, 1) := by decide +kernel
theorem dX3_bend_27 : decode cX3_bend 27 = .ok (.istore 5, 2) := by decide +kernel
theorem dX3_bend_29 : decode cX3_bend 29 = .ok (.aload_n 0, 1) := by decide +kernel
theorem dX3_bend_30 : decode cX3_bend 30 = .ok (.getfield 19, 3) := by decide +kernel
theorem dX3_bend_33 : decode cX3_bend 33 = .ok (.iload 4, 2) := by decide +kernel
theorem dX3_bend_35 : decode cX3_bend 35 = .ok (.iaload, 1) := by decide +kernel
theorem dX3_bend_36 : decode cX3_bend 36 = .ok (.iload_n 2, 1) := by decide +kernel
theorem dX3_bend_37 : decode cX3_bend 37 = .ok (.imul, 1) := by decide +kernel
theorem dX3_bend_38 : decode cX3_bend 38 = .ok (.aload_n 0, 1) := by decide +kernel
theorem dX3_bend_39 : decode cX3_bend 39 = .ok (.getfield 15, 3) := by decide +kernel
theorem dX3_bend_42 : decode cX3_bend 42 = .ok (.iload 4, 2) := by decide +kernel
theorem dX3_bend_44 : decode cX3_bend 44 = .ok (.iaload, 1) := by decide +kernel
theorem dX3_bend_45 : decode cX3_bend 45 = .ok (.invokestatic 61, 3) := by decide +kernel
theorem dX3_bend_48 : decode cX3_bend 48 = .ok (.istore 6, 2) := by decide +kernel
theorem dX3_bend_50 : decode cX3_bend 50 = .ok (.iload 5, 2) := by decide +kernel
theorem dX3_bend_52 : decode cX3_bend 52 = .ok (.iconst 2, 1) := by decide +kernel
theorem dX3_bend_53 : decode cX3_bend 53 = .ok (.if_icmp .ne 11, 3) := by decide +kernel
theorem dX3_bend_56 : decode cX3_bend 56 = .ok (.iload_n 3, 1) := by decide +kernel
theorem dX3_bend_57 : decode cX3_bend 57 = .ok (.iload 6, 2) := by decide +kernel
theorem dX3_bend_59 : decode cX3_bend 59 = .ok (.iadd, 1) := by decide +kernel
theorem dX3_bend_60 : decode cX3_bend 60 = .ok (.istore_n 3, 1) := by decide +kernel
theorem dX3_bend_61 : decode cX3_bend 61 = .ok (.goto 16, 3) := by decide +kernel
theorem dX3_bend_64 : decode cX3_bend 64 = .ok (.iload 5, 2) := by decide +kernel
theorem dX3_bend_66 : decode cX3_bend 66 = .ok (.iconst 1, 1) := by decide +kernel
theorem dX3_bend_67 : decode cX3_bend 67 = .ok (.if_icmp .ne 10, 3) := by decide +kernel
theorem dX3_bend_70 : decode cX3_bend 70 = .ok (.iload_n 3, 1) := by decide +kernel
theorem dX3_bend_71 : decode cX3_bend 71 = .ok (.iload 6, 2) := by decide +kernel
theorem dX3_bend_73 : decode cX3_bend 73 = .ok (.iconst 2, 1) := by decide +kernel
theorem dX3_bend_74 : decode cX3_bend 74 = .ok (.idiv, 1) := by decide +kernel
theorem dX3_bend_75 : decode cX3_bend 75 = .ok (.iadd, 1) := by decide +kernel
theorem dX3_bend_76 : decode cX3_bend 76 = .ok (.istore_n 3, 1) := by decide +kernel
theorem dX3_bend_77 : decode cX3_bend 77 = .ok (.iinc 4 1, 3) := by decide +kernel
theorem dX3_bend_80 : decode cX3_bend 80 = .ok (.goto (-75), 3) := by decide +kernel
theorem dX3_bend_83 : decode cX3_bend 83 = .ok (.iload_n 3, 1) := by decide +kernel
theorem dX3_bend_84 : decode cX3_bend 84 = .ok (.ireturn, 1) := by decide +kernel
theorem dX3_wetSpots_0 : decode cX3_wetSpots 0 = .ok (.iconst 0, 1) := by decide +kernel
theorem dX3_wetSpots_1 : decode cX3_wetSpots 1 = .ok (.istore_n 1, 1) := by decide +kernel
theorem dX3_wetSpots_2 : decode cX3_wetSpots 2 = .ok (.iconst 0, 1) := by decide +kernel
theorem dX3_wetSpots_3 : decode cX3_wetSpots 3 = .ok (.istore_n 2, 1) := by decide +kernel
theorem dX3_wetSpots_4 : decode cX3_wetSpots 4 = .ok (.iload_n 2, 1) := by decide +kernel
theorem dX3_wetSpots_5 : decode cX3_wetSpots 5 = .ok (.sipush 400, 3) := by decide +kernel
theorem dX3_wetSpots_8 : decode cX3_wetSpots 8 = .ok (.if_icmp .ge 21, 3) := by decide +kernel
theorem dX3_wetSpots_11 : decode cX3_wetSpots 11 = .ok (.aload_n 0, 1) := by decide +kernel
theorem dX3_wetSpots_12 : decode cX3_wetSpots 12 = .ok (.getfield 25, 3) := by decide +kernel
theorem dX3_wetSpots_15 : decode cX3_wetSpots 15 = .ok (.iload_n 2, 1) := by decide +kernel
theorem dX3_wetSpots_16 : decode cX3_wetSpots 16 = .ok (.iaload, 1) := by decide +kernel
theorem dX3_wetSpots_17 : decode cX3_wetSpots 17 = .ok (.ifCond .le 6, 3) := by decide +kernel
theorem dX3_wetSpots_20 : decode cX3_wetSpots 20 = .ok (.iinc 1 1, 3) := by decide +kernel
theorem dX3_wetSpots_23 : decode cX3_wetSpots 23 = .ok (.iinc 2 1, 3) := by decide +kernel
theorem dX3_wetSpots_26 : decode cX3_wetSpots 26 = .ok (.goto (-22), 3) := by decide +kernel
theorem dX3_wetSpots_29 : decode cX3_wetSpots 29 = .ok (.iload_n 1, 1) := by decide +kernel
theorem dX3_wetSpots_30 : decode cX3_wetSpots 30 = .ok (.ireturn, 1) := by decide +kernel
theorem dX4_init_0 : decode cX4_init 0 = .ok (.aload_n 0, 1) := by decide +kernel
theorem dX4_init_1 : decode cX4_init 1 = .ok (.invokespecial 3, 3) := by decide +kernel
theorem dX4_init_4 : decode cX4_init 4 = .ok (.aload_n 0, 1) := by decide +kernel
theorem dX4_init_5 : decode cX4_init 5 = .ok (.new 9, 3) := by decide +kernel
theorem dX4_init_8 : decode cX4_init 8 = .ok (.dup, 1) := by decide +kernel
theorem dX4_init_9 : decode cX4_init 9 = .ok (.invokespecial 11, 3) := by decide +kernel
theorem dX4_init_12 : decode cX4_init 12 = .ok (.putfield 12, 3) := by decide +kernel
theorem dX4_init_15 : decode cX4_init 15 = .ok (.aload_n 0, 1) := by decide +kernel
theorem dX4_init_16 : decode cX4_init 16 = .ok (.new 16, 3) := by decide +kernel
theorem dX4_init_19 : decode cX4_init 19 = .ok (.dup, 1) := by decide +kernel
theorem dX4_init_20 : decode cX4_init 20 = .ok (.invokespecial 18, 3) := by decide +kernel
theorem dX4_init_23 : decode cX4_init 23 = .ok (.putfield 19, 3) := by decide +kernel
theorem dX4_init_26 : decode cX4_init 26 = .ok (.aload_n 0, 1) := by decide +kernel
theorem dX4_init_27 : decode cX4_init 27 = .ok (.new 23, 3) := by decide +kernel
theorem dX4_init_30 : decode cX4_init 30 = .ok (.dup, 1) := by decide +kernel
theorem dX4_init_31 : decode cX4_init 31 = .ok (.invokespecial 25, 3) := by decide +kernel
theorem dX4_init_34 : decode cX4_init 34 = .ok (.putfield 26, 3) := by decide +kernel
theorem dX4_init_37 : decode cX4_init 37 = .ok (.aload_n 0, 1) := by decide +kernel
theorem dX4_init_38 : decode cX4_init 38 = .ok (.new 30, 3) := by decide +kernel
theorem dX4_init_41 : decode cX4_init 41 = .ok (.dup, 1) := by decide +kernel
theorem dX4_init_42 : decode cX4_init 42 = .ok (.invokespecial 32, 3) := by decide +kernel
theorem dX4_init_45 : decode cX4_init 45 = .ok (.putfield 33, 3) := by decide +kernel
theorem dX4_init_48 : decode cX4_init 48 = .ok (.aload_n 0, 1) := by decide +kernel
theorem dX4_init_49 : decode cX4_init 49 = .ok (.iconst 3, 1) := by decide +kernel
theorem dX4_init_50 : decode cX4_init 50 = .ok (.putfield 37, 3) := by decide +kernel
theorem dX4_init_53 : decode cX4_init 53 = .ok (.aload_n 0, 1) := by decide +kernel
theorem dX4_init_54 : decode cX4_init 54 = .ok (.iconst 0, 1) := by decide +kernel
theorem dX4_init_55 : decode cX4_init 55 = .ok (.putfield 41, 3) := by decide +kernel
theorem dX4_init_58 : decode cX4_init 58 = .ok (.return_, 1) := by decide +kernel
theorem dX4_vein_0 : decode cX4_vein 0 = .ok (.iload_n 1, 1) := by decide +kernel
theorem dX4_vein_1 : decode cX4_vein 1 = .ok (.iload_n 2, 1) := by decide +kernel
theorem dX4_vein_2 : decode cX4_vein 2 = .ok (.invokestatic 44, 3) := by decide +kernel
theorem dX4_vein_5 : decode cX4_vein 5 = .ok (.ifCond .eq 12, 3) := by decide +kernel
theorem dX4_vein_8 : decode cX4_vein 8 = .ok (.iload_n 3, 1) := by decide +kernel
theorem dX4_vein_9 : decode cX4_vein 9 = .ok (.iload 4, 2) := by decide +kernel
theorem dX4_vein_11 : decode cX4_vein 11 = .ok (.invokestatic 44, 3) := by decide +kernel
theorem dX4_vein_14 : decode cX4_vein 14 = .ok (.ifCond .ne 13, 3) := by decide +kernel
theorem dX4_vein_17 : decode cX4_vein 17 = .ok (.new 48, 3) := by decide +kernel
theorem dX4_vein_20 : decode cX4_vein 20 = .ok (.dup, 1) := by decide +kernel
theorem dX4_vein_21 : decode cX4_vein 21 = .ok (.ldc 50, 2) := by decide +kernel
theorem dX4_vein_23 : decode cX4_vein 23 = .ok (.invokespecial 52, 3) := by decide +kernel
theorem dX4_vein_26 : decode cX4_vein 26 = .ok (.athrow, 1) := by decide +kernel
theorem dX4_vein_27 : decode cX4_vein 27 = .ok (.iload_n 1, 1) := by decide +kernel
theorem dX4_vein_28 : decode cX4_vein 28 = .ok (.iload_n 2, 1) := by decide +kernel
theorem dX4_vein_29 : decode cX4_vein 29 = .ok (.iload_n 3, 1) := by decide +kernel
theorem dX4_vein_30 : decode cX4_vein 30 = .ok (.iload 4, 2) := by decide +kernel
theorem dX4_vein_32 : decode cX4_vein 32 = .ok (.invokestatic 55, 3) := by decide +kernel
theorem dX4_vein_35 : decode cX4_vein 35 = .ok (.ifCond .ne 13, 3) := by decide +kernel
theorem dX4_vein_38 : decode cX4_vein 38 = .ok (.new 59, 3) := by decide +kernel
theorem dX4_vein_41 : decode cX4_vein 41 = .ok (.dup, 1) := by decide +kernel
theorem dX4_vein_42 : decode cX4_vein 42 = .ok (.ldc 61, 2) := by decide +kernel
theorem dX4_vein_44 : decode cX4_vein 44 = .ok (.invokespecial 63, 3) := by decide +kernel
theorem dX4_vein_47 : decode cX4_vein 47 = .ok (.athrow, 1) := by decide +kernel
theorem dX4_vein_48 : decode cX4_vein 48 = .ok (.iload 5, 2) := by decide +kernel
theorem dX4_vein_50 : decode cX4_vein 50 = .ok (.iconst 1, 1) := by decide +kernel
theorem dX4_vein_51 : decode cX4_vein 51 = .ok (.bipush 20, 2) := by decide +kernel
theorem dX4_vein_53 : decode cX4_vein 53 = .ok (.invokestatic 64, 3) := by decide +kernel
theorem dX4_vein_56 : decode cX4_vein 56 = .ok (.ifCond .eq 14, 3) := by decide +kernel
theorem dX4_vein_59 : decode cX4_vein 59 = .ok (.iload 6, 2) := by decide +kernel
theorem dX4_vein_61 : decode cX4_vein 61 = .ok (.iconst 1, 1) := by decide +kernel
theorem dX4_vein_62 : decode cX4_vein 62 = .ok (.bipush 9, 2) := by decide +kernel
theorem dX4_vein_64 : decode cX4_vein 64 = .ok (.invokestatic 64, 3) := by decide +kernel
theorem dX4_vein_67 : decode cX4_vein 67 = .ok (.ifCond .ne 13, 3) := by decide +kernel
theorem dX4_vein_70 : decode cX4_vein 70 = .ok (.new 59, 3) := by decide +kernel
theorem dX4_vein_73 : decode cX4_vein 73 = .ok (.dup, 1) := by decide +kernel
theorem dX4_vein_74 : decode cX4_vein 74 = .ok (.ldc 68, 2) := by decide +kernel
theorem dX4_vein_76 : decode cX4_vein 76 = .ok (.invokespecial 63, 3) := by decide +kernel
theorem dX4_vein_79 : decode cX4_vein 79 = .ok (.athrow, 1) := by decide +kernel
theorem dX4_vein_80 : decode cX4_vein 80 = .ok (.aload_n 0, 1) := by decide +kernel
theorem dX4_vein_81 : decode cX4_vein 81 = .ok (.getfield 12, 3) := by decide +kernel
theorem dX4_vein_84 : decode cX4_vein 84 = .ok (.getfield 70, 3) := by decide +kernel
theorem dX4_vein_87 : decode cX4_vein 87 = .ok (.bipush 6, 2) := by decide +kernel
theorem dX4_vein_89 : decode cX4_vein 89 = .ok (.if_icmp .lt 13, 3) := by decide +kernel
theorem dX4_vein_92 : decode cX4_vein 92 = .ok (.new 73, 3) := by decide +kernel
theorem dX4_vein_95 : decode cX4_vein 95 = .ok (.dup, 1) := by decide +kernel
theorem dX4_vein_96 : decode cX4_vein 96 = .ok (.ldc 75, 2) := by decide +kernel
theorem dX4_vein_98 : decode cX4_vein 98 = .ok (.invokespecial 77, 3) := by decide +kernel
theorem dX4_vein_101 : decode cX4_vein 101 = .ok (.athrow, 1) := by decide +kernel
theorem dX4_vein_102 : decode cX4_vein 102 = .ok (.aload_n 0, 1) := by decide +kernel
theorem dX4_vein_103 : decode cX4_vein 103 = .ok (.getfield 12, 3) := by decide +kernel
theorem dX4_vein_106 : decode cX4_vein 106 = .ok (.iload 5, 2) := by decide +kernel
theorem dX4_vein_108 : decode cX4_vein 108 = .ok (.iload 6, 2) := by decide +kernel
theorem dX4_vein_110 : decode cX4_vein 110 = .ok (.invokevirtual 78, 3) := by decide +kernel
theorem dX4_vein_113 : decode cX4_vein 113 = .ok (.istore 7, 2) := by decide +kernel
theorem dX4_vein_115 : decode cX4_vein 115 = .ok (.aload_n 0, 1) := by decide +kernel
theorem dX4_vein_116 : decode cX4_vein 116 = .ok (.getfield 12, 3) := by decide +kernel
theorem dX4_vein_119 : decode cX4_vein 119 = .ok (.iload 7, 2) := by decide +kernel
theorem dX4_vein_121 : decode cX4_vein 121 = .ok (.iload_n 1, 1) := by decide +kernel
theorem dX4_vein_122 : decode cX4_vein 122 = .ok (.iload_n 2, 1) := by decide +kernel
theorem dX4_vein_123 : decode cX4_vein 123 = .ok (.iload_n 3, 1) := by decide +kernel
theorem dX4_vein_124 : decode cX4_vein 124 = .ok (.iload 4, 2) := by decide +kernel
theorem dX4_vein_126 : decode cX4_vein 126 = .ok (.invokevirtual 82, 3) := by decide +kernel
theorem dX4_vein_129 : decode cX4_vein 129 = .ok (.iload 7, 2) := by decide +kernel
theorem dX4_vein_131 : decode cX4_vein 131 = .ok (.ireturn, 1) := by decide +kernel
theorem dX4_dowser_0 : decode cX4_dowser 0 = .ok (.iload_n 1, 1) := by decide +kernel
theorem dX4_dowser_1 : decode cX4_dowser 1 = .ok (.iconst 0, 1) := by decide +kernel
theorem dX4_dowser_2 : decode cX4_dowser 2 = .ok (.bipush 9, 2) := by decide +kernel
theorem dX4_dowser_4 : decode cX4_dowser 4 = .ok (.invokestatic 64, 3) := by decide +kernel
theorem dX4_dowser_7 : decode cX4_dowser 7 = .ok (.ifCond .eq 13, 3) := by decide +kernel
theorem dX4_dowser_10 : decode cX4_dowser 10 = .ok (.iload_n 2, 1) := by decide +kernel
theorem dX4_dowser_11 : decode cX4_dowser 11 = .ok (.bipush (-3), 2) := by decide +kernel
theorem dX4_dowser_13 : decode cX4_dowser 13 = .ok (.iconst 3, 1) := by decide +kernel
theorem dX4_dowser_14 : decode cX4_dowser 14 = .ok (.invokestatic 64, 3) := by decide +kernel
theorem dX4_dowser_17 : decode cX4_dowser 17 = .ok (.ifCond .ne 13, 3) := by decide +kernel
theorem dX4_dowser_20 : decode cX4_dowser 20 = .ok (.new 59, 3) := by decide +kernel
theorem dX4_dowser_23 : decode cX4_dowser 23 = .ok (.dup, 1) := by decide +kernel
theorem dX4_dowser_24 : decode cX4_dowser 24 = .ok (.ldc 86, 2) := by decide +kernel
theorem dX4_dowser_26 : decode cX4_dowser 26 = .ok (.invokespecial 63, 3) := by decide +kernel
theorem dX4_dowser_29 : decode cX4_dowser 29 = .ok (.athrow, 1) := by decide +kernel
theorem dX4_dowser_30 : decode cX4_dowser 30 = .ok (.aload_n 0, 1) := by decide +kernel
theorem dX4_dowser_31 : decode cX4_dowser 31 = .ok (.getfield 19, 3) := by decide +kernel
theorem dX4_dowser_34 : decode cX4_dowser 34 = .ok (.getfield 88, 3) := by decide +kernel
theorem dX4_dowser_37 : decode cX4_dowser 37 = .ok (.iconst 5, 1) := by decide +kernel
theorem dX4_dowser_38 : decode cX4_dowser 38 = .ok (.if_icmp .lt 13, 3) := by decide +kernel
theorem dX4_dowser_41 : decode cX4_dowser 41 = .ok (.new 73, 3) := by decide +kernel
theorem dX4_dowser_44 : decode cX4_dowser 44 = .ok (.dup, 1) := by decide +kernel
theorem dX4_dowser_45 : decode cX4_dowser 45 = .ok (.ldc 89, 2) := by decide +kernel
theorem dX4_dowser_47 : decode cX4_dowser 47 = .ok (.invokespecial 77, 3) := by decide +kernel
theorem dX4_dowser_50 : decode cX4_dowser 50 = .ok (.athrow, 1) := by decide +kernel
theorem dX4_dowser_51 : decode cX4_dowser 51 = .ok (.aload_n 0, 1) := by decide +kernel
theorem dX4_dowser_52 : decode cX4_dowser 52 = .ok (.getfield 19, 3) := by decide +kernel
theorem dX4_dowser_55 : decode cX4_dowser 55 = .ok (.iload_n 1, 1) := by decide +kernel
theorem dX4_dowser_56 : decode cX4_dowser 56 = .ok (.iload_n 2, 1) := by decide +kernel
theorem dX4_dowser_57 : decode cX4_dowser 57 = .ok (.invokevirtual 91, 3) := by decide +kernel
theorem dX4_dowser_60 : decode cX4_dowser 60 = .ok (.ireturn, 1) := by decide +kernel
theorem dX4_setMark_0 : decode cX4_setMark 0 = .ok (.iload_n 1, 1) := by decide +kernel
theorem dX4_setMark_1 : decode cX4_setMark 1 = .ok (.iconst 1, 1) := by decide +kernel
theorem dX4_setMark_2 : decode cX4_setMark 2 = .ok (.bipush 30, 2) := by decide +kernel
theorem dX4_setMark_4 : decode cX4_setMark 4 = .ok (.invokestatic 64, 3) := by decide +kernel
theorem dX4_setMark_7 : decode cX4_setMark 7 = .ok (.ifCond .ne 13, 3) := by decide +kernel
theorem dX4_setMark_10 : decode cX4_setMark 10 = .ok (.new 59, 3) := by decide +kernel
theorem dX4_setMark_13 : decode cX4_setMark 13 = .ok (.dup, 1) := by decide +kernel
theorem dX4_setMark_14 : decode cX4_setMark 14 = .ok (.ldc 94, 2) := by decide +kernel
theorem dX4_setMark_16 : decode cX4_setMark 16 = .ok (.invokespecial 63, 3) := by decide +kernel
theorem dX4_setMark_19 : decode cX4_setMark 19 = .ok (.athrow, 1) := by decide +kernel
theorem dX4_setMark_20 : decode cX4_setMark 20 = .ok (.aload_n 0, 1) := by decide +kernel
theorem dX4_setMark_21 : decode cX4_setMark 21 = .ok (.getfield 37, 3) := by decide +kernel
theorem dX4_setMark_24 : decode cX4_setMark 24 = .ok (.istore_n 2, 1) := by decide +kernel
theorem dX4_setMark_25 : decode cX4_setMark 25 = .ok (.aload_n 0, 1) := by decide +kernel
theorem dX4_setMark_26 : decode cX4_setMark 26 = .ok (.iload_n 1, 1) := by decide +kernel
theorem dX4_setMark_27 : decode cX4_setMark 27 = .ok (.putfield 37, 3) := by decide +kernel
theorem dX4_setMark_30 : decode cX4_setMark 30 = .ok (.iload_n 2, 1) := by decide +kernel
theorem dX4_setMark_31 : decode cX4_setMark 31 = .ok (.ireturn, 1) := by decide +kernel
theorem dX4_walk_0 : decode cX4_walk 0 = .ok (.aload_n 0, 1) := by decide +kernel
theorem dX4_walk_1 : decode cX4_walk 1 = .ok (.iload_n 1, 1) := by decide +kernel
theorem dX4_walk_2 : decode cX4_walk 2 = .ok (.invokevirtual 96, 3) := by decide +kernel
theorem dX4_walk_5 : decode cX4_walk 5 = .ok (.ifCond .eq 21, 3) := by decide +kernel
theorem dX4_walk_8 : decode cX4_walk 8 = .ok (.iload_n 2, 1) := by decide +kernel
theorem dX4_walk_9 : decode cX4_walk 9 = .ok (.iload_n 3, 1) := by decide +kernel
theorem dX4_walk_10 : decode cX4_walk 10 = .ok (.invokestatic 44, 3) := by decide +kernel
theorem dX4_walk_13 : decode cX4_walk 13 = .ok (.ifCond .eq 13, 3) := by decide +kernel
theorem dX4_walk_16 : decode cX4_walk 16 = .ok (.iload 4, 2) := by decide +kernel
theorem dX4_walk_18 : decode cX4_walk 18 = .ok (.iload 5, 2) := by decide +kernel
theorem dX4_walk_20 : decode cX4_walk 20 = .ok (.invokestatic 44, 3) := by decide +kernel
theorem dX4_walk_23 : decode cX4_walk 23 = .ok (.ifCond .ne 13, 3) := by decide +kernel
theorem dX4_walk_26 : decode cX4_walk 26 = .ok (.new 48, 3) := by decide +kernel
theorem dX4_walk_29 : decode cX4_walk 29 = .ok (.dup, 1) := by decide +kernel
theorem dX4_walk_30 : decode cX4_walk 30 = .ok (.ldc 100, 2) := by decide +kernel
theorem dX4_walk_32 : decode cX4_walk 32 = .ok (.invokespecial 52, 3) := by decide +kernel
theorem dX4_walk_35 : decode cX4_walk 35 = .ok (.athrow, 1) := by decide +kernel
theorem dX4_walk_36 : decode cX4_walk 36 = .ok (.iconst 0, 1) := by decide +kernel
theorem dX4_walk_37 : decode cX4_walk 37 = .ok (.istore 6, 2) := by decide +kernel
theorem dX4_walk_39 : decode cX4_walk 39 = .ok (.iload 4, 2) := by decide +kernel
theorem dX4_walk_41 : decode cX4_walk 41 = .ok (.iload_n 2, 1) := by decide +kernel
theorem dX4_walk_42 : decode cX4_walk 42 = .ok (.isub, 1) := by decide +kernel
theorem dX4_walk_43 : decode cX4_walk 43 = .ok (.invokestatic 102, 3) := by decide +kernel
theorem dX4_walk_46 : decode cX4_walk 46 = .ok (.istore 7, 2) := by decide +kernel
theorem dX4_walk_48 : decode cX4_walk 48 = .ok (.iload 4, 2) := by decide +kernel
theorem dX4_walk_50 : decode cX4_walk 50 = .ok (.iload_n 2, 1) := by decide +kernel
theorem dX4_walk_51 : decode cX4_walk 51 = .ok (.isub, 1) := by decide +kernel
theorem dX4_walk_52 : decode cX4_walk 52 = .ok (.invokestatic 108, 3) := by decide +kernel
theorem dX4_walk_55 : decode cX4_walk 55 = .ok (.istore 8, 2) := by decide +kernel
theorem dX4_walk_57 : decode cX4_walk 57 = .ok (.iconst 0, 1) := by decide +kernel
theorem dX4_walk_58 : decode cX4_walk 58 = .ok (.istore 9, 2) := by decide +kernel
theorem dX4_walk_60 : decode cX4_walk 60 = .ok (.iload 9, 2) := by decide +kernel
theorem dX4_walk_62 : decode cX4_walk 62 = .ok (.iload 8, 2) := by decide +kernel
theorem dX4_walk_64 : decode cX4_walk 64 = .ok (.if_icmp .gt 30, 3) := by decide +kernel
theorem dX4_walk_67 : decode cX4_walk 67 = .ok (.iload 6, 2) := by decide +kernel
theorem dX4_walk_69 : decode cX4_walk 69 = .ok (.aload_n 0, 1) := by decide +kernel
theorem dX4_walk_70 : decode cX4_walk 70 = .ok (.iload_n 1, 1) := by decide +kernel
theorem dX4_walk_71 : decode cX4_walk 71 = .ok (.iload_n 2, 1) := by decide +kernel
theorem dX4_walk_72 : decode cX4_walk 72 = .ok (.iload 9, 2) := by decide +kernel
theorem dX4_walk_74 : decode cX4_walk 74 = .ok (.iload 7, 2) := by decide +kernel
theorem dX4_walk_76 : decode cX4_walk 76 = .ok (.imul, 1) := by decide +kernel
theorem dX4_walk_77 : decode cX4_walk 77 = .ok (.iadd, 1) := by decide +kernel
theorem dX4_walk_78 : decode cX4_walk 78 = .ok (.iload_n 3, 1) := by decide +kernel
theorem dX4_walk_79 : decode cX4_walk 79 = .ok (.invokestatic 113, 3) := by decide +kernel
theorem dX4_walk_82 : decode cX4_walk 82 = .ok (.invokevirtual 116, 3) := by decide +kernel
theorem dX4_walk_85 : decode cX4_walk 85 = .ok (.iadd, 1) := by decide +kernel
theorem dX4_walk_86 : decode cX4_walk 86 = .ok (.istore 6, 2) := by decide +kernel
theorem dX4_walk_88 : decode cX4_walk 88 = .ok (.iinc 9 1, 3) := by decide +kernel
theorem dX4_walk_91 : decode cX4_walk 91 = .ok (.goto (-31), 3) := by decide +kernel
theorem dX4_walk_94 : decode cX4_walk 94 = .ok (.iload 5, 2) := by decide +kernel
theorem dX4_walk_96 : decode cX4_walk 96 = .ok (.iload_n 3, 1) := by decide +kernel
theorem dX4_walk_97 : decode cX4_walk 97 = .ok (.isub, 1) := by decide +kernel
theorem dX4_walk_98 : decode cX4_walk 98 = .ok (.invokestatic 102, 3) := by decide +kernel
theorem dX4_walk_101 : decode cX4_walk 101 = .ok (.istore 9, 2) := by decide +kernel
theorem dX4_walk_103 : decode cX4_walk 103 = .ok (.iload 5, 2) := by decide +kernel
theorem dX4_walk_105 : decode cX4_walk 105 = .ok (.iload_n 3, 1) := by decide +kernel
theorem dX4_walk_106 : decode cX4_walk 106 = .ok (.isub, 1) := by decide +kernel
theorem dX4_walk_107 : decode cX4_walk 107 = .ok (.invokestatic 108, 3) := by decide +kernel
theorem dX4_walk_110 : decode cX4_walk 110 = .ok (.istore 10, 2) := by decide +kernel
theorem dX4_walk_112 : decode cX4_walk 112 = .ok (.iconst 1, 1) := by decide +kernel
theorem dX4_walk_113 : decode cX4_walk 113 = .ok (.istore 11, 2) := by decide +kernel
theorem dX4_walk_115 : decode cX4_walk 115 = .ok (.iload 11, 2) := by decide +kernel
theorem dX4_walk_117 : decode cX4_walk 117 = .ok (.iload 10, 2) := by decide +kernel
theorem dX4_walk_119 : decode cX4_walk 119 = .ok (.if_icmp .gt 31, 3) := by decide +kernel
theorem dX4_walk_122 : decode cX4_walk 122 = .ok (.iload 6, 2) := by decide +kernel
theorem dX4_walk_124 : decode cX4_walk 124 = .ok (.aload_n 0, 1) := by decide +kernel
theorem dX4_walk_125 : decode cX4_walk 125 = .ok (.iload_n 1, 1) := by decide +kernel
theorem dX4_walk_126 : decode cX4_walk 126 = .ok (.iload 4, 2) := by decide +kernel
theorem dX4_walk_128 : decode cX4_walk 128 = .ok (.iload_n 3, 1) := by decide +kernel
theorem dX4_walk_129 : decode cX4_walk 129 = .ok (.iload 11, 2) := by decide +kernel
theorem dX4_walk_131 : decode cX4_walk 131 = .ok (.iload 9, 2) := by decide +kernel
theorem dX4_walk_133 : decode cX4_walk 133 = .ok (.imul, 1) := by decide +kernel
theorem dX4_walk_134 : decode cX4_walk 134 = .ok (.iadd, 1) := by decide +kernel
theorem dX4_walk_135 : decode cX4_walk 135 = .ok (.invokestatic 113, 3) := by decide +kernel
theorem dX4_walk_138 : decode cX4_walk 138 = .ok (.invokevirtual 116, 3) := by decide +kernel
theorem dX4_walk_141 : decode cX4_walk 141 = .ok (.iadd, 1) := by decide +kernel
theorem dX4_walk_142 : decode cX4_walk 142 = .ok (.istore 6, 2) := by decide +kernel
theorem dX4_walk_144 : decode cX4_walk 144 = .ok (.iinc 11 1, 3) := by decide +kernel
theorem dX4_walk_147 : decode cX4_walk 147 = .ok (.goto (-32), 3) := by decide +kernel
theorem dX4_walk_150 : decode cX4_walk 150 = .ok (.iload 6, 2) := by decide +kernel
theorem dX4_walk_152 : decode cX4_walk 152 = .ok (.ireturn, 1) := by decide +kernel
theorem dX4_pull_0 : decode cX4_pull 0 = .ok (.iload_n 1, 1) := by decide +kernel
theorem dX4_pull_1 : decode cX4_pull 1 = .ok (.iload_n 2, 1) := by decide +kernel
theorem dX4_pull_2 : decode cX4_pull 2 = .ok (.invokestatic 44, 3) := by decide +kernel
theorem dX4_pull_5 : decode cX4_pull 5 = .ok (.ifCond .ne 13, 3) := by decide +kernel
theorem dX4_pull_8 : decode cX4_pull 8 = .ok (.new 48, 3) := by decide +kernel
theorem dX4_pull_11 : decode cX4_pull 11 = .ok (.dup, 1) := by decide +kernel
theorem dX4_pull_12 : decode cX4_pull 12 = .ok (.ldc 119, 2) := by decide +kernel
theorem dX4_pull_14 : decode cX4_pull 14 = .ok (.invokespecial 52, 3) := by decide +kernel
theorem dX4_pull_17 : decode cX4_pull 17 = .ok (.athrow, 1) := by decide +kernel
theorem dX4_pull_18 : decode cX4_pull 18 = .ok (.iload_n 1, 1) := by decide +kernel
theorem dX4_pull_19 : decode cX4_pull 19 = .ok (.iload_n 2, 1) := by decide +kernel
theorem dX4_pull_20 : decode cX4_pull 20 = .ok (.invokestatic 113, 3) := by decide +kernel
theorem dX4_pull_23 : decode cX4_pull 23 = .ok (.istore_n 3, 1) := by decide +kernel
theorem dX4_pull_24 : decode cX4_pull 24 = .ok (.aload_n 0, 1) := by decide +kernel
theorem dX4_pull_25 : decode cX4_pull 25 = .ok (.getfield 26, 3) := by decide +kernel
theorem dX4_pull_28 : decode cX4_pull 28 = .ok (.iload_n 3, 1) := by decide +kernel
theorem dX4_pull_29 : decode cX4_pull 29 = .ok (.invokevirtual 121, 3) := by decide +kernel
theorem dX4_pull_32 : decode cX4_pull 32 = .ok (.ifCond .ne 13, 3) := by decide +kernel
theorem dX4_pull_35 : decode cX4_pull 35 = .ok (.new 73, 3) := by decide +kernel
theorem dX4_pull_38 : decode cX4_pull 38 = .ok (.dup, 1) := by decide +kernel
theorem dX4_pull_39 : decode cX4_pull 39 = .ok (.ldc 124, 2) := by decide +kernel
theorem dX4_pull_41 : decode cX4_pull 41 = .ok (.invokespecial 77, 3) := by decide +kernel
theorem dX4_pull_44 : decode cX4_pull 44 = .ok (.athrow, 1) := by decide +kernel
theorem dX4_pull_45 : decode cX4_pull 45 = .ok (.aload_n 0, 1) := by decide +kernel
theorem dX4_pull_46 : decode cX4_pull 46 = .ok (.getfield 26, 3) := by decide +kernel
theorem dX4_pull_49 : decode cX4_pull 49 = .ok (.iload_n 3, 1) := by decide +kernel
theorem dX4_pull_50 : decode cX4_pull 50 = .ok (.invokevirtual 126, 3) := by decide +kernel
theorem dX4_pull_53 : decode cX4_pull 53 = .ok (.ireturn, 1) := by decide +kernel
theorem dX4_pit_0 : decode cX4_pit 0 = .ok (.iload_n 1, 1) := by decide +kernel
theorem dX4_pit_1 : decode cX4_pit 1 = .ok (.iload_n 2, 1) := by decide +kernel
theorem dX4_pit_2 : decode cX4_pit 2 = .ok (.invokestatic 44, 3) := by decide +kernel
theorem dX4_pit_5 : decode cX4_pit 5 = .ok (.ifCond .ne 13, 3) := by decide +kernel
theorem dX4_pit_8 : decode cX4_pit 8 = .ok (.new 48, 3) := by decide +kernel
theorem dX4_pit_11 : decode cX4_pit 11 = .ok (.dup, 1) := by decide +kernel
theorem dX4_pit_12 : decode cX4_pit 12 = .ok (.ldc 119, 2) := by decide +kernel
theorem dX4_pit_14 : decode cX4_pit 14 = .ok (.invokespecial 52, 3) := by decide +kernel
theorem dX4_pit_17 : decode cX4_pit 17 = .ok (.athrow, 1) := by decide +kernel
theorem dX4_pit_18 : decode cX4_pit 18 = .ok (.iload_n 1, 1) := by decide +kernel
theorem dX4_pit_19 : decode cX4_pit 19 = .ok (.iload_n 2, 1) := by decide +kernel
theorem dX4_pit_20 : decode cX4_pit 20 = .ok (.invokestatic 113, 3) := by decide +kernel
theorem dX4_pit_23 : decode cX4_pit 23 = .ok (.istore_n 3, 1) := by decide +kernel
theorem dX4_pit_24 : decode cX4_pit 24 = .ok (.aload_n 0, 1) := by decide +kernel
theorem dX4_pit_25 : decode cX4_pit 25 = .ok (.getfield 33, 3) := by decide +kernel
theorem dX4_pit_28 : decode cX4_pit 28 = .ok (.getfield 129, 3) := by decide +kernel
theorem dX4_pit_31 : decode cX4_pit 31 = .ok (.bipush 10, 2) := by decide +kernel
theorem dX4_pit_33 : decode cX4_pit 33 = .ok (.if_icmp .ge 15, 3) := by decide +kernel
theorem dX4_pit_36 : decode cX4_pit 36 = .ok (.aload_n 0, 1) := by decide +kernel
theorem dX4_pit_37 : decode cX4_pit 37 = .ok (.getfield 33, 3) := by decide +kernel
theorem dX4_pit_40 : decode cX4_pit 40 = .ok (.getfield 130, 3) := by decide +kernel
theorem dX4_pit_43 : decode cX4_pit 43 = .ok (.iload_n 3, 1) := by decide +kernel
theorem dX4_pit_44 : decode cX4_pit 44 = .ok (.iaload, 1) := by decide +kernel
theorem dX4_pit_45 : decode cX4_pit 45 = .ok (.ifCond .lt 13, 3) := by decide +kernel
theorem dX4_pit_48 : decode cX4_pit 48 = .ok (.new 73, 3) := by decide +kernel
theorem dX4_pit_51 : decode cX4_pit 51 = .ok (.dup, 1) := by decide +kernel
theorem dX4_pit_52 : decode cX4_pit 52 = .ok (.ldc 134, 2) := by decide +kernel
theorem dX4_pit_54 : decode cX4_pit 54 = .ok (.invokespecial 77, 3) := by decide +kernel
theorem dX4_pit_57 : decode cX4_pit 57 = .ok (.athrow, 1) := by decide +kernel
theorem dX4_pit_58 : decode cX4_pit 58 = .ok (.aload_n 0, 1) := by decide +kernel
theorem dX4_pit_59 : decode cX4_pit 59 = .ok (.getfield 33, 3) := by decide +kernel
theorem dX4_pit_62 : decode cX4_pit 62 = .ok (.iload_n 3, 1) := by decide +kernel
theorem dX4_pit_63 : decode cX4_pit 63 = .ok (.aload_n 0, 1) := by decide +kernel
theorem dX4_pit_64 : decode cX4_pit 64 = .ok (.getfield 12, 3) := by decide +kernel
theorem dX4_pit_67 : decode cX4_pit 67 = .ok (.getfield 136, 3) := by decide +kernel
theorem dX4_pit_70 : decode cX4_pit 70 = .ok (.iload_n 3, 1) := by decide +kernel
theorem dX4_pit_71 : decode cX4_pit 71 = .ok (.iaload, 1) := by decide +kernel
theorem dX4_pit_72 : decode cX4_pit 72 = .ok (.invokevirtual 139, 3) := by decide +kernel
theorem dX4_pit_75 : decode cX4_pit 75 = .ok (.ireturn, 1) := by decide +kernel
theorem dX4_bet_0 : decode cX4_bet 0 = .ok (.aload_n 0, 1) := by decide +kernel
theorem dX4_bet_1 : decode cX4_bet 1 = .ok (.iload_n 1, 1) := by decide +kernel
theorem dX4_bet_2 : decode cX4_bet 2 = .ok (.invokevirtual 96, 3) := by decide +kernel
theorem dX4_bet_5 : decode cX4_bet 5 = .ok (.ifCond .eq 11, 3) := by decide +kernel
theorem dX4_bet_8 : decode cX4_bet 8 = .ok (.aload_n 0, 1) := by decide +kernel
theorem dX4_bet_9 : decode cX4_bet 9 = .ok (.iload_n 2, 1) := by decide +kernel
theorem dX4_bet_10 : decode cX4_bet 10 = .ok (.invokevirtual 140, 3) := by decide +kernel
theorem dX4_bet_13 : decode cX4_bet 13 = .ok (.ifCond .ne 13, 3) := by decide +kernel
theorem dX4_bet_16 : decode cX4_bet 16 = .ok (.new 48, 3) := by decide +kernel
theorem dX4_bet_19 : decode cX4_bet 19 = .ok (.dup, 1) := by decide +kernel
theorem dX4_bet_20 : decode cX4_bet 20 = .ok (.ldc 143, 2) := by decide +kernel
theorem dX4_bet_22 : decode cX4_bet 22 = .ok (.invokespecial 52, 3) := by decide +kernel
theorem dX4_bet_25 : decode cX4_bet 25 = .ok (.athrow, 1) := by decide +kernel
theorem dX4_bet_26 : decode cX4_bet 26 = .ok (.iload_n 3, 1) := by decide +kernel
theorem dX4_bet_27 : decode cX4_bet 27 = .ok (.iconst 1, 1) := by decide +kernel
theorem dX4_bet_28 : decode cX4_bet 28 = .ok (.bipush 99, 2) := by decide +kernel
theorem dX4_bet_30 : decode cX4_bet 30 = .ok (.invokestatic 64, 3) := by decide +kernel
theorem dX4_bet_33 : decode cX4_bet 33 = .ok (.ifCond .ne 13, 3) := by decide +kernel
theorem dX4_bet_36 : decode cX4_bet 36 = .ok (.new 59, 3) := by decide +kernel
theorem dX4_bet_39 : decode cX4_bet 39 = .ok (.dup, 1) := by decide +kernel
theorem dX4_bet_40 : decode cX4_bet 40 = .ok (.ldc 145, 2) := by decide +kernel
theorem dX4_bet_42 : decode cX4_bet 42 = .ok (.invokespecial 63, 3) := by decide +kernel
theorem dX4_bet_45 : decode cX4_bet 45 = .ok (.athrow, 1) := by decide +kernel
theorem dX4_bet_46 : decode cX4_bet 46 = .ok (.aload_n 0, 1) := by decide +kernel
theorem dX4_bet_47 : decode cX4_bet 47 = .ok (.getfield 33, 3) := by decide +kernel
theorem dX4_bet_50 : decode cX4_bet 50 = .ok (.getfield 147, 3) := by decide +kernel
theorem dX4_bet_53 : decode cX4_bet 53 = .ok (.iload_n 2, 1) := by decide +kernel
theorem dX4_bet_54 : decode cX4_bet 54 = .ok (.iaload, 1) := by decide +kernel
theorem dX4_bet_55 : decode cX4_bet 55 = .ok (.ifCond .gt 28, 3) := by decide +kernel
theorem dX4_bet_58 : decode cX4_bet 58 = .ok (.aload_n 0, 1) := by decide +kernel
theorem dX4_bet_59 : decode cX4_bet 59 = .ok (.getfield 33, 3) := by decide +kernel
theorem dX4_bet_62 : decode cX4_bet 62 = .ok (.iload_n 2, 1) := by decide +kernel
theorem dX4_bet_63 : decode cX4_bet 63 = .ok (.iload_n 1, 1) := by decide +kernel
theorem dX4_bet_64 : decode cX4_bet 64 = .ok (.invokevirtual 150, 3) := by decide +kernel
theorem dX4_bet_67 : decode cX4_bet 67 = .ok (.ifCond .ne 16, 3) := by decide +kernel
theorem dX4_bet_70 : decode cX4_bet 70 = .ok (.aload_n 0, 1) := by decide +kernel
theorem dX4_bet_71 : decode cX4_bet 71 = .ok (.getfield 19, 3) := by decide +kernel
theorem dX4_bet_74 : decode cX4_bet 74 = .ok (.getfield 153, 3) := by decide +kernel
theorem dX4_bet_77 : decode cX4_bet 77 = .ok (.iload_n 1, 1) := by decide +kernel
theorem dX4_bet_78 : decode cX4_bet 78 = .ok (.iaload, 1) := by decide +kernel
theorem dX4_bet_79 : decode cX4_bet 79 = .ok (.iload_n 3, 1) := by decide +kernel
theorem dX4_bet_80 : decode cX4_bet 80 = .ok (.if_icmp .ge 13, 3) := by decide +kernel
theorem dX4_bet_83 : decode cX4_bet 83 = .ok (.new 73, 3) := by decide +kernel
theorem dX4_bet_86 : decode cX4_bet 86 = .ok (.dup, 1) := by decide +kernel
theorem dX4_bet_87 : decode cX4_bet 87 = .ok (.ldc 156, 2) := by decide +kernel
theorem dX4_bet_89 : decode cX4_bet 89 = .ok (.invokespecial 77, 3) := by decide +kernel
theorem dX4_bet_92 : decode cX4_bet 92 = .ok (.athrow, 1) := by decide +kernel
theorem dX4_bet_93 : decode cX4_bet 93 = .ok (.aload_n 0, 1) := by decide +kernel
theorem dX4_bet_94 : decode cX4_bet 94 = .ok (.getfield 33, 3) := by decide +kernel
theorem dX4_bet_97 : decode cX4_bet 97 = .ok (.iload_n 2, 1) := by decide +kernel
theorem dX4_bet_98 : decode cX4_bet 98 = .ok (.iload_n 1, 1) := by decide +kernel
theorem dX4_bet_99 : decode cX4_bet 99 = .ok (.iload_n 3, 1) := by decide +kernel
theorem dX4_bet_100 : decode cX4_bet 100 = .ok (.iload 4, 2) := by decide +kernel
theorem dX4_bet_102 : decode cX4_bet 102 = .ok (.invokevirtual 158, 3) := by decide +kernel
theorem dX4_bet_105 : decode cX4_bet 105 = .ok (.aload_n 0, 1) := by decide +kernel
theorem dX4_bet_106 : decode cX4_bet 106 = .ok (.getfield 19, 3) := by decide +kernel
theorem dX4_bet_109 : decode cX4_bet 109 = .ok (.getfield 153, 3) := by decide +kernel
theorem dX4_bet_112 : decode cX4_bet 112 = .ok (.iload_n 1, 1) := by decide +kernel
theorem dX4_bet_113 : decode cX4_bet 113 = .ok (.dup2, 1) := by decide +kernel
theorem dX4_bet_114 : decode cX4_bet 114 = .ok (.iaload, 1) := by decide +kernel
theorem dX4_bet_115 : decode cX4_bet 115 = .ok (.iload_n 3, 1) := by decide +kernel
theorem dX4_bet_116 : decode cX4_bet 116 = .ok (.isub, 1) := by decide +kernel
theorem dX4_bet_117 : decode cX4_bet 117 = .ok (.iastore, 1) := by decide +kernel
theorem dX4_bet_118 : decode cX4_bet 118 = .ok (.aload_n 0, 1) := by decide +kernel
theorem dX4_bet_119 : decode cX4_bet 119 = .ok (.getfield 19, 3) := by decide +kernel
theorem dX4_bet_122 : decode cX4_bet 122 = .ok (.getfield 153, 3) := by decide +kernel
theorem dX4_bet_125 : decode cX4_bet 125 = .ok (.iload_n 1, 1) := by decide +kernel
theorem dX4_bet_126 : decode cX4_bet 126 = .ok (.iaload, 1) := by decide +kernel
theorem dX4_bet_127 : decode cX4_bet 127 = .ok (.ireturn, 1) := by decide +kernel
theorem dX4_dig_0 : decode cX4_dig 0 = .ok (.aload_n 0, 1) := by decide +kernel
theorem dX4_dig_1 : decode cX4_dig 1 = .ok (.iload_n 1, 1) := by decide +kernel
theorem dX4_dig_2 : decode cX4_dig 2 = .ok (.invokevirtual 140, 3) := by decide +kernel
theorem dX4_dig_5 : decode cX4_dig 5 = .ok (.ifCond .ne 13, 3) := by decide +kernel
theorem dX4_dig_8 : decode cX4_dig 8 = .ok (.new 48, 3) := by decide +kernel
theorem dX4_dig_11 : decode cX4_dig 11 = .ok (.dup, 1) := by decide +kernel
theorem dX4_dig_12 : decode cX4_dig 12 = .ok (.ldc 162, 2) := by decide +kernel
theorem dX4_dig_14 : decode cX4_dig 14 = .ok (.invokespecial 52, 3) := by decide +kernel
theorem dX4_dig_17 : decode cX4_dig 17 = .ok (.athrow, 1) := by decide +kernel
theorem dX4_dig_18 : decode cX4_dig 18 = .ok (.iload_n 2, 1) := by decide +kernel
theorem dX4_dig_19 : decode cX4_dig 19 = .ok (.iconst 1, 1) := by decide +kernel
theorem dX4_dig_20 : decode cX4_dig 20 = .ok (.bipush 20, 2) := by decide +kernel
theorem dX4_dig_22 : decode cX4_dig 22 = .ok (.invokestatic 64, 3) := by decide +kernel
theorem dX4_dig_25 : decode cX4_dig 25 = .ok (.ifCond .ne 13, 3) := by decide +kernel
theorem dX4_dig_28 : decode cX4_dig 28 = .ok (.new 59, 3) := by decide +kernel
theorem dX4_dig_31 : decode cX4_dig 31 = .ok (.dup, 1) := by decide +kernel
theorem dX4_dig_32 : decode cX4_dig 32 = .ok (.ldc 164, 2) := by decide +kernel
theorem dX4_dig_34 : decode cX4_dig 34 = .ok (.invokespecial 63, 3) := by decide +kernel
theorem dX4_dig_37 : decode cX4_dig 37 = .ok (.athrow, 1) := by decide +kernel
theorem dX4_dig_38 : decode cX4_dig 38 = .ok (.aload_n 0, 1) := by decide +kernel
theorem dX4_dig_39 : decode cX4_dig 39 = .ok (.getfield 33, 3) := by decide +kernel
theorem dX4_dig_42 : decode cX4_dig 42 = .ok (.iload_n 1, 1) := by decide +kernel
theorem dX4_dig_43 : decode cX4_dig 43 = .ok (.invokevirtual 166, 3) := by decide +kernel
theorem dX4_dig_46 : decode cX4_dig 46 = .ok (.ifCond .eq 13, 3) := by decide +kernel
theorem dX4_dig_49 : decode cX4_dig 49 = .ok (.new 73, 3) := by decide +kernel
theorem dX4_dig_52 : decode cX4_dig 52 = .ok (.dup, 1) := by decide +kernel
theorem dX4_dig_53 : decode cX4_dig 53 = .ok (.ldc 169, 2) := by decide +kernel
theorem dX4_dig_55 : decode cX4_dig 55 = .ok (.invokespecial 77, 3) := by decide +kernel
theorem dX4_dig_58 : decode cX4_dig 58 = .ok (.athrow, 1) := by decide +kernel
theorem dX4_dig_59 : decode cX4_dig 59 = .ok (.aload_n 0, 1) := by decide +kernel
theorem dX4_dig_60 : decode cX4_dig 60 = .ok (.getfield 33, 3) := by decide +kernel
theorem dX4_dig_63 : decode cX4_dig 63 = .ok (.iload_n 1, 1) := by decide +kernel
theorem dX4_dig_64 : decode cX4_dig 64 = .ok (.iload_n 2, 1) := by decide +kernel
theorem dX4_dig_65 : decode cX4_dig 65 = .ok (.invokevirtual 171, 3) := by decide +kernel
theorem dX4_dig_68 : decode cX4_dig 68 = .ok (.aload_n 0, 1) := by decide +kernel
theorem dX4_dig_69 : decode cX4_dig 69 = .ok (.getfield 33, 3) := by decide +kernel
theorem dX4_dig_72 : decode cX4_dig 72 = .ok (.iload_n 1, 1) := by decide +kernel
theorem dX4_dig_73 : decode cX4_dig 73 = .ok (.invokevirtual 166, 3) := by decide +kernel
theorem dX4_dig_76 : decode cX4_dig 76 = .ok (.ifCond .eq 8, 3) := by decide +kernel
theorem dX4_dig_79 : decode cX4_dig 79 = .ok (.aload_n 0, 1) := by decide +kernel
theorem dX4_dig_80 : decode cX4_dig 80 = .ok (.iload_n 1, 1) := by decide +kernel
theorem dX4_dig_81 : decode cX4_dig 81 = .ok (.invokevirtual 175, 3) := by decide +kernel
theorem dX4_dig_84 : decode cX4_dig 84 = .ok (.aload_n 0, 1) := by decide +kernel
theorem dX4_dig_85 : decode cX4_dig 85 = .ok (.getfield 33, 3) := by decide +kernel
theorem dX4_dig_88 : decode cX4_dig 88 = .ok (.getfield 147, 3) := by decide +kernel
theorem dX4_dig_91 : decode cX4_dig 91 = .ok (.iload_n 1, 1) := by decide +kernel
theorem dX4_dig_92 : decode cX4_dig 92 = .ok (.iaload, 1) := by decide +kernel
theorem dX4_dig_93 : decode cX4_dig 93 = .ok (.ireturn, 1) := by decide +kernel
theorem dX4_spot_0 : decode cX4_spot 0 = .ok (.iload_n 1, 1) := by decide +kernel
theorem dX4_spot_1 : decode cX4_spot 1 = .ok (.iload_n 2, 1) := by decide +kernel
theorem dX4_spot_2 : decode cX4_spot 2 = .ok (.invokestatic 44, 3) := by decide +kernel
theorem dX4_spot_5 : decode cX4_spot 5 = .ok (.ifCond .eq 12, 3) := by decide +kernel
theorem dX4_spot_8 : decode cX4_spot 8 = .ok (.iload_n 3, 1) := by decide +kernel
theorem dX4_spot_9 : decode cX4_spot 9 = .ok (.iconst 0, 1) := by decide +kernel
theorem dX4_spot_10 : decode cX4_spot 10 = .ok (.iconst 5, 1) := by decide +kernel
theorem dX4_spot_11 : decode cX4_spot 11 = .ok (.invokestatic 64, 3) := by decide +kernel
theorem dX4_spot_14 : decode cX4_spot 14 = .ok (.ifCond .ne 13, 3) := by decide +kernel
theorem dX4_spot_17 : decode cX4_spot 17 = .ok (.new 48, 3) := by decide +kernel
theorem dX4_spot_20 : decode cX4_spot 20 = .ok (.dup, 1) := by decide +kernel
theorem dX4_spot_21 : decode cX4_spot 21 = .ok (.ldc 179, 2) := by decide +kernel
theorem dX4_spot_23 : decode cX4_spot 23 = .ok (.invokespecial 52, 3) := by decide +kernel
theorem dX4_spot_26 : decode cX4_spot 26 = .ok (.athrow, 1) := by decide +kernel
theorem dX4_spot_27 : decode cX4_spot 27 = .ok (.aload_n 0, 1) := by decide +kernel
theorem dX4_spot_28 : decode cX4_spot 28 = .ok (.iload_n 1, 1) := by decide +kernel
theorem dX4_spot_29 : decode cX4_spot 29 = .ok (.iload_n 2, 1) := by decide +kernel
theorem dX4_spot_30 : decode cX4_spot 30 = .ok (.invokestatic 113, 3) := by decide +kernel
theorem dX4_spot_33 : decode cX4_spot 33 = .ok (.iload_n 3, 1) := by decide +kernel
theorem dX4_spot_34 : decode cX4_spot 34 = .ok (.invokevirtual 181, 3) := by decide +kernel
theorem dX4_spot_37 : decode cX4_spot 37 = .ok (.ireturn, 1) := by decide +kernel
theorem dX4_rod_0 : decode cX4_rod 0 = .ok (.aload_n 0, 1) := by decide +kernel
theorem dX4_rod_1 : decode cX4_rod 1 = .ok (.iload_n 1, 1) := by decide +kernel
theorem dX4_rod_2 : decode cX4_rod 2 = .ok (.invokevirtual 96, 3) := by decide +kernel
theorem dX4_rod_5 : decode cX4_rod 5 = .ok (.ifCond .eq 11, 3) := by decide +kernel
theorem dX4_rod_8 : decode cX4_rod 8 = .ok (.iload_n 2, 1) := by decide +kernel
theorem dX4_rod_9 : decode cX4_rod 9 = .ok (.iload_n 3, 1) := by decide +kernel
theorem dX4_rod_10 : decode cX4_rod 10 = .ok (.invokestatic 44, 3) := by decide +kernel
theorem dX4_rod_13 : decode cX4_rod 13 = .ok (.ifCond .ne 13, 3) := by decide +kernel
theorem dX4_rod_16 : decode cX4_rod 16 = .ok (.new 48, 3) := by decide +kernel
theorem dX4_rod_19 : decode cX4_rod 19 = .ok (.dup, 1) := by decide +kernel
theorem dX4_rod_20 : decode cX4_rod 20 = .ok (.ldc 100, 2) := by decide +kernel
theorem dX4_rod_22 : decode cX4_rod 22 = .ok (.invokespecial 52, 3) := by decide +kernel
theorem dX4_rod_25 : decode cX4_rod 25 = .ok (.athrow, 1) := by decide +kernel
theorem dX4_rod_26 : decode cX4_rod 26 = .ok (.aload_n 0, 1) := by decide +kernel
theorem dX4_rod_27 : decode cX4_rod 27 = .ok (.iload_n 1, 1) := by decide +kernel
theorem dX4_rod_28 : decode cX4_rod 28 = .ok (.iload_n 2, 1) := by decide +kernel
theorem dX4_rod_29 : decode cX4_rod 29 = .ok (.iload_n 3, 1) := by decide +kernel
theorem dX4_rod_30 : decode cX4_rod 30 = .ok (.invokestatic 113, 3) := by decide +kernel
theorem dX4_rod_33 : decode cX4_rod 33 = .ok (.invokevirtual 184, 3) := by decide +kernel
theorem dX4_rod_36 : decode cX4_rod 36 = .ok (.ireturn, 1) := by decide +kernel
theorem dX4_told_0 : decode cX4_told 0 = .ok (.aload_n 0, 1) := by decide +kernel
theorem dX4_told_1 : decode cX4_told 1 = .ok (.iload_n 1, 1) := by decide +kernel
theorem dX4_told_2 : decode cX4_told 2 = .ok (.invokevirtual 96, 3) := by decide +kernel
theorem dX4_told_5 : decode cX4_told 5 = .ok (.ifCond .eq 13, 3) := by decide +kernel
theorem dX4_told_8 : decode cX4_told 8 = .ok (.iload_n 2, 1) := by decide +kernel
theorem dX4_told_9 : decode cX4_told 9 = .ok (.iconst 0, 1) := by decide +kernel
theorem dX4_told_10 : decode cX4_told 10 = .ok (.bipush 7, 2) := by decide +kernel
theorem dX4_told_12 : decode cX4_told 12 = .ok (.invokestatic 64, 3) := by decide +kernel
theorem dX4_told_15 : decode cX4_told 15 = .ok (.ifCond .ne 13, 3) := by decide +kernel
theorem dX4_told_18 : decode cX4_told 18 = .ok (.new 48, 3) := by decide +kernel
theorem dX4_told_21 : decode cX4_told 21 = .ok (.dup, 1) := by decide +kernel
theorem dX4_told_22 : decode cX4_told 22 = .ok (.ldc 187, 2) := by decide +kernel
theorem dX4_told_24 : decode cX4_told 24 = .ok (.invokespecial 52, 3) := by decide +kernel
theorem dX4_told_27 : decode cX4_told 27 = .ok (.athrow, 1) := by decide +kernel
theorem dX4_told_28 : decode cX4_told 28 = .ok (.aload_n 0, 1) := by decide +kernel
theorem dX4_told_29 : decode cX4_told 29 = .ok (.iload_n 1, 1) := by decide +kernel
theorem dX4_told_30 : decode cX4_told 30 = .ok (.iload_n 2, 1) := by decide +kernel
theorem dX4_told_31 : decode cX4_told 31 = .ok (.invokevirtual 189, 3) := by decide +kernel
theorem dX4_told_34 : decode cX4_told 34 = .ok (.ireturn, 1) := by decide +kernel
theorem dX4_about_0 : decode cX4_about 0 = .ok (.aload_n 0, 1) := by decide +kernel
theorem dX4_about_1 : decode cX4_about 1 = .ok (.iload_n 1, 1) := by decide +kernel
theorem dX4_about_2 : decode cX4_about 2 = .ok (.invokevirtual 140, 3) := by decide +kernel
theorem dX4_about_5 : decode cX4_about 5 = .ok (.ifCond .eq 13, 3) := by decide +kernel
theorem dX4_about_8 : decode cX4_about 8 = .ok (.iload_n 2, 1) := by decide +kernel
theorem dX4_about_9 : decode cX4_about 9 = .ok (.iconst 0, 1) := by decide +kernel
theorem dX4_about_10 : decode cX4_about 10 = .ok (.bipush 6, 2) := by decide +kernel
theorem dX4_about_12 : decode cX4_about 12 = .ok (.invokestatic 64, 3) := by decide +kernel
theorem dX4_about_15 : decode cX4_about 15 = .ok (.ifCond .ne 13, 3) := by decide +kernel
theorem dX4_about_18 : decode cX4_about 18 = .ok (.new 48, 3) := by decide +kernel
theorem dX4_about_21 : decode cX4_about 21 = .ok (.dup, 1) := by decide +kernel
theorem dX4_about_22 : decode cX4_about 22 = .ok (.ldc 192, 2) := by decide +kernel
theorem dX4_about_24 : decode cX4_about 24 = .ok (.invokespecial 52, 3) := by decide +kernel
theorem dX4_about_27 : decode cX4_about 27 = .ok (.athrow, 1) := by decide +kernel
theorem dX4_about_28 : decode cX4_about 28 = .ok (.aload_n 0, 1) := by decide +kernel
theorem dX4_about_29 : decode cX4_about 29 = .ok (.getfield 33, 3) := by decide +kernel
theorem dX4_about_32 : decode cX4_about 32 = .ok (.iload_n 1, 1) := by decide +kernel
theorem dX4_about_33 : decode cX4_about 33 = .ok (.iload_n 2, 1) := by decide +kernel
theorem dX4_about_34 : decode cX4_about 34 = .ok (.invokevirtual 194, 3) := by decide +kernel
theorem dX4_about_37 : decode cX4_about 37 = .ok (.ireturn, 1) := by decide +kernel
theorem dX4_count_0 : decode cX4_count 0 = .ok (.iload_n 1, 1) := by decide +kernel
theorem dX4_count_1 : decode cX4_count 1 = .ok (.iconst 0, 1) := by decide +kernel
theorem dX4_count_2 : decode cX4_count 2 = .ok (.bipush 8, 2) := by decide +kernel
theorem dX4_count_4 : decode cX4_count 4 = .ok (.invokestatic 64, 3) := by decide +kernel
theorem dX4_count_7 : decode cX4_count 7 = .ok (.ifCond .ne 13, 3) := by decide +kernel
theorem dX4_count_10 : decode cX4_count 10 = .ok (.new 48, 3) := by decide +kernel
theorem dX4_count_13 : decode cX4_count 13 = .ok (.dup, 1) := by decide +kernel
theorem dX4_count_14 : decode cX4_count 14 = .ok (.ldc 197, 2) := by decide +kernel
theorem dX4_count_16 : decode cX4_count 16 = .ok (.invokespecial 52, 3) := by decide +kernel
theorem dX4_count_19 : decode cX4_count 19 = .ok (.athrow, 1) := by decide +kernel
theorem dX4_count_20 : decode cX4_count 20 = .ok (.aload_n 0, 1) := by decide +kernel
theorem dX4_count_21 : decode cX4_count 21 = .ok (.iload_n 1, 1) := by decide +kernel
theorem dX4_count_22 : decode cX4_count 22 = .ok (.invokevirtual 199, 3) := by decide +kernel
theorem dX4_count_25 : decode cX4_count 25 = .ok (.ireturn, 1) := by decide +kernel
theorem dX4_line_0 : decode cX4_line 0 = .ok (.iload_n 1, 1) := by decide +kernel
theorem dX4_line_1 : decode cX4_line 1 = .ok (.iconst 0, 1) := by decide +kernel
theorem dX4_line_2 : decode cX4_line 2 = .ok (.iconst 2, 1) := by decide +kernel
theorem dX4_line_3 : decode cX4_line 3 = .ok (.invokestatic 64, 3) := by decide +kernel
theorem dX4_line_6 : decode cX4_line 6 = .ok (.ifCond .ne 13, 3) := by decide +kernel
theorem dX4_line_9 : decode cX4_line 9 = .ok (.new 48, 3) := by decide +kernel
theorem dX4_line_12 : decode cX4_line 12 = .ok (.dup, 1) := by decide +kernel
theorem dX4_line_13 : decode cX4_line 13 = .ok (.ldc 197, 2) := by decide +kernel
theorem dX4_line_15 : decode cX4_line 15 = .ok (.invokespecial 52, 3) := by decide +kernel
theorem dX4_line_18 : decode cX4_line 18 = .ok (.athrow, 1) := by decide +kernel
theorem dX4_line_19 : decode cX4_line 19 = .ok (.aload_n 0, 1) := by decide +kernel
theorem dX4_line_20 : decode cX4_line 20 = .ok (.getfield 26, 3) := by decide +kernel
theorem dX4_line_23 : decode cX4_line 23 = .ok (.iload_n 1, 1) := by decide +kernel
theorem dX4_line_24 : decode cX4_line 24 = .ok (.invokevirtual 202, 3) := by decide +kernel
theorem dX4_line_27 : decode cX4_line 27 = .ok (.ireturn, 1) := by decide +kernel
theorem dX4_would_0 : decode cX4_would 0 = .ok (.aload_n 0, 1) := by decide +kernel
theorem dX4_would_1 : decode cX4_would 1 = .ok (.iload_n 1, 1) := by decide +kernel
theorem dX4_would_2 : decode cX4_would 2 = .ok (.invokevirtual 140, 3) := by decide +kernel
theorem dX4_would_5 : decode cX4_would 5 = .ok (.ifCond .eq 11, 3) := by decide +kernel
theorem dX4_would_8 : decode cX4_would 8 = .ok (.aload_n 0, 1) := by decide +kernel
theorem dX4_would_9 : decode cX4_would 9 = .ok (.iload_n 2, 1) := by decide +kernel
theorem dX4_would_10 : decode cX4_would 10 = .ok (.invokevirtual 96, 3) := by decide +kernel
theorem dX4_would_13 : decode cX4_would 13 = .ok (.ifCond .ne 13, 3) := by decide +kernel
theorem dX4_would_16 : decode cX4_would 16 = .ok (.new 48, 3) := by decide +kernel
theorem dX4_would_19 : decode cX4_would 19 = .ok (.dup, 1) := by decide +kernel
theorem dX4_would_20 : decode cX4_would 20 = .ok (.ldc 205, 2) := by decide +kernel
theorem dX4_would_22 : decode cX4_would 22 = .ok (.invokespecial 52, 3) := by decide +kernel
theorem dX4_would_25 : decode cX4_would 25 = .ok (.athrow, 1) := by decide +kernel
theorem dX4_would_26 : decode cX4_would 26 = .ok (.aload_n 0, 1) := by decide +kernel
theorem dX4_would_27 : decode cX4_would 27 = .ok (.getfield 33, 3) := by decide +kernel
theorem dX4_would_30 : decode cX4_would 30 = .ok (.iload_n 1, 1) := by decide +kernel
theorem dX4_would_31 : decode cX4_would 31 = .ok (.invokevirtual 166, 3) := by decide +kernel
theorem dX4_would_34 : decode cX4_would 34 = .ok (.ifCond .eq 5, 3) := by decide +kernel
theorem dX4_would_37 : decode cX4_would 37 = .ok (.iconst 0, 1) := by decide +kernel
theorem dX4_would_38 : decode cX4_would 38 = .ok (.ireturn, 1) := by decide +kernel
theorem dX4_would_39 : decode cX4_would 39 = .ok (.aload_n 0, 1) := by decide +kernel
theorem dX4_would_40 : decode cX4_would 40 = .ok (.getfield 33, 3) := by decide +kernel
theorem dX4_would_43 : decode cX4_would 43 = .ok (.iload_n 1, 1) := by decide +kernel
theorem dX4_would_44 : decode cX4_would 44 = .ok (.iload_n 2, 1) := by decide +kernel
theorem dX4_would_45 : decode cX4_would 45 = .ok (.iload_n 3, 1) := by decide +kernel
theorem dX4_would_46 : decode cX4_would 46 = .ok (.invokevirtual 207, 3) := by decide +kernel
theorem dX4_would_49 : decode cX4_would 49 = .ok (.ireturn, 1) := by decide +kernel
theorem dX4_best_0 : decode cX4_best 0 = .ok (.aload_n 0, 1) := by decide +kernel
theorem dX4_best_1 : decode cX4_best 1 = .ok (.iload_n 1, 1) := by decide +kernel
theorem dX4_best_2 : decode cX4_best 2 = .ok (.invokevirtual 96, 3) := by decide +kernel
theorem dX4_best_5 : decode cX4_best 5 = .ok (.ifCond .eq 12, 3) := by decide +kernel
theorem dX4_best_8 : decode cX4_best 8 = .ok (.iload_n 2, 1) := by decide +kernel
theorem dX4_best_9 : decode cX4_best 9 = .ok (.iconst 0, 1) := by decide +kernel
theorem dX4_best_10 : decode cX4_best 10 = .ok (.iconst 2, 1) := by decide +kernel
theorem dX4_best_11 : decode cX4_best 11 = .ok (.invokestatic 64, 3) := by decide +kernel
theorem dX4_best_14 : decode cX4_best 14 = .ok (.ifCond .ne 13, 3) := by decide +kernel
theorem dX4_best_17 : decode cX4_best 17 = .ok (.new 48, 3) := by decide +kernel
theorem dX4_best_20 : decode cX4_best 20 = .ok (.dup, 1) := by decide +kernel
theorem dX4_best_21 : decode cX4_best 21 = .ok (.ldc 187, 2) := by decide +kernel
theorem dX4_best_23 : decode cX4_best 23 = .ok (.invokespecial 52, 3) := by decide +kernel
theorem dX4_best_26 : decode cX4_best 26 = .ok (.athrow, 1) := by decide +kernel
theorem dX4_best_27 : decode cX4_best 27 = .ok (.aload_n 0, 1) := by decide +kernel
theorem dX4_best_28 : decode cX4_best 28 = .ok (.iload_n 1, 1) := by decide +kernel
theorem dX4_best_29 : decode cX4_best 29 = .ok (.invokevirtual 211, 3) := by decide +kernel
theorem dX4_best_32 : decode cX4_best 32 = .ok (.istore_n 3, 1) := by decide +kernel
theorem dX4_best_33 : decode cX4_best 33 = .ok (.iload_n 2, 1) := by decide +kernel
theorem dX4_best_34 : decode cX4_best 34 = .ok (.lookupswitch 36 #[(0, 26), (1, 31)], 26) := by decide +kernel
theorem dX4_best_60 : decode cX4_best 60 = .ok (.iload_n 3, 1) := by decide +kernel
theorem dX4_best_61 : decode cX4_best 61 = .ok (.invokestatic 214, 3) := by decide +kernel
theorem dX4_best_64 : decode cX4_best 64 = .ok (.ireturn, 1) := by decide +kernel
theorem dX4_best_65 : decode cX4_best 65 = .ok (.iload_n 3, 1) := by decide +kernel
theorem dX4_best_66 : decode cX4_best 66 = .ok (.invokestatic 217, 3) := by decide +kernel
theorem dX4_best_69 : decode cX4_best 69 = .ok (.ireturn, 1) := by decide +kernel
theorem dX4_best_70 : decode cX4_best 70 = .ok (.aload_n 0, 1) := by decide +kernel
theorem dX4_best_71 : decode cX4_best 71 = .ok (.iload_n 1, 1) := by decide +kernel
theorem dX4_best_72 : decode cX4_best 72 = .ok (.iload_n 3, 1) := by decide +kernel
theorem dX4_best_73 : decode cX4_best 73 = .ok (.invokevirtual 184, 3) := by decide +kernel
theorem dX4_best_76 : decode cX4_best 76 = .ok (.ireturn, 1) := by decide +kernel
theorem dX4_mean_0 : decode cX4_mean 0 = .ok (.iconst 0, 1) := by decide +kernel
theorem dX4_mean_1 : decode cX4_mean 1 = .ok (.istore_n 1, 1) := by decide +kernel
theorem dX4_mean_2 : decode cX4_mean 2 = .ok (.iconst 0, 1) := by decide +kernel
theorem dX4_mean_3 : decode cX4_mean 3 = .ok (.istore_n 2, 1) := by decide +kernel
theorem dX4_mean_4 : decode cX4_mean 4 = .ok (.iload_n 2, 1) := by decide +kernel
theorem dX4_mean_5 : decode cX4_mean 5 = .ok (.sipush 400, 3) := by decide +kernel
theorem dX4_mean_8 : decode cX4_mean 8 = .ok (.if_icmp .ge 32, 3) := by decide +kernel
theorem dX4_mean_11 : decode cX4_mean 11 = .ok (.aload_n 0, 1) := by decide +kernel
theorem dX4_mean_12 : decode cX4_mean 12 = .ok (.getfield 26, 3) := by decide +kernel
theorem dX4_mean_15 : decode cX4_mean 15 = .ok (.iload_n 2, 1) := by decide +kernel
theorem dX4_mean_16 : decode cX4_mean 16 = .ok (.invokevirtual 121, 3) := by decide +kernel
theorem dX4_mean_19 : decode cX4_mean 19 = .ok (.ifCond .eq 15, 3) := by decide +kernel
theorem dX4_mean_22 : decode cX4_mean 22 = .ok (.iload_n 1, 1) := by decide +kernel
theorem dX4_mean_23 : decode cX4_mean 23 = .ok (.aload_n 0, 1) := by decide +kernel
theorem dX4_mean_24 : decode cX4_mean 24 = .ok (.getfield 12, 3) := by decide +kernel
theorem dX4_mean_27 : decode cX4_mean 27 = .ok (.getfield 229, 3) := by decide +kernel
theorem dX4_mean_30 : decode cX4_mean 30 = .ok (.iload_n 2, 1) := by decide +kernel
theorem dX4_mean_31 : decode cX4_mean 31 = .ok (.iaload, 1) := by decide +kernel
theorem dX4_mean_32 : decode cX4_mean 32 = .ok (.iadd, 1) := by decide +kernel
theorem dX4_mean_33 : decode cX4_mean 33 = .ok (.istore_n 1, 1) := by decide +kernel
theorem dX4_mean_34 : decode cX4_mean 34 = .ok (.iinc 2 1, 3) := by decide +kernel
theorem dX4_mean_37 : decode cX4_mean 37 = .ok (.goto (-33), 3) := by decide +kernel
theorem dX4_mean_40 : decode cX4_mean 40 = .ok (.aload_n 0, 1) := by decide +kernel
theorem dX4_mean_41 : decode cX4_mean 41 = .ok (.getfield 26, 3) := by decide +kernel
theorem dX4_mean_44 : decode cX4_mean 44 = .ok (.getfield 232, 3) := by decide +kernel
theorem dX4_mean_47 : decode cX4_mean 47 = .ok (.ifCond .le 17, 3) := by decide +kernel
theorem dX4_mean_50 : decode cX4_mean 50 = .ok (.iload_n 1, 1) := by decide +kernel
theorem dX4_mean_51 : decode cX4_mean 51 = .ok (.i2d, 1) := by decide +kernel
theorem dX4_mean_52 : decode cX4_mean 52 = .ok (.aload_n 0, 1) := by decide +kernel
theorem dX4_mean_53 : decode cX4_mean 53 = .ok (.getfield 26, 3) := by decide +kernel
theorem dX4_mean_56 : decode cX4_mean 56 = .ok (.getfield 232, 3) := by decide +kernel
theorem dX4_mean_59 : decode cX4_mean 59 = .ok (.i2d, 1) := by decide +kernel
theorem dX4_mean_60 : decode cX4_mean 60 = .ok (.ddiv, 1) := by decide +kernel
theorem dX4_mean_61 : decode cX4_mean 61 = .ok (.goto 4, 3) := by decide +kernel
theorem dX4_mean_64 : decode cX4_mean 64 = .ok (.dconst 0, 1) := by decide +kernel
theorem dX4_mean_65 : decode cX4_mean 65 = .ok (.dreturn, 1) := by decide +kernel
theorem dX4_digest_0 : decode cX4_digest 0 = .ok (.ldc2_w 233, 3) := by decide +kernel
theorem dX4_digest_3 : decode cX4_digest 3 = .ok (.lstore_n 1, 1) := by decide +kernel
theorem dX4_digest_4 : decode cX4_digest 4 = .ok (.iconst 0, 1) := by decide +kernel
theorem dX4_digest_5 : decode cX4_digest 5 = .ok (.istore_n 3, 1) := by decide +kernel
theorem dX4_digest_6 : decode cX4_digest 6 = .ok (.iload_n 3, 1) := by decide +kernel
theorem dX4_digest_7 : decode cX4_digest 7 = .ok (.bipush 9, 2) := by decide +kernel
theorem dX4_digest_9 : decode cX4_digest 9 = .ok (.if_icmp .ge 22, 3) := by decide +kernel
theorem dX4_digest_12 : decode cX4_digest 12 = .ok (.lload_n 1, 1) := by decide +kernel
theorem dX4_digest_13 : decode cX4_digest 13 = .ok (.ldc2_w 235, 3) := by decide +kernel
theorem dX4_digest_16 : decode cX4_digest 16 = .ok (.lmul, 1) := by decide +kernel
theorem dX4_digest_17 : decode cX4_digest 17 = .ok (.aload_n 0, 1) := by decide +kernel
theorem dX4_digest_18 : decode cX4_digest 18 = .ok (.iload_n 3, 1) := by decide +kernel
theorem dX4_digest_19 : decode cX4_digest 19 = .ok (.invokevirtual 199, 3) := by decide +kernel
theorem dX4_digest_22 : decode cX4_digest 22 = .ok (.i2l, 1) := by decide +kernel
theorem dX4_digest_23 : decode cX4_digest 23 = .ok (.ladd, 1) := by decide +kernel
theorem dX4_digest_24 : decode cX4_digest 24 = .ok (.lstore_n 1, 1) := by decide +kernel
theorem dX4_digest_25 : decode cX4_digest 25 = .ok (.iinc 3 1, 3) := by decide +kernel
theorem dX4_digest_28 : decode cX4_digest 28 = .ok (.goto (-22), 3) := by decide +kernel
theorem dX4_digest_31 : decode cX4_digest 31 = .ok (.iconst 0, 1) := by decide +kernel
theorem dX4_digest_32 : decode cX4_digest 32 = .ok (.istore_n 3, 1) := by decide +kernel
theorem dX4_digest_33 : decode cX4_digest 33 = .ok (.iload_n 3, 1) := by decide +kernel
theorem dX4_digest_34 : decode cX4_digest 34 = .ok (.aload_n 0, 1) := by decide +kernel
theorem dX4_digest_35 : decode cX4_digest 35 = .ok (.getfield 19, 3) := by decide +kernel
theorem dX4_digest_38 : decode cX4_digest 38 = .ok (.getfield 88, 3) := by decide +kernel
theorem dX4_digest_41 : decode cX4_digest 41 = .ok (.if_icmp .ge 40, 3) := by decide +kernel
theorem dX4_digest_44 : decode cX4_digest 44 = .ok (.iconst 0, 1) := by decide +kernel
theorem dX4_digest_45 : decode cX4_digest 45 = .ok (.istore 4, 2) := by decide +kernel
theorem dX4_digest_47 : decode cX4_digest 47 = .ok (.iload 4, 2) := by decide +kernel
theorem dX4_digest_49 : decode cX4_digest 49 = .ok (.bipush 8, 2) := by decide +kernel
theorem dX4_digest_51 : decode cX4_digest 51 = .ok (.if_icmp .ge 24, 3) := by decide +kernel
theorem dX4_digest_54 : decode cX4_digest 54 = .ok (.lload_n 1, 1) := by decide +kernel
theorem dX4_digest_55 : decode cX4_digest 55 = .ok (.ldc2_w 235, 3) := by decide +kernel
theorem dX4_digest_58 : decode cX4_digest 58 = .ok (.lmul, 1) := by decide +kernel
theorem dX4_digest_59 : decode cX4_digest 59 = .ok (.aload_n 0, 1) := by decide +kernel
theorem dX4_digest_60 : decode cX4_digest 60 = .ok (.iload_n 3, 1) := by decide +kernel
theorem dX4_digest_61 : decode cX4_digest 61 = .ok (.iload 4, 2) := by decide +kernel
theorem dX4_digest_63 : decode cX4_digest 63 = .ok (.invokevirtual 189, 3) := by decide +kernel
theorem dX4_digest_66 : decode cX4_digest 66 = .ok (.i2l, 1) := by decide +kernel
theorem dX4_digest_67 : decode cX4_digest 67 = .ok (.ladd, 1) := by decide +kernel
theorem dX4_digest_68 : decode cX4_digest 68 = .ok (.lstore_n 1, 1) := by decide +kernel
theorem dX4_digest_69 : decode cX4_digest 69 = .ok (.iinc 4 1, 3) := by decide +kernel
theorem dX4_digest_72 : decode cX4_digest 72 = .ok (.goto (-25), 3) := by decide +kernel
theorem dX4_digest_75 : decode cX4_digest 75 = .ok (.iinc 3 1, 3) := by decide +kernel
theorem dX4_digest_78 : decode cX4_digest 78 = .ok (.goto (-45), 3) := by decide +kernel
theorem dX4_digest_81 : decode cX4_digest 81 = .ok (.iconst 0, 1) := by decide +kernel
theorem dX4_digest_82 : decode cX4_digest 82 = .ok (.istore_n 3, 1) := by decide +kernel
theorem dX4_digest_83 : decode cX4_digest 83 = .ok (.iload_n 3, 1) := by decide +kernel
theorem dX4_digest_84 : decode cX4_digest 84 = .ok (.aload_n 0, 1) := by decide +kernel
theorem dX4_digest_85 : decode cX4_digest 85 = .ok (.getfield 33, 3) := by decide +kernel
theorem dX4_digest_88 : decode cX4_digest 88 = .ok (.getfield 129, 3) := by decide +kernel
theorem dX4_digest_91 : decode cX4_digest 91 = .ok (.if_icmp .ge 43, 3) := by decide +kernel
theorem dX4_digest_94 : decode cX4_digest 94 = .ok (.iconst 0, 1) := by decide +kernel
theorem dX4_digest_95 : decode cX4_digest 95 = .ok (.istore 4, 2) := by decide +kernel
theorem dX4_digest_97 : decode cX4_digest 97 = .ok (.iload 4, 2) := by decide +kernel
theorem dX4_digest_99 : decode cX4_digest 99 = .ok (.bipush 7, 2) := by decide +kernel
theorem dX4_digest_101 : decode cX4_digest 101 = .ok (.if_icmp .ge 27, 3) := by decide +kernel
theorem dX4_digest_104 : decode cX4_digest 104 = .ok (.lload_n 1, 1) := by decide +kernel
theorem dX4_digest_105 : decode cX4_digest 105 = .ok (.ldc2_w 235, 3) := by decide +kernel
theorem dX4_digest_108 : decode cX4_digest 108 = .ok (.lmul, 1) := by decide +kernel
theorem dX4_digest_109 : decode cX4_digest 109 = .ok (.aload_n 0, 1) := by decide +kernel
theorem dX4_digest_110 : decode cX4_digest 110 = .ok (.getfield 33, 3) := by decide +kernel
theorem dX4_digest_113 : decode cX4_digest 113 = .ok (.iload_n 3, 1) := by decide +kernel
theorem dX4_digest_114 : decode cX4_digest 114 = .ok (.iload 4, 2) := by decide +kernel
theorem dX4_digest_116 : decode cX4_digest 116 = .ok (.invokevirtual 194, 3) := by decide +kernel
theorem dX4_digest_119 : decode cX4_digest 119 = .ok (.i2l, 1) := by decide +kernel
theorem dX4_digest_120 : decode cX4_digest 120 = .ok (.ladd, 1) := by decide +kernel
theorem dX4_digest_121 : decode cX4_digest 121 = .ok (.lstore_n 1, 1) := by decide +kernel
theorem dX4_digest_122 : decode cX4_digest 122 = .ok (.iinc 4 1, 3) := by decide +kernel
theorem dX4_digest_125 : decode cX4_digest 125 = .ok (.goto (-28), 3) := by decide +kernel
theorem dX4_digest_128 : decode cX4_digest 128 = .ok (.iinc 3 1, 3) := by decide +kernel
theorem dX4_digest_131 : decode cX4_digest 131 = .ok (.goto (-48), 3) := by decide +kernel
theorem dX4_digest_134 : decode cX4_digest 134 = .ok (.iconst 0, 1) := by decide +kernel
theorem dX4_digest_135 : decode cX4_digest 135 = .ok (.istore_n 3, 1) := by decide +kernel
theorem dX4_digest_136 : decode cX4_digest 136 = .ok (.iload_n 3, 1) := by decide +kernel
theorem dX4_digest_137 : decode cX4_digest 137 = .ok (.sipush 400, 3) := by decide +kernel
theorem dX4_digest_140 : decode cX4_digest 140 = .ok (.if_icmp .ge 39, 3) := by decide +kernel
theorem dX4_digest_143 : decode cX4_digest 143 = .ok (.iconst 0, 1) := by decide +kernel
theorem dX4_digest_144 : decode cX4_digest 144 = .ok (.istore 4, 2) := by decide +kernel
theorem dX4_digest_146 : decode cX4_digest 146 = .ok (.iload 4, 2) := by decide +kernel
theorem dX4_digest_148 : decode cX4_digest 148 = .ok (.iconst 4, 1) := by decide +kernel
theorem dX4_digest_149 : decode cX4_digest 149 = .ok (.if_icmp .ge 24, 3) := by decide +kernel
theorem dX4_digest_152 : decode cX4_digest 152 = .ok (.lload_n 1, 1) := by decide +kernel
theorem dX4_digest_153 : decode cX4_digest 153 = .ok (.ldc2_w 235, 3) := by decide +kernel
theorem dX4_digest_156 : decode cX4_digest 156 = .ok (.lmul, 1) := by decide +kernel
theorem dX4_digest_157 : decode cX4_digest 157 = .ok (.aload_n 0, 1) := by decide +kernel
theorem dX4_digest_158 : decode cX4_digest 158 = .ok (.iload_n 3, 1) := by decide +kernel
theorem dX4_digest_159 : decode cX4_digest 159 = .ok (.iload 4, 2) := by decide +kernel
theorem dX4_digest_161 : decode cX4_digest 161 = .ok (.invokevirtual 181, 3) := by decide +kernel
theorem dX4_digest_164 : decode cX4_digest 164 = .ok (.i2l, 1) := by decide +kernel
theorem dX4_digest_165 : decode cX4_digest 165 = .ok (.ladd, 1) := by decide +kernel
theorem dX4_digest_166 : decode cX4_digest 166 = .ok (.lstore_n 1, 1) := by decide +kernel
theorem dX4_digest_167 : decode cX4_digest 167 = .ok (.iinc 4 1, 3) := by decide +kernel
theorem dX4_digest_170 : decode cX4_digest 170 = .ok (.goto (-24), 3) := by decide +kernel
theorem dX4_digest_173 : decode cX4_digest 173 = .ok (.iinc 3 1, 3) := by decide +kernel
theorem dX4_digest_176 : decode cX4_digest 176 = .ok (.goto (-40), 3) := by decide +kernel
theorem dX4_digest_179 : decode cX4_digest 179 = .ok (.lload_n 1, 1) := by decide +kernel
theorem dX4_digest_180 : decode cX4_digest 180 = .ok (.lreturn, 1) := by decide +kernel
theorem dX4_within_0 : decode cX4_within 0 = .ok (.iload_n 0, 1) := by decide +kernel
theorem dX4_within_1 : decode cX4_within 1 = .ok (.iload_n 1, 1) := by decide +kernel
theorem dX4_within_2 : decode cX4_within 2 = .ok (.if_icmp .lt 12, 3) := by decide +kernel
theorem dX4_within_5 : decode cX4_within 5 = .ok (.iload_n 0, 1) := by decide +kernel
theorem dX4_within_6 : decode cX4_within 6 = .ok (.iload_n 2, 1) := by decide +kernel
theorem dX4_within_7 : decode cX4_within 7 = .ok (.if_icmp .gt 7, 3) := by decide +kernel
theorem dX4_within_10 : decode cX4_within 10 = .ok (.iconst 1, 1) := by decide +kernel
theorem dX4_within_11 : decode cX4_within 11 = .ok (.goto 4, 3) := by decide +kernel
theorem dX4_within_14 : decode cX4_within 14 = .ok (.iconst 0, 1) := by decide +kernel
theorem dX4_within_15 : decode cX4_within 15 = .ok (.ireturn, 1) := by decide +kernel
theorem dX4_inField_0 : decode cX4_inField 0 = .ok (.iload_n 0, 1) := by decide +kernel
theorem dX4_inField_1 : decode cX4_inField 1 = .ok (.iconst 0, 1) := by decide +kernel
theorem dX4_inField_2 : decode cX4_inField 2 = .ok (.bipush 19, 2) := by decide +kernel
theorem dX4_inField_4 : decode cX4_inField 4 = .ok (.invokestatic 64, 3) := by decide +kernel
theorem dX4_inField_7 : decode cX4_inField 7 = .ok (.ifCond .eq 17, 3) := by decide +kernel
theorem dX4_inField_10 : decode cX4_inField 10 = .ok (.iload_n 1, 1) := by decide +kernel
theorem dX4_inField_11 : decode cX4_inField 11 = .ok (.iconst 0, 1) := by decide +kernel
theorem dX4_inField_12 : decode cX4_inField 12 = .ok (.bipush 19, 2) := by decide +kernel
theorem dX4_inField_14 : decode cX4_inField 14 = .ok (.invokestatic 64, 3) := by decide +kernel
theorem dX4_inField_17 : decode cX4_inField 17 = .ok (.ifCond .eq 7, 3) := by decide +kernel
theorem dX4_inField_20 : decode cX4_inField 20 = .ok (.iconst 1, 1) := by decide +kernel
theorem dX4_inField_21 : decode cX4_inField 21 = .ok (.goto 4, 3) := by decide +kernel
theorem dX4_inField_24 : decode cX4_inField 24 = .ok (.iconst 0, 1) := by decide +kernel
theorem dX4_inField_25 : decode cX4_inField 25 = .ok (.ireturn, 1) := by decide +kernel
theorem dX4_straight_0 : decode cX4_straight 0 = .ok (.iload_n 0, 1) := by decide +kernel
theorem dX4_straight_1 : decode cX4_straight 1 = .ok (.iload_n 2, 1) := by decide +kernel
theorem dX4_straight_2 : decode cX4_straight 2 = .ok (.if_icmp .eq 23, 3) := by decide +kernel
theorem dX4_straight_5 : decode cX4_straight 5 = .ok (.iload_n 1, 1) := by decide +kernel
theorem dX4_straight_6 : decode cX4_straight 6 = .ok (.iload_n 3, 1) := by decide +kernel
theorem dX4_straight_7 : decode cX4_straight 7 = .ok (.if_icmp .eq 18, 3) := by decide +kernel
theorem dX4_straight_10 : decode cX4_straight 10 = .ok (.iload_n 2, 1) := by decide +kernel
theorem dX4_straight_11 : decode cX4_straight 11 = .ok (.iload_n 0, 1) := by decide +kernel
theorem dX4_straight_12 : decode cX4_straight 12 = .ok (.isub, 1) := by decide +kernel
theorem dX4_straight_13 : decode cX4_straight 13 = .ok (.invokestatic 108, 3) := by decide +kernel
theorem dX4_straight_16 : decode cX4_straight 16 = .ok (.iload_n 3, 1) := by decide +kernel
theorem dX4_straight_17 : decode cX4_straight 17 = .ok (.iload_n 1, 1) := by decide +kernel
theorem dX4_straight_18 : decode cX4_straight 18 = .ok (.isub, 1) := by decide +kernel
theorem dX4_straight_19 : decode cX4_straight 19 = .ok (.invokestatic 108, 3) := by decide +kernel
theorem dX4_straight_22 : decode cX4_straight 22 = .ok (.if_icmp .ne 7, 3) := by decide +kernel
theorem dX4_straight_25 : decode cX4_straight 25 = .ok (.iconst 1, 1) := by decide +kernel
theorem dX4_straight_26 : decode cX4_straight 26 = .ok (.goto 4, 3) := by decide +kernel
theorem dX4_straight_29 : decode cX4_straight 29 = .ok (.iconst 0, 1) := by decide +kernel
theorem dX4_straight_30 : decode cX4_straight 30 = .ok (.ireturn, 1) := by decide +kernel
theorem dX4_spotAt_0 : decode cX4_spotAt 0 = .ok (.iload_n 1, 1) := by decide +kernel
theorem dX4_spotAt_1 : decode cX4_spotAt 1 = .ok (.bipush 20, 2) := by decide +kernel
theorem dX4_spotAt_3 : decode cX4_spotAt 3 = .ok (.imul, 1) := by decide +kernel
theorem dX4_spotAt_4 : decode cX4_spotAt 4 = .ok (.iload_n 0, 1) := by decide +kernel
theorem dX4_spotAt_5 : decode cX4_spotAt 5 = .ok (.iadd, 1) := by decide +kernel
theorem dX4_spotAt_6 : decode cX4_spotAt 6 = .ok (.ireturn, 1) := by decide +kernel
theorem dX4_columnOf_0 : decode cX4_columnOf 0 = .ok (.iload_n 0, 1) := by decide +kernel
theorem dX4_columnOf_1 : decode cX4_columnOf 1 = .ok (.bipush 20, 2) := by decide +kernel
theorem dX4_columnOf_3 : decode cX4_columnOf 3 = .ok (.irem, 1) := by decide +kernel
theorem dX4_columnOf_4 : decode cX4_columnOf 4 = .ok (.ireturn, 1) := by decide +kernel
theorem dX4_rowOf_0 : decode cX4_rowOf 0 = .ok (.iload_n 0, 1) := by decide +kernel
theorem dX4_rowOf_1 : decode cX4_rowOf 1 = .ok (.bipush 20, 2) := by decide +kernel
theorem dX4_rowOf_3 : decode cX4_rowOf 3 = .ok (.idiv, 1) := by decide +kernel
theorem dX4_rowOf_4 : decode cX4_rowOf 4 = .ok (.ireturn, 1) := by decide +kernel
theorem dX4_distance_0 : decode cX4_distance 0 = .ok (.iload_n 0, 1) := by decide +kernel
theorem dX4_distance_1 : decode cX4_distance 1 = .ok (.invokestatic 214, 3) := by decide +kernel
theorem dX4_distance_4 : decode cX4_distance 4 = .ok (.iload_n 1, 1) := by decide +kernel
theorem dX4_distance_5 : decode cX4_distance 5 = .ok (.invokestatic 214, 3) := by decide +kernel
theorem dX4_distance_8 : decode cX4_distance 8 = .ok (.isub, 1) := by decide +kernel
theorem dX4_distance_9 : decode cX4_distance 9 = .ok (.invokestatic 108, 3) := by decide +kernel
theorem dX4_distance_12 : decode cX4_distance 12 = .ok (.iload_n 0, 1) := by decide +kernel
theorem dX4_distance_13 : decode cX4_distance 13 = .ok (.invokestatic 217, 3) := by decide +kernel
theorem dX4_distance_16 : decode cX4_distance 16 = .ok (.iload_n 1, 1) := by decide +kernel
theorem dX4_distance_17 : decode cX4_distance 17 = .ok (.invokestatic 217, 3) := by decide +kernel
theorem dX4_distance_20 : decode cX4_distance 20 = .ok (.isub, 1) := by decide +kernel
theorem dX4_distance_21 : decode cX4_distance 21 = .ok (.invokestatic 108, 3) := by decide +kernel
theorem dX4_distance_24 : decode cX4_distance 24 = .ok (.iadd, 1) := by decide +kernel
theorem dX4_distance_25 : decode cX4_distance 25 = .ok (.ireturn, 1) := by decide +kernel
theorem dX4_quotient_0 : decode cX4_quotient 0 = .ok (.iload_n 1, 1) := by decide +kernel
theorem dX4_quotient_1 : decode cX4_quotient 1 = .ok (.ifCond .le 9, 3) := by decide +kernel
theorem dX4_quotient_4 : decode cX4_quotient 4 = .ok (.iload_n 0, 1) := by decide +kernel
theorem dX4_quotient_5 : decode cX4_quotient 5 = .ok (.iload_n 1, 1) := by decide +kernel
theorem dX4_quotient_6 : decode cX4_quotient 6 = .ok (.idiv, 1) := by decide +kernel
theorem dX4_quotient_7 : decode cX4_quotient 7 = .ok (.goto 4, 3) := by decide +kernel
theorem dX4_quotient_10 : decode cX4_quotient 10 = .ok (.iconst 0, 1) := by decide +kernel
theorem dX4_quotient_11 : decode cX4_quotient 11 = .ok (.ireturn, 1) := by decide +kernel
theorem dX4_isDowser_0 : decode cX4_isDowser 0 = .ok (.iload_n 1, 1) := by decide +kernel
theorem dX4_isDowser_1 : decode cX4_isDowser 1 = .ok (.iconst 0, 1) := by decide +kernel
theorem dX4_isDowser_2 : decode cX4_isDowser 2 = .ok (.aload_n 0, 1) := by decide +kernel
theorem dX4_isDowser_3 : decode cX4_isDowser 3 = .ok (.getfield 19, 3) := by decide +kernel
theorem dX4_isDowser_6 : decode cX4_isDowser 6 = .ok (.getfield 88, 3) := by decide +kernel
theorem dX4_isDowser_9 : decode cX4_isDowser 9 = .ok (.iconst 1, 1) := by decide +kernel
theorem dX4_isDowser_10 : decode cX4_isDowser 10 = .ok (.isub, 1) := by decide +kernel
theorem dX4_isDowser_11 : decode cX4_isDowser 11 = .ok (.invokestatic 64, 3) := by decide +kernel
theorem dX4_isDowser_14 : decode cX4_isDowser 14 = .ok (.ireturn, 1) := by decide +kernel
theorem dX4_isPit_0 : decode cX4_isPit 0 = .ok (.iload_n 1, 1) := by decide +kernel
theorem dX4_isPit_1 : decode cX4_isPit 1 = .ok (.iconst 0, 1) := by decide +kernel
theorem dX4_isPit_2 : decode cX4_isPit 2 = .ok (.aload_n 0, 1) := by decide +kernel
theorem dX4_isPit_3 : decode cX4_isPit 3 = .ok (.getfield 33, 3) := by decide +kernel
theorem dX4_isPit_6 : decode cX4_isPit 6 = .ok (.getfield 129, 3) := by decide +kernel
theorem dX4_isPit_9 : decode cX4_isPit 9 = .ok (.iconst 1, 1) := by decide +kernel
theorem dX4_isPit_10 : decode cX4_isPit 10 = .ok (.isub, 1) := by decide +kernel
theorem dX4_isPit_11 : decode cX4_isPit 11 = .ok (.invokestatic 64, 3) := by decide +kernel
theorem dX4_isPit_14 : decode cX4_isPit 14 = .ok (.ireturn, 1) := by decide +kernel
theorem dX4_bend_0 : decode cX4_bend 0 = .ok (.iconst 0, 1) := by decide +kernel
theorem dX4_bend_1 : decode cX4_bend 1 = .ok (.aload_n 0, 1) := by decide +kernel
theorem dX4_bend_2 : decode cX4_bend 2 = .ok (.getfield 12, 3) := by decide +kernel
theorem dX4_bend_5 : decode cX4_bend 5 = .ok (.iload_n 2, 1) := by decide +kernel
theorem dX4_bend_6 : decode cX4_bend 6 = .ok (.aload_n 0, 1) := by decide +kernel
theorem dX4_bend_7 : decode cX4_bend 7 = .ok (.getfield 19, 3) := by decide +kernel
theorem dX4_bend_10 : decode cX4_bend 10 = .ok (.getfield 237, 3) := by decide +kernel
theorem dX4_bend_13 : decode cX4_bend 13 = .ok (.iload_n 1, 1) := by decide +kernel
theorem dX4_bend_14 : decode cX4_bend 14 = .ok (.iaload, 1) := by decide +kernel
theorem dX4_bend_15 : decode cX4_bend 15 = .ok (.invokevirtual 240, 3) := by decide +kernel
theorem dX4_bend_18 : decode cX4_bend 18 = .ok (.aload_n 0, 1) := by decide +kernel
theorem dX4_bend_19 : decode cX4_bend 19 = .ok (.getfield 19, 3) := by decide +kernel
theorem dX4_bend_22 : decode cX4_bend 22 = .ok (.getfield 241, 3) := by decide +kernel
theorem dX4_bend_25 : decode cX4_bend 25 = .ok (.iload_n 1, 1) := by decide +kernel
theorem dX4_bend_26 : decode cX4_bend 26 = .ok (.iaload, 1) := by decide +kernel
theorem dX4_bend_27 : decode cX4_bend 27 = .ok (.iadd, 1) := by decide +kernel
theorem dX4_bend_28 : decode cX4_bend 28 = .ok (.invokestatic 244, 3) := by decide +kernel
theorem dX4_bend_31 : decode cX4_bend 31 = .ok (.ireturn, 1) := by decide +kernel
theorem dX4_spotOfGreatestBend_0 : decode cX4_spotOfGreatestBend 0 = .ok (.iconst 0, 1) := by decide +kernel
theorem dX4_spotOfGreatestBend_1 : decode cX4_spotOfGreatestBend 1 = .ok (.istore_n 2, 1) := by decide +kernel
theorem dX4_spotOfGreatestBend_2 : decode cX4_spotOfGreatestBend 2 = .ok (.aload_n 0, 1) := by decide +kernel
theorem dX4_spotOfGreatestBend_3 : decode cX4_spotOfGreatestBend 3 = .ok (.iload_n 1, 1) := by decide +kernel
theorem dX4_spotOfGreatestBend_4 : decode cX4_spotOfGreatestBend 4 = .ok (.iconst 0, 1) := by decide +kernel
theorem dX4_spotOfGreatestBend_5 : decode cX4_spotOfGreatestBend 5 = .ok (.invokevirtual 184, 3) := by decide +kernel
theorem dX4_spotOfGreatestBend_8 : decode cX4_spotOfGreatestBend 8 = .ok (.istore_n 3, 1) := by decide +kernel
theorem dX4_spotOfGreatestBend_9 : decode cX4_spotOfGreatestBend 9 = .ok (.iconst 1, 1) := by decide +kernel
theorem dX4_spotOfGreatestBend_10 : decode cX4_spotOfGreatestBend 10 = .ok (.istore 4, 2) := by decide +kernel
theorem dX4_spotOfGreatestBend_12 : decode cX4_spotOfGreatestBend 12 = .ok (.iload 4, 2) := by decide +kernel
theorem dX4_spotOfGreatestBend_14 : decode cX4_spotOfGreatestBend 14 = .ok (.sipush 400, 3) := by decide +kernel
theorem dX4_spotOfGreatestBend_17 : decode cX4_spotOfGreatestBend 17 = .ok (.if_icmp .ge 30, 3) := by decide +kernel
theorem dX4_spotOfGreatestBend_20 : decode cX4_spotOfGreatestBend 20 = .ok (.aload_n 0, 1) := by decide +kernel
theorem dX4_spotOfGreatestBend_21 : decode cX4_spotOfGreatestBend 21 = .ok (.iload_n 1, 1) := by decide +kernel
theorem dX4_spotOfGreatestBend_22 : decode cX4_spotOfGreatestBend 22 = .ok (.iload 4, 2) := by decide +kernel
theorem dX4_spotOfGreatestBend_24 : decode cX4_spotOfGreatestBend 24 = .ok (.invokevirtual 184, 3) := by decide +kernel
theorem dX4_spotOfGreatestBend_27 : decode cX4_spotOfGreatestBend 27 = .ok (.istore 5, 2) := by decide +kernel
theorem dX4_spotOfGreatestBend_29 : decode cX4_spotOfGreatestBend 29 = .ok (.iload 5, 2) := by decide +kernel
theorem dX4_spotOfGreatestBend_31 : decode cX4_spotOfGreatestBend 31 = .ok (.iload_n 3, 1) := by decide +kernel
theorem dX4_spotOfGreatestBend_32 : decode cX4_spotOfGreatestBend 32 = .ok (.if_icmp .le 9, 3) := by decide +kernel
theorem dX4_spotOfGreatestBend_35 : decode cX4_spotOfGreatestBend 35 = .ok (.iload 4, 2) := by decide +kernel
theorem dX4_spotOfGreatestBend_37 : decode cX4_spotOfGreatestBend 37 = .ok (.istore_n 2, 1) := by decide +kernel
theorem dX4_spotOfGreatestBend_38 : decode cX4_spotOfGreatestBend 38 = .ok (.iload 5, 2) := by decide +kernel
theorem dX4_spotOfGreatestBend_40 : decode cX4_spotOfGreatestBend 40 = .ok (.istore_n 3, 1) := by decide +kernel
theorem dX4_spotOfGreatestBend_41 : decode cX4_spotOfGreatestBend 41 = .ok (.iinc 4 1, 3) := by decide +kernel
theorem dX4_spotOfGreatestBend_44 : decode cX4_spotOfGreatestBend 44 = .ok (.goto (-32), 3) := by decide +kernel
theorem dX4_spotOfGreatestBend_47 : decode cX4_spotOfGreatestBend 47 = .ok (.iload_n 2, 1) := by decide +kernel
theorem dX4_spotOfGreatestBend_48 : decode cX4_spotOfGreatestBend 48 = .ok (.ireturn, 1) := by decide +kernel
theorem dX4_markPeg_0 : decode cX4_markPeg 0 = .ok (.aload_n 0, 1) := by decide +kernel
theorem dX4_markPeg_1 : decode cX4_markPeg 1 = .ok (.getfield 26, 3) := by decide +kernel
theorem dX4_markPeg_4 : decode cX4_markPeg 4 = .ok (.getfield 232, 3) := by decide +kernel
theorem dX4_markPeg_7 : decode cX4_markPeg 7 = .ok (.bipush 60, 2) := by decide +kernel
theorem dX4_markPeg_9 : decode cX4_markPeg 9 = .ok (.if_icmp .ge 27, 3) := by decide +kernel
theorem dX4_markPeg_12 : decode cX4_markPeg 12 = .ok (.aload_n 0, 1) := by decide +kernel
theorem dX4_markPeg_13 : decode cX4_markPeg 13 = .ok (.getfield 26, 3) := by decide +kernel
theorem dX4_markPeg_16 : decode cX4_markPeg 16 = .ok (.iload_n 2, 1) := by decide +kernel
theorem dX4_markPeg_17 : decode cX4_markPeg 17 = .ok (.invokevirtual 121, 3) := by decide +kernel
theorem dX4_markPeg_20 : decode cX4_markPeg 20 = .ok (.ifCond .ne 16, 3) := by decide +kernel
theorem dX4_markPeg_23 : decode cX4_markPeg 23 = .ok (.aload_n 0, 1) := by decide +kernel
theorem dX4_markPeg_24 : decode cX4_markPeg 24 = .ok (.iload_n 1, 1) := by decide +kernel
theorem dX4_markPeg_25 : decode cX4_markPeg 25 = .ok (.iload_n 2, 1) := by decide +kernel
theorem dX4_markPeg_26 : decode cX4_markPeg 26 = .ok (.invokevirtual 184, 3) := by decide +kernel
theorem dX4_markPeg_29 : decode cX4_markPeg 29 = .ok (.aload_n 0, 1) := by decide +kernel
theorem dX4_markPeg_30 : decode cX4_markPeg 30 = .ok (.getfield 37, 3) := by decide +kernel
theorem dX4_markPeg_33 : decode cX4_markPeg 33 = .ok (.if_icmp .ge 5, 3) := by decide +kernel
theorem dX4_markPeg_36 : decode cX4_markPeg 36 = .ok (.iconst 0, 1) := by decide +kernel
theorem dX4_markPeg_37 : decode cX4_markPeg 37 = .ok (.ireturn, 1) := by decide +kernel
theorem dX4_markPeg_38 : decode cX4_markPeg 38 = .ok (.aload_n 0, 1) := by decide +kernel
theorem dX4_markPeg_39 : decode cX4_markPeg 39 = .ok (.getfield 26, 3) := by decide +kernel
theorem dX4_markPeg_42 : decode cX4_markPeg 42 = .ok (.iload_n 2, 1) := by decide +kernel
theorem dX4_markPeg_43 : decode cX4_markPeg 43 = .ok (.iload_n 1, 1) := by decide +kernel
theorem dX4_markPeg_44 : decode cX4_markPeg 44 = .ok (.invokevirtual 247, 3) := by decide +kernel
theorem dX4_markPeg_47 : decode cX4_markPeg 47 = .ok (.iconst 1, 1) := by decide +kernel
theorem dX4_markPeg_48 : decode cX4_markPeg 48 = .ok (.ireturn, 1) := by decide +kernel
theorem dX4_isTruePeg_0 : decode cX4_isTruePeg 0 = .ok (.aload_n 0, 1) := by decide +kernel
theorem dX4_isTruePeg_1 : decode cX4_isTruePeg 1 = .ok (.getfield 26, 3) := by decide +kernel
theorem dX4_isTruePeg_4 : decode cX4_isTruePeg 4 = .ok (.iload_n 1, 1) := by decide +kernel
theorem dX4_isTruePeg_5 : decode cX4_isTruePeg 5 = .ok (.invokevirtual 121, 3) := by decide +kernel
theorem dX4_isTruePeg_8 : decode cX4_isTruePeg 8 = .ok (.ifCond .eq 19, 3) := by decide +kernel
theorem dX4_isTruePeg_11 : decode cX4_isTruePeg 11 = .ok (.aload_n 0, 1) := by decide +kernel
theorem dX4_isTruePeg_12 : decode cX4_isTruePeg 12 = .ok (.getfield 12, 3) := by decide +kernel
theorem dX4_isTruePeg_15 : decode cX4_isTruePeg 15 = .ok (.getfield 229, 3) := by decide +kernel
theorem dX4_isTruePeg_18 : decode cX4_isTruePeg 18 = .ok (.iload_n 1, 1) := by decide +kernel
theorem dX4_isTruePeg_19 : decode cX4_isTruePeg 19 = .ok (.iaload, 1) := by decide +kernel
theorem dX4_isTruePeg_20 : decode cX4_isTruePeg 20 = .ok (.ifCond .le 7, 3) := by decide +kernel
theorem dX4_isTruePeg_23 : decode cX4_isTruePeg 23 = .ok (.iconst 1, 1) := by decide +kernel
theorem dX4_isTruePeg_24 : decode cX4_isTruePeg 24 = .ok (.goto 4, 3) := by decide +kernel
theorem dX4_isTruePeg_27 : decode cX4_isTruePeg 27 = .ok (.iconst 0, 1) := by decide +kernel
theorem dX4_isTruePeg_28 : decode cX4_isTruePeg 28 = .ok (.ireturn, 1) := by decide +kernel
theorem dX4_trueOf_0 : decode cX4_trueOf 0 = .ok (.iconst 0, 1) := by decide +kernel
theorem dX4_trueOf_1 : decode cX4_trueOf 1 = .ok (.istore_n 2, 1) := by decide +kernel
theorem dX4_trueOf_2 : decode cX4_trueOf 2 = .ok (.iconst 0, 1) := by decide +kernel
theorem dX4_trueOf_3 : decode cX4_trueOf 3 = .ok (.istore_n 3, 1) := by decide +kernel
theorem dX4_trueOf_4 : decode cX4_trueOf 4 = .ok (.iload_n 3, 1) := by decide +kernel
theorem dX4_trueOf_5 : decode cX4_trueOf 5 = .ok (.sipush 400, 3) := by decide +kernel
theorem dX4_trueOf_8 : decode cX4_trueOf 8 = .ok (.if_icmp .ge 33, 3) := by decide +kernel
theorem dX4_trueOf_11 : decode cX4_trueOf 11 = .ok (.aload_n 0, 1) := by decide +kernel
theorem dX4_trueOf_12 : decode cX4_trueOf 12 = .ok (.getfield 26, 3) := by decide +kernel
theorem dX4_trueOf_15 : decode cX4_trueOf 15 = .ok (.getfield 249, 3) := by decide +kernel
theorem dX4_trueOf_18 : decode cX4_trueOf 18 = .ok (.iload_n 3, 1) := by decide +kernel
theorem dX4_trueOf_19 : decode cX4_trueOf 19 = .ok (.iaload, 1) := by decide +kernel
theorem dX4_trueOf_20 : decode cX4_trueOf 20 = .ok (.iload_n 1, 1) := by decide +kernel
theorem dX4_trueOf_21 : decode cX4_trueOf 21 = .ok (.if_icmp .ne 14, 3) := by decide +kernel
theorem dX4_trueOf_24 : decode cX4_trueOf 24 = .ok (.aload_n 0, 1) := by decide +kernel
theorem dX4_trueOf_25 : decode cX4_trueOf 25 = .ok (.iload_n 3, 1) := by decide +kernel
theorem dX4_trueOf_26 : decode cX4_trueOf 26 = .ok (.invokevirtual 252, 3) := by decide +kernel
theorem dX4_trueOf_29 : decode cX4_trueOf 29 = .ok (.ifCond .eq 6, 3) := by decide +kernel
theorem dX4_trueOf_32 : decode cX4_trueOf 32 = .ok (.iinc 2 1, 3) := by decide +kernel
theorem dX4_trueOf_35 : decode cX4_trueOf 35 = .ok (.iinc 3 1, 3) := by decide +kernel
theorem dX4_trueOf_38 : decode cX4_trueOf 38 = .ok (.goto (-34), 3) := by decide +kernel
theorem dX4_trueOf_41 : decode cX4_trueOf 41 = .ok (.iload_n 2, 1) := by decide +kernel
theorem dX4_trueOf_42 : decode cX4_trueOf 42 = .ok (.ireturn, 1) := by decide +kernel
theorem dX4_truePegs_0 : decode cX4_truePegs 0 = .ok (.iconst 0, 1) := by decide +kernel
theorem dX4_truePegs_1 : decode cX4_truePegs 1 = .ok (.istore_n 1, 1) := by decide +kernel
theorem dX4_truePegs_2 : decode cX4_truePegs 2 = .ok (.iconst 0, 1) := by decide +kernel
theorem dX4_truePegs_3 : decode cX4_truePegs 3 = .ok (.istore_n 2, 1) := by decide +kernel
theorem dX4_truePegs_4 : decode cX4_truePegs 4 = .ok (.iload_n 2, 1) := by decide +kernel
theorem dX4_truePegs_5 : decode cX4_truePegs 5 = .ok (.sipush 400, 3) := by decide +kernel
theorem dX4_truePegs_8 : decode cX4_truePegs 8 = .ok (.if_icmp .ge 20, 3) := by decide +kernel
theorem dX4_truePegs_11 : decode cX4_truePegs 11 = .ok (.aload_n 0, 1) := by decide +kernel
theorem dX4_truePegs_12 : decode cX4_truePegs 12 = .ok (.iload_n 2, 1) := by decide +kernel
theorem dX4_truePegs_13 : decode cX4_truePegs 13 = .ok (.invokevirtual 252, 3) := by decide +kernel
theorem dX4_truePegs_16 : decode cX4_truePegs 16 = .ok (.ifCond .eq 6, 3) := by decide +kernel
theorem dX4_truePegs_19 : decode cX4_truePegs 19 = .ok (.iinc 1 1, 3) := by decide +kernel
theorem dX4_truePegs_22 : decode cX4_truePegs 22 = .ok (.iinc 2 1, 3) := by decide +kernel
theorem dX4_truePegs_25 : decode cX4_truePegs 25 = .ok (.goto (-21), 3) := by decide +kernel
theorem dX4_truePegs_28 : decode cX4_truePegs 28 = .ok (.iload_n 1, 1) := by decide +kernel
theorem dX4_truePegs_29 : decode cX4_truePegs 29 = .ok (.ireturn, 1) := by decide +kernel
theorem dX4_payBets_0 : decode cX4_payBets 0 = .ok (.aload_n 0, 1) := by decide +kernel
theorem dX4_payBets_1 : decode cX4_payBets 1 = .ok (.getfield 33, 3) := by decide +kernel
theorem dX4_payBets_4 : decode cX4_payBets 4 = .ok (.iload_n 1, 1) := by decide +kernel
theorem dX4_payBets_5 : decode cX4_payBets 5 = .ok (.invokevirtual 255, 3) := by decide +kernel
theorem dX4_payBets_8 : decode cX4_payBets 8 = .ok (.istore_n 2, 1) := by decide +kernel
theorem dX4_payBets_9 : decode cX4_payBets 9 = .ok (.aload_n 0, 1) := by decide +kernel
theorem dX4_payBets_10 : decode cX4_payBets 10 = .ok (.getfield 33, 3) := by decide +kernel
theorem dX4_payBets_13 : decode cX4_payBets 13 = .ok (.iload_n 1, 1) := by decide +kernel
theorem dX4_payBets_14 : decode cX4_payBets 14 = .ok (.invokevirtual 258, 3) := by decide +kernel
theorem dX4_payBets_17 : decode cX4_payBets 17 = .ok (.istore_n 3, 1) := by decide +kernel
theorem dX4_payBets_18 : decode cX4_payBets 18 = .ok (.iconst 0, 1) := by decide +kernel
theorem dX4_payBets_19 : decode cX4_payBets 19 = .ok (.istore 4, 2) := by decide +kernel
theorem dX4_payBets_21 : decode cX4_payBets 21 = .ok (.iload 4, 2) := by decide +kernel
theorem dX4_payBets_23 : decode cX4_payBets 23 = .ok (.aload_n 0, 1) := by decide +kernel
theorem dX4_payBets_24 : decode cX4_payBets 24 = .ok (.getfield 19, 3) := by decide +kernel
theorem dX4_payBets_27 : decode cX4_payBets 27 = .ok (.getfield 88, 3) := by decide +kernel
theorem dX4_payBets_30 : decode cX4_payBets 30 = .ok (.if_icmp .ge 42, 3) := by decide +kernel
theorem dX4_payBets_33 : decode cX4_payBets 33 = .ok (.aload_n 0, 1) := by decide +kernel
theorem dX4_payBets_34 : decode cX4_payBets 34 = .ok (.getfield 33, 3) := by decide +kernel
theorem dX4_payBets_37 : decode cX4_payBets 37 = .ok (.iload_n 1, 1) := by decide +kernel
theorem dX4_payBets_38 : decode cX4_payBets 38 = .ok (.iload 4, 2) := by decide +kernel
theorem dX4_payBets_40 : decode cX4_payBets 40 = .ok (.iload_n 2, 1) := by decide +kernel
theorem dX4_payBets_41 : decode cX4_payBets 41 = .ok (.invokevirtual 207, 3) := by decide +kernel
theorem dX4_payBets_44 : decode cX4_payBets 44 = .ok (.istore 5, 2) := by decide +kernel
theorem dX4_payBets_46 : decode cX4_payBets 46 = .ok (.aload_n 0, 1) := by decide +kernel
theorem dX4_payBets_47 : decode cX4_payBets 47 = .ok (.getfield 19, 3) := by decide +kernel
theorem dX4_payBets_50 : decode cX4_payBets 50 = .ok (.getfield 153, 3) := by decide +kernel
theorem dX4_payBets_53 : decode cX4_payBets 53 = .ok (.iload 4, 2) := by decide +kernel
theorem dX4_payBets_55 : decode cX4_payBets 55 = .ok (.dup2, 1) := by decide +kernel
theorem dX4_payBets_56 : decode cX4_payBets 56 = .ok (.iaload, 1) := by decide +kernel
theorem dX4_payBets_57 : decode cX4_payBets 57 = .ok (.iload 5, 2) := by decide +kernel
theorem dX4_payBets_59 : decode cX4_payBets 59 = .ok (.iadd, 1) := by decide +kernel
theorem dX4_payBets_60 : decode cX4_payBets 60 = .ok (.iastore, 1) := by decide +kernel
theorem dX4_payBets_61 : decode cX4_payBets 61 = .ok (.iload_n 3, 1) := by decide +kernel
theorem dX4_payBets_62 : decode cX4_payBets 62 = .ok (.iload 5, 2) := by decide +kernel
theorem dX4_payBets_64 : decode cX4_payBets 64 = .ok (.isub, 1) := by decide +kernel
theorem dX4_payBets_65 : decode cX4_payBets 65 = .ok (.istore_n 3, 1) := by decide +kernel
theorem dX4_payBets_66 : decode cX4_payBets 66 = .ok (.iinc 4 1, 3) := by decide +kernel
theorem dX4_payBets_69 : decode cX4_payBets 69 = .ok (.goto (-48), 3) := by decide +kernel
theorem dX4_payBets_72 : decode cX4_payBets 72 = .ok (.aload_n 0, 1) := by decide +kernel
theorem dX4_payBets_73 : decode cX4_payBets 73 = .ok (.dup, 1) := by decide +kernel
theorem dX4_payBets_74 : decode cX4_payBets 74 = .ok (.getfield 41, 3) := by decide +kernel
theorem dX4_payBets_77 : decode cX4_payBets 77 = .ok (.iload_n 3, 1) := by decide +kernel
theorem dX4_payBets_78 : decode cX4_payBets 78 = .ok (.iadd, 1) := by decide +kernel
theorem dX4_payBets_79 : decode cX4_payBets 79 = .ok (.putfield 41, 3) := by decide +kernel
theorem dX4_payBets_82 : decode cX4_payBets 82 = .ok (.return_, 1) := by decide +kernel
theorem dX4_tellSpot_0 : decode cX4_tellSpot 0 = .ok (.iload_n 2, 1) := by decide +kernel
theorem dX4_tellSpot_1 : decode cX4_tellSpot 1 = .ok (.tableswitch 84 0 4 #[35, 45, 55, 65, 75], 35) := by decide +kernel
theorem dX4_tellSpot_36 : decode cX4_tellSpot 36 = .ok (.aload_n 0, 1) := by decide +kernel
theorem dX4_tellSpot_37 : decode cX4_tellSpot 37 = .ok (.getfield 12, 3) := by decide +kernel
theorem dX4_tellSpot_40 : decode cX4_tellSpot 40 = .ok (.getfield 229, 3) := by decide +kernel
theorem dX4_tellSpot_43 : decode cX4_tellSpot 43 = .ok (.iload_n 1, 1) := by decide +kernel
theorem dX4_tellSpot_44 : decode cX4_tellSpot 44 = .ok (.iaload, 1) := by decide +kernel
theorem dX4_tellSpot_45 : decode cX4_tellSpot 45 = .ok (.ireturn, 1) := by decide +kernel
theorem dX4_tellSpot_46 : decode cX4_tellSpot 46 = .ok (.aload_n 0, 1) := by decide +kernel
theorem dX4_tellSpot_47 : decode cX4_tellSpot 47 = .ok (.getfield 12, 3) := by decide +kernel
theorem dX4_tellSpot_50 : decode cX4_tellSpot 50 = .ok (.getfield 136, 3) := by decide +kernel
theorem dX4_tellSpot_53 : decode cX4_tellSpot 53 = .ok (.iload_n 1, 1) := by decide +kernel
theorem dX4_tellSpot_54 : decode cX4_tellSpot 54 = .ok (.iaload, 1) := by decide +kernel
theorem dX4_tellSpot_55 : decode cX4_tellSpot 55 = .ok (.ireturn, 1) := by decide +kernel
theorem dX4_tellSpot_56 : decode cX4_tellSpot 56 = .ok (.aload_n 0, 1) := by decide +kernel
theorem dX4_tellSpot_57 : decode cX4_tellSpot 57 = .ok (.getfield 26, 3) := by decide +kernel
theorem dX4_tellSpot_60 : decode cX4_tellSpot 60 = .ok (.getfield 249, 3) := by decide +kernel
theorem dX4_tellSpot_63 : decode cX4_tellSpot 63 = .ok (.iload_n 1, 1) := by decide +kernel
theorem dX4_tellSpot_64 : decode cX4_tellSpot 64 = .ok (.iaload, 1) := by decide +kernel
theorem dX4_tellSpot_65 : decode cX4_tellSpot 65 = .ok (.ireturn, 1) := by decide +kernel
theorem dX4_tellSpot_66 : decode cX4_tellSpot 66 = .ok (.aload_n 0, 1) := by decide +kernel
theorem dX4_tellSpot_67 : decode cX4_tellSpot 67 = .ok (.getfield 33, 3) := by decide +kernel
theorem dX4_tellSpot_70 : decode cX4_tellSpot 70 = .ok (.getfield 130, 3) := by decide +kernel
theorem dX4_tellSpot_73 : decode cX4_tellSpot 73 = .ok (.iload_n 1, 1) := by decide +kernel
theorem dX4_tellSpot_74 : decode cX4_tellSpot 74 = .ok (.iaload, 1) := by decide +kernel
theorem dX4_tellSpot_75 : decode cX4_tellSpot 75 = .ok (.ireturn, 1) := by decide +kernel
theorem dX4_tellSpot_76 : decode cX4_tellSpot 76 = .ok (.aload_n 0, 1) := by decide +kernel
theorem dX4_tellSpot_77 : decode cX4_tellSpot 77 = .ok (.getfield 26, 3) := by decide +kernel
theorem dX4_tellSpot_80 : decode cX4_tellSpot 80 = .ok (.iload_n 1, 1) := by decide +kernel
theorem dX4_tellSpot_81 : decode cX4_tellSpot 81 = .ok (.invokevirtual 261, 3) := by decide +kernel
theorem dX4_tellSpot_84 : decode cX4_tellSpot 84 = .ok (.ireturn, 1) := by decide +kernel
theorem dX4_tellSpot_85 : decode cX4_tellSpot 85 = .ok (.aload_n 0, 1) := by decide +kernel
theorem dX4_tellSpot_86 : decode cX4_tellSpot 86 = .ok (.getfield 26, 3) := by decide +kernel
theorem dX4_tellSpot_89 : decode cX4_tellSpot 89 = .ok (.iload_n 1, 1) := by decide +kernel
theorem dX4_tellSpot_90 : decode cX4_tellSpot 90 = .ok (.invokevirtual 264, 3) := by decide +kernel
theorem dX4_tellSpot_93 : decode cX4_tellSpot 93 = .ok (.ireturn, 1) := by decide +kernel
theorem dX4_tellDowser_0 : decode cX4_tellDowser 0 = .ok (.iload_n 2, 1) := by decide +kernel
theorem dX4_tellDowser_1 : decode cX4_tellDowser 1 = .ok (.tableswitch 107 0 6 #[43, 53, 63, 73, 82, 88, 97], 43) := by decide +kernel
theorem dX4_tellDowser_44 : decode cX4_tellDowser 44 = .ok (.aload_n 0, 1) := by decide +kernel
theorem dX4_tellDowser_45 : decode cX4_tellDowser 45 = .ok (.getfield 19, 3) := by decide +kernel
theorem dX4_tellDowser_48 : decode cX4_tellDowser 48 = .ok (.getfield 237, 3) := by decide +kernel
theorem dX4_tellDowser_51 : decode cX4_tellDowser 51 = .ok (.iload_n 1, 1) := by decide +kernel
theorem dX4_tellDowser_52 : decode cX4_tellDowser 52 = .ok (.iaload, 1) := by decide +kernel
theorem dX4_tellDowser_53 : decode cX4_tellDowser 53 = .ok (.ireturn, 1) := by decide +kernel
theorem dX4_tellDowser_54 : decode cX4_tellDowser 54 = .ok (.aload_n 0, 1) := by decide +kernel
theorem dX4_tellDowser_55 : decode cX4_tellDowser 55 = .ok (.getfield 19, 3) := by decide +kernel
theorem dX4_tellDowser_58 : decode cX4_tellDowser 58 = .ok (.getfield 241, 3) := by decide +kernel
theorem dX4_tellDowser_61 : decode cX4_tellDowser 61 = .ok (.iload_n 1, 1) := by decide +kernel
theorem dX4_tellDowser_62 : decode cX4_tellDowser 62 = .ok (.iaload, 1) := by decide +kernel
theorem dX4_tellDowser_63 : decode cX4_tellDowser 63 = .ok (.ireturn, 1) := by decide +kernel
theorem dX4_tellDowser_64 : decode cX4_tellDowser 64 = .ok (.aload_n 0, 1) := by decide +kernel
theorem dX4_tellDowser_65 : decode cX4_tellDowser 65 = .ok (.getfield 19, 3) := by decide +kernel
theorem dX4_tellDowser_68 : decode cX4_tellDowser 68 = .ok (.getfield 153, 3) := by decide +kernel
theorem dX4_tellDowser_71 : decode cX4_tellDowser 71 = .ok (.iload_n 1, 1) := by decide +kernel
theorem dX4_tellDowser_72 : decode cX4_tellDowser 72 = .ok (.iaload, 1) := by decide +kernel
theorem dX4_tellDowser_73 : decode cX4_tellDowser 73 = .ok (.ireturn, 1) := by decide +kernel
theorem dX4_tellDowser_74 : decode cX4_tellDowser 74 = .ok (.aload_n 0, 1) := by decide +kernel
theorem dX4_tellDowser_75 : decode cX4_tellDowser 75 = .ok (.getfield 26, 3) := by decide +kernel
theorem dX4_tellDowser_78 : decode cX4_tellDowser 78 = .ok (.iload_n 1, 1) := by decide +kernel
theorem dX4_tellDowser_79 : decode cX4_tellDowser 79 = .ok (.invokevirtual 220, 3) := by decide +kernel
theorem dX4_tellDowser_82 : decode cX4_tellDowser 82 = .ok (.ireturn, 1) := by decide +kernel
theorem dX4_tellDowser_83 : decode cX4_tellDowser 83 = .ok (.aload_n 0, 1) := by decide +kernel
theorem dX4_tellDowser_84 : decode cX4_tellDowser 84 = .ok (.iload_n 1, 1) := by decide +kernel
theorem dX4_tellDowser_85 : decode cX4_tellDowser 85 = .ok (.invokevirtual 223, 3) := by decide +kernel
theorem dX4_tellDowser_88 : decode cX4_tellDowser 88 = .ok (.ireturn, 1) := by decide +kernel
theorem dX4_tellDowser_89 : decode cX4_tellDowser 89 = .ok (.aload_n 0, 1) := by decide +kernel
theorem dX4_tellDowser_90 : decode cX4_tellDowser 90 = .ok (.getfield 33, 3) := by decide +kernel
theorem dX4_tellDowser_93 : decode cX4_tellDowser 93 = .ok (.iload_n 1, 1) := by decide +kernel
theorem dX4_tellDowser_94 : decode cX4_tellDowser 94 = .ok (.invokevirtual 267, 3) := by decide +kernel
theorem dX4_tellDowser_97 : decode cX4_tellDowser 97 = .ok (.ireturn, 1) := by decide +kernel
theorem dX4_tellDowser_98 : decode cX4_tellDowser 98 = .ok (.aload_n 0, 1) := by decide +kernel
theorem dX4_tellDowser_99 : decode cX4_tellDowser 99 = .ok (.getfield 33, 3) := by decide +kernel
theorem dX4_tellDowser_102 : decode cX4_tellDowser 102 = .ok (.iload_n 1, 1) := by decide +kernel
theorem dX4_tellDowser_103 : decode cX4_tellDowser 103 = .ok (.iconst 1, 1) := by decide +kernel
theorem dX4_tellDowser_104 : decode cX4_tellDowser 104 = .ok (.invokevirtual 270, 3) := by decide +kernel
theorem dX4_tellDowser_107 : decode cX4_tellDowser 107 = .ok (.ireturn, 1) := by decide +kernel
theorem dX4_tellDowser_108 : decode cX4_tellDowser 108 = .ok (.aload_n 0, 1) := by decide +kernel
theorem dX4_tellDowser_109 : decode cX4_tellDowser 109 = .ok (.getfield 33, 3) := by decide +kernel
theorem dX4_tellDowser_112 : decode cX4_tellDowser 112 = .ok (.iload_n 1, 1) := by decide +kernel
theorem dX4_tellDowser_113 : decode cX4_tellDowser 113 = .ok (.iconst 0, 1) := by decide +kernel
theorem dX4_tellDowser_114 : decode cX4_tellDowser 114 = .ok (.invokevirtual 270, 3) := by decide +kernel
theorem dX4_tellDowser_117 : decode cX4_tellDowser 117 = .ok (.ireturn, 1) := by decide +kernel
theorem dX4_tellCount_0 : decode cX4_tellCount 0 = .ok (.iload_n 1, 1) := by decide +kernel
theorem dX4_tellCount_1 : decode cX4_tellCount 1 = .ok (.tableswitch 102 0 7 #[47, 55, 63, 71, 79, 84, 92, 97], 47) := by decide +kernel
theorem dX4_tellCount_48 : decode cX4_tellCount 48 = .ok (.aload_n 0, 1) := by decide +kernel
theorem dX4_tellCount_49 : decode cX4_tellCount 49 = .ok (.getfield 12, 3) := by decide +kernel
theorem dX4_tellCount_52 : decode cX4_tellCount 52 = .ok (.getfield 70, 3) := by decide +kernel
theorem dX4_tellCount_55 : decode cX4_tellCount 55 = .ok (.ireturn, 1) := by decide +kernel
theorem dX4_tellCount_56 : decode cX4_tellCount 56 = .ok (.aload_n 0, 1) := by decide +kernel
theorem dX4_tellCount_57 : decode cX4_tellCount 57 = .ok (.getfield 19, 3) := by decide +kernel
theorem dX4_tellCount_60 : decode cX4_tellCount 60 = .ok (.getfield 88, 3) := by decide +kernel
theorem dX4_tellCount_63 : decode cX4_tellCount 63 = .ok (.ireturn, 1) := by decide +kernel
theorem dX4_tellCount_64 : decode cX4_tellCount 64 = .ok (.aload_n 0, 1) := by decide +kernel
theorem dX4_tellCount_65 : decode cX4_tellCount 65 = .ok (.getfield 26, 3) := by decide +kernel
theorem dX4_tellCount_68 : decode cX4_tellCount 68 = .ok (.getfield 232, 3) := by decide +kernel
theorem dX4_tellCount_71 : decode cX4_tellCount 71 = .ok (.ireturn, 1) := by decide +kernel
theorem dX4_tellCount_72 : decode cX4_tellCount 72 = .ok (.aload_n 0, 1) := by decide +kernel
theorem dX4_tellCount_73 : decode cX4_tellCount 73 = .ok (.getfield 33, 3) := by decide +kernel
theorem dX4_tellCount_76 : decode cX4_tellCount 76 = .ok (.getfield 129, 3) := by decide +kernel
theorem dX4_tellCount_79 : decode cX4_tellCount 79 = .ok (.ireturn, 1) := by decide +kernel
theorem dX4_tellCount_80 : decode cX4_tellCount 80 = .ok (.aload_n 0, 1) := by decide +kernel
theorem dX4_tellCount_81 : decode cX4_tellCount 81 = .ok (.getfield 37, 3) := by decide +kernel
theorem dX4_tellCount_84 : decode cX4_tellCount 84 = .ok (.ireturn, 1) := by decide +kernel
theorem dX4_tellCount_85 : decode cX4_tellCount 85 = .ok (.aload_n 0, 1) := by decide +kernel
theorem dX4_tellCount_86 : decode cX4_tellCount 86 = .ok (.getfield 12, 3) := by decide +kernel
theorem dX4_tellCount_89 : decode cX4_tellCount 89 = .ok (.invokevirtual 274, 3) := by decide +kernel
theorem dX4_tellCount_92 : decode cX4_tellCount 92 = .ok (.ireturn, 1) := by decide +kernel
theorem dX4_tellCount_93 : decode cX4_tellCount 93 = .ok (.aload_n 0, 1) := by decide +kernel
theorem dX4_tellCount_94 : decode cX4_tellCount 94 = .ok (.invokevirtual 278, 3) := by decide +kernel
theorem dX4_tellCount_97 : decode cX4_tellCount 97 = .ok (.ireturn, 1) := by decide +kernel
theorem dX4_tellCount_98 : decode cX4_tellCount 98 = .ok (.aload_n 0, 1) := by decide +kernel
theorem dX4_tellCount_99 : decode cX4_tellCount 99 = .ok (.getfield 41, 3) := by decide +kernel
theorem dX4_tellCount_102 : decode cX4_tellCount 102 = .ok (.ireturn, 1) := by decide +kernel
theorem dX4_tellCount_103 : decode cX4_tellCount 103 = .ok (.aload_n 0, 1) := by decide +kernel
theorem dX4_tellCount_104 : decode cX4_tellCount 104 = .ok (.getfield 19, 3) := by decide +kernel
theorem dX4_tellCount_107 : decode cX4_tellCount 107 = .ok (.invokevirtual 281, 3) := by decide +kernel
theorem dX4_tellCount_110 : decode cX4_tellCount 110 = .ok (.ireturn, 1) := by decide +kernel
theorem dJ6_signum_0f7a4_0 : decode cJ6_signum_0f7a4 0 = .ok (.iload_n 0, 1) := by decide +kernel
theorem dJ6_signum_0f7a4_1 : decode cJ6_signum_0f7a4 1 = .ok (.bipush 31, 2) := by decide +kernel
theorem dJ6_signum_0f7a4_3 : decode cJ6_signum_0f7a4 3 = .ok (.ishr, 1) := by decide +kernel
theorem dJ6_signum_0f7a4_4 : decode cJ6_signum_0f7a4 4 = .ok (.iload_n 0, 1) := by decide +kernel
theorem dJ6_signum_0f7a4_5 : decode cJ6_signum_0f7a4 5 = .ok (.ineg, 1) := by decide +kernel
theorem dJ6_signum_0f7a4_6 : decode cJ6_signum_0f7a4 6 = .ok (.bipush 31, 2) := by decide +kernel
theorem dJ6_signum_0f7a4_8 : decode cJ6_signum_0f7a4 8 = .ok (.iushr, 1) := by decide +kernel
theorem dJ6_signum_0f7a4_9 : decode cJ6_signum_0f7a4 9 = .ok (.ior, 1) := by decide +kernel
theorem dJ6_signum_0f7a4_10 : decode cJ6_signum_0f7a4 10 = .ok (.ireturn, 1) := by decide +kernel
theorem dJ9_abs_0f7a4_0 : decode cJ9_abs_0f7a4 0 = .ok (.iload_n 0, 1) := by decide +kernel
theorem dJ9_abs_0f7a4_1 : decode cJ9_abs_0f7a4 1 = .ok (.ifCond .ge 8, 3) := by decide +kernel
theorem dJ9_abs_0f7a4_4 : decode cJ9_abs_0f7a4 4 = .ok (.iload_n 0, 1) := by decide +kernel
theorem dJ9_abs_0f7a4_5 : decode cJ9_abs_0f7a4 5 = .ok (.ineg, 1) := by decide +kernel
theorem dJ9_abs_0f7a4_6 : decode cJ9_abs_0f7a4 6 = .ok (.goto 4, 3) := by decide +kernel
theorem dJ9_abs_0f7a4_9 : decode cJ9_abs_0f7a4 9 = .ok (.iload_n 0, 1) := by decide +kernel
theorem dJ9_abs_0f7a4_10 : decode cJ9_abs_0f7a4 10 = .ok (.ireturn, 1) := by decide +kernel
theorem dJ9_max_7cf53_0 : decode cJ9_max_7cf53 0 = .ok (.iload_n 0, 1) := by decide +kernel
theorem dJ9_max_7cf53_1 : decode cJ9_max_7cf53 1 = .ok (.iload_n 1, 1) := by decide +kernel
theorem dJ9_max_7cf53_2 : decode cJ9_max_7cf53 2 = .ok (.if_icmp .lt 7, 3) := by decide +kernel
theorem dJ9_max_7cf53_5 : decode cJ9_max_7cf53 5 = .ok (.iload_n 0, 1) := by decide +kernel
theorem dJ9_max_7cf53_6 : decode cJ9_max_7cf53 6 = .ok (.goto 4, 3) := by decide +kernel
theorem dJ9_max_7cf53_9 : decode cJ9_max_7cf53 9 = .ok (.iload_n 1, 1) := by decide +kernel
theorem dJ9_max_7cf53_10 : decode cJ9_max_7cf53 10 = .ok (.ireturn, 1) := by decide +kernel
theorem dJ9_min_7cf53_0 : decode cJ9_min_7cf53 0 = .ok (.iload_n 0, 1) := by decide +kernel
theorem dJ9_min_7cf53_1 : decode cJ9_min_7cf53 1 = .ok (.iload_n 1, 1) := by decide +kernel
theorem dJ9_min_7cf53_2 : decode cJ9_min_7cf53 2 = .ok (.if_icmp .gt 7, 3) := by decide +kernel
theorem dJ9_min_7cf53_5 : decode cJ9_min_7cf53 5 = .ok (.iload_n 0, 1) := by decide +kernel
theorem dJ9_min_7cf53_6 : decode cJ9_min_7cf53 6 = .ok (.goto 4, 3) := by decide +kernel
theorem dJ9_min_7cf53_9 : decode cJ9_min_7cf53 9 = .ok (.iload_n 1, 1) := by decide +kernel
theorem dJ9_min_7cf53_10 : decode cJ9_min_7cf53 10 = .ok (.ireturn, 1) := by decide +kernel
theorem dJ7_fill_53178_0 : decode cJ7_fill_53178 0 = .ok (.iconst 0, 1) := by decide +kernel
theorem dJ7_fill_53178_1 : decode cJ7_fill_53178 1 = .ok (.istore_n 2, 1) := by decide +kernel
theorem dJ7_fill_53178_2 : decode cJ7_fill_53178 2 = .ok (.aload_n 0, 1) := by decide +kernel
theorem dJ7_fill_53178_3 : decode cJ7_fill_53178 3 = .ok (.arraylength, 1) := by decide +kernel
theorem dJ7_fill_53178_4 : decode cJ7_fill_53178 4 = .ok (.istore_n 3, 1) := by decide +kernel
theorem dJ7_fill_53178_5 : decode cJ7_fill_53178 5 = .ok (.iload_n 2, 1) := by decide +kernel
theorem dJ7_fill_53178_6 : decode cJ7_fill_53178 6 = .ok (.iload_n 3, 1) := by decide +kernel
theorem dJ7_fill_53178_7 : decode cJ7_fill_53178 7 = .ok (.if_icmp .ge 13, 3) := by decide +kernel
theorem dJ7_fill_53178_10 : decode cJ7_fill_53178 10 = .ok (.aload_n 0, 1) := by decide +kernel
theorem dJ7_fill_53178_11 : decode cJ7_fill_53178 11 = .ok (.iload_n 2, 1) := by decide +kernel
theorem dJ7_fill_53178_12 : decode cJ7_fill_53178 12 = .ok (.iload_n 1, 1) := by decide +kernel
theorem dJ7_fill_53178_13 : decode cJ7_fill_53178 13 = .ok (.iastore, 1) := by decide +kernel
theorem dJ7_fill_53178_14 : decode cJ7_fill_53178 14 = .ok (.iinc 2 1, 3) := by decide +kernel
theorem dJ7_fill_53178_17 : decode cJ7_fill_53178 17 = .ok (.goto (-12), 3) := by decide +kernel
theorem dJ7_fill_53178_20 : decode cJ7_fill_53178 20 = .ok (.return_, 1) := by decide +kernel
