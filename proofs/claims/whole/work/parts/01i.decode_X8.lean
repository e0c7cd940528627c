theorem dX8_init_0 : decode cX8_init 0 = .ok (.aload_n 0, 1) := by decide +kernel
theorem dX8_init_1 : decode cX8_init 1 = .ok (.invokespecial 1, 3) := by decide +kernel
theorem dX8_init_4 : decode cX8_init 4 = .ok (.aload_n 0, 1) := by decide +kernel
theorem dX8_init_5 : decode cX8_init 5 = .ok (.iconst 2, 1) := by decide +kernel
theorem dX8_init_6 : decode cX8_init 6 = .ok (.anewarray 7, 3) := by decide +kernel
theorem dX8_init_9 : decode cX8_init 9 = .ok (.dup, 1) := by decide +kernel
theorem dX8_init_10 : decode cX8_init 10 = .ok (.iconst 0, 1) := by decide +kernel
theorem dX8_init_11 : decode cX8_init 11 = .ok (.new 7, 3) := by decide +kernel
theorem dX8_init_14 : decode cX8_init 14 = .ok (.dup, 1) := by decide +kernel
theorem dX8_init_15 : decode cX8_init 15 = .ok (.invokespecial 9, 3) := by decide +kernel
theorem dX8_init_18 : decode cX8_init 18 = .ok (.aastore, 1) := by decide +kernel
theorem dX8_init_19 : decode cX8_init 19 = .ok (.dup, 1) := by decide +kernel
theorem dX8_init_20 : decode cX8_init 20 = .ok (.iconst 1, 1) := by decide +kernel
theorem dX8_init_21 : decode cX8_init 21 = .ok (.new 7, 3) := by decide +kernel
theorem dX8_init_24 : decode cX8_init 24 = .ok (.dup, 1) := by decide +kernel
theorem dX8_init_25 : decode cX8_init 25 = .ok (.invokespecial 9, 3) := by decide +kernel
theorem dX8_init_28 : decode cX8_init 28 = .ok (.aastore, 1) := by decide +kernel
theorem dX8_init_29 : decode cX8_init 29 = .ok (.putfield 10, 3) := by decide +kernel
theorem dX8_init_32 : decode cX8_init 32 = .ok (.aload_n 0, 1) := by decide +kernel
theorem dX8_init_33 : decode cX8_init 33 = .ok (.iconst 2, 1) := by decide +kernel
theorem dX8_init_34 : decode cX8_init 34 = .ok (.anewarray 16, 3) := by decide +kernel
theorem dX8_init_37 : decode cX8_init 37 = .ok (.dup, 1) := by decide +kernel
theorem dX8_init_38 : decode cX8_init 38 = .ok (.iconst 0, 1) := by decide +kernel
theorem dX8_init_39 : decode cX8_init 39 = .ok (.new 16, 3) := by decide +kernel
theorem dX8_init_42 : decode cX8_init 42 = .ok (.dup, 1) := by decide +kernel
theorem dX8_init_43 : decode cX8_init 43 = .ok (.iconst 0, 1) := by decide +kernel
theorem dX8_init_44 : decode cX8_init 44 = .ok (.aload_n 0, 1) := by decide +kernel
theorem dX8_init_45 : decode cX8_init 45 = .ok (.getfield 10, 3) := by decide +kernel
theorem dX8_init_48 : decode cX8_init 48 = .ok (.iconst 0, 1) := by decide +kernel
theorem dX8_init_49 : decode cX8_init 49 = .ok (.aaload, 1) := by decide +kernel
theorem dX8_init_50 : decode cX8_init 50 = .ok (.invokespecial 18, 3) := by decide +kernel
theorem dX8_init_53 : decode cX8_init 53 = .ok (.aastore, 1) := by decide +kernel
theorem dX8_init_54 : decode cX8_init 54 = .ok (.dup, 1) := by decide +kernel
theorem dX8_init_55 : decode cX8_init 55 = .ok (.iconst 1, 1) := by decide +kernel
theorem dX8_init_56 : decode cX8_init 56 = .ok (.new 16, 3) := by decide +kernel
theorem dX8_init_59 : decode cX8_init 59 = .ok (.dup, 1) := by decide +kernel
theorem dX8_init_60 : decode cX8_init 60 = .ok (.iconst 1, 1) := by decide +kernel
theorem dX8_init_61 : decode cX8_init 61 = .ok (.aload_n 0, 1) := by decide +kernel
theorem dX8_init_62 : decode cX8_init 62 = .ok (.getfield 10, 3) := by decide +kernel
theorem dX8_init_65 : decode cX8_init 65 = .ok (.iconst 1, 1) := by decide +kernel
theorem dX8_init_66 : decode cX8_init 66 = .ok (.aaload, 1) := by decide +kernel
theorem dX8_init_67 : decode cX8_init 67 = .ok (.invokespecial 18, 3) := by decide +kernel
theorem dX8_init_70 : decode cX8_init 70 = .ok (.aastore, 1) := by decide +kernel
theorem dX8_init_71 : decode cX8_init 71 = .ok (.putfield 21, 3) := by decide +kernel
theorem dX8_init_74 : decode cX8_init 74 = .ok (.aload_n 0, 1) := by decide +kernel
theorem dX8_init_75 : decode cX8_init 75 = .ok (.bipush 100, 2) := by decide +kernel
theorem dX8_init_77 : decode cX8_init 77 = .ok (.newarray .int, 2) := by decide +kernel
theorem dX8_init_79 : decode cX8_init 79 = .ok (.putfield 25, 3) := by decide +kernel
theorem dX8_init_82 : decode cX8_init 82 = .ok (.aload_n 0, 1) := by decide +kernel
theorem dX8_init_83 : decode cX8_init 83 = .ok (.iconst 0, 1) := by decide +kernel
theorem dX8_init_84 : decode cX8_init 84 = .ok (.putfield 29, 3) := by decide +kernel
theorem dX8_init_87 : decode cX8_init 87 = .ok (.return_, 1) := by decide +kernel
theorem dX8_put_0 : decode cX8_put 0 = .ok (.iload_n 1, 1) := by decide +kernel
theorem dX8_put_1 : decode cX8_put 1 = .ok (.ifCond .lt 19, 3) := by decide +kernel
theorem dX8_put_4 : decode cX8_put 4 = .ok (.iload_n 1, 1) := by decide +kernel
theorem dX8_put_5 : decode cX8_put 5 = .ok (.sipush 255, 3) := by decide +kernel
theorem dX8_put_8 : decode cX8_put 8 = .ok (.if_icmp .gt 12, 3) := by decide +kernel
theorem dX8_put_11 : decode cX8_put 11 = .ok (.aload_n 0, 1) := by decide +kernel
theorem dX8_put_12 : decode cX8_put 12 = .ok (.getfield 29, 3) := by decide +kernel
theorem dX8_put_15 : decode cX8_put 15 = .ok (.bipush 100, 2) := by decide +kernel
theorem dX8_put_17 : decode cX8_put 17 = .ok (.if_icmp .lt 5, 3) := by decide +kernel
theorem dX8_put_20 : decode cX8_put 20 = .ok (.iconst (-1), 1) := by decide +kernel
theorem dX8_put_21 : decode cX8_put 21 = .ok (.ireturn, 1) := by decide +kernel
theorem dX8_put_22 : decode cX8_put 22 = .ok (.aload_n 0, 1) := by decide +kernel
theorem dX8_put_23 : decode cX8_put 23 = .ok (.getfield 25, 3) := by decide +kernel
theorem dX8_put_26 : decode cX8_put 26 = .ok (.aload_n 0, 1) := by decide +kernel
theorem dX8_put_27 : decode cX8_put 27 = .ok (.getfield 29, 3) := by decide +kernel
theorem dX8_put_30 : decode cX8_put 30 = .ok (.iload_n 1, 1) := by decide +kernel
theorem dX8_put_31 : decode cX8_put 31 = .ok (.iastore, 1) := by decide +kernel
theorem dX8_put_32 : decode cX8_put 32 = .ok (.aload_n 0, 1) := by decide +kernel
theorem dX8_put_33 : decode cX8_put 33 = .ok (.dup, 1) := by decide +kernel
theorem dX8_put_34 : decode cX8_put 34 = .ok (.getfield 29, 3) := by decide +kernel
theorem dX8_put_37 : decode cX8_put 37 = .ok (.iconst 1, 1) := by decide +kernel
theorem dX8_put_38 : decode cX8_put 38 = .ok (.iadd, 1) := by decide +kernel
theorem dX8_put_39 : decode cX8_put 39 = .ok (.putfield 29, 3) := by decide +kernel
theorem dX8_put_42 : decode cX8_put 42 = .ok (.aload_n 0, 1) := by decide +kernel
theorem dX8_put_43 : decode cX8_put 43 = .ok (.getfield 29, 3) := by decide +kernel
theorem dX8_put_46 : decode cX8_put 46 = .ok (.ireturn, 1) := by decide +kernel
theorem dX8_queue_0 : decode cX8_queue 0 = .ok (.iload_n 1, 1) := by decide +kernel
theorem dX8_queue_1 : decode cX8_queue 1 = .ok (.invokestatic 33, 3) := by decide +kernel
theorem dX8_queue_4 : decode cX8_queue 4 = .ok (.ifCond .ne 5, 3) := by decide +kernel
theorem dX8_queue_7 : decode cX8_queue 7 = .ok (.iconst (-1), 1) := by decide +kernel
theorem dX8_queue_8 : decode cX8_queue 8 = .ok (.ireturn, 1) := by decide +kernel
theorem dX8_queue_9 : decode cX8_queue 9 = .ok (.aload_n 0, 1) := by decide +kernel
theorem dX8_queue_10 : decode cX8_queue 10 = .ok (.getfield 21, 3) := by decide +kernel
theorem dX8_queue_13 : decode cX8_queue 13 = .ok (.iload_n 1, 1) := by decide +kernel
theorem dX8_queue_14 : decode cX8_queue 14 = .ok (.aaload, 1) := by decide +kernel
theorem dX8_queue_15 : decode cX8_queue 15 = .ok (.getfield 37, 3) := by decide +kernel
theorem dX8_queue_18 : decode cX8_queue 18 = .ok (.aload_n 0, 1) := by decide +kernel
theorem dX8_queue_19 : decode cX8_queue 19 = .ok (.getfield 25, 3) := by decide +kernel
theorem dX8_queue_22 : decode cX8_queue 22 = .ok (.aload_n 0, 1) := by decide +kernel
theorem dX8_queue_23 : decode cX8_queue 23 = .ok (.getfield 29, 3) := by decide +kernel
theorem dX8_queue_26 : decode cX8_queue 26 = .ok (.invokevirtual 41, 3) := by decide +kernel
theorem dX8_queue_29 : decode cX8_queue 29 = .ok (.istore_n 2, 1) := by decide +kernel
theorem dX8_queue_30 : decode cX8_queue 30 = .ok (.iload_n 2, 1) := by decide +kernel
theorem dX8_queue_31 : decode cX8_queue 31 = .ok (.iconst (-1), 1) := by decide +kernel
theorem dX8_queue_32 : decode cX8_queue 32 = .ok (.if_icmp .eq 8, 3) := by decide +kernel
theorem dX8_queue_35 : decode cX8_queue 35 = .ok (.aload_n 0, 1) := by decide +kernel
theorem dX8_queue_36 : decode cX8_queue 36 = .ok (.iconst 0, 1) := by decide +kernel
theorem dX8_queue_37 : decode cX8_queue 37 = .ok (.putfield 29, 3) := by decide +kernel
theorem dX8_queue_40 : decode cX8_queue 40 = .ok (.iload_n 2, 1) := by decide +kernel
theorem dX8_queue_41 : decode cX8_queue 41 = .ok (.ireturn, 1) := by decide +kernel
theorem dX8_call_0 : decode cX8_call 0 = .ok (.iload_n 1, 1) := by decide +kernel
theorem dX8_call_1 : decode cX8_call 1 = .ok (.invokestatic 33, 3) := by decide +kernel
theorem dX8_call_4 : decode cX8_call 4 = .ok (.ifCond .eq 15, 3) := by decide +kernel
theorem dX8_call_7 : decode cX8_call 7 = .ok (.aload_n 0, 1) := by decide +kernel
theorem dX8_call_8 : decode cX8_call 8 = .ok (.getfield 21, 3) := by decide +kernel
theorem dX8_call_11 : decode cX8_call 11 = .ok (.iload_n 1, 1) := by decide +kernel
theorem dX8_call_12 : decode cX8_call 12 = .ok (.aaload, 1) := by decide +kernel
theorem dX8_call_13 : decode cX8_call 13 = .ok (.getfield 47, 3) := by decide +kernel
theorem dX8_call_16 : decode cX8_call 16 = .ok (.ifCond .eq 5, 3) := by decide +kernel
theorem dX8_call_19 : decode cX8_call 19 = .ok (.iconst 0, 1) := by decide +kernel
theorem dX8_call_20 : decode cX8_call 20 = .ok (.ireturn, 1) := by decide +kernel
theorem dX8_call_21 : decode cX8_call 21 = .ok (.aload_n 0, 1) := by decide +kernel
theorem dX8_call_22 : decode cX8_call 22 = .ok (.getfield 10, 3) := by decide +kernel
theorem dX8_call_25 : decode cX8_call 25 = .ok (.iconst 0, 1) := by decide +kernel
theorem dX8_call_26 : decode cX8_call 26 = .ok (.aaload, 1) := by decide +kernel
theorem dX8_call_27 : decode cX8_call 27 = .ok (.invokevirtual 50, 3) := by decide +kernel
theorem dX8_call_30 : decode cX8_call 30 = .ok (.aload_n 0, 1) := by decide +kernel
theorem dX8_call_31 : decode cX8_call 31 = .ok (.getfield 10, 3) := by decide +kernel
theorem dX8_call_34 : decode cX8_call 34 = .ok (.iconst 1, 1) := by decide +kernel
theorem dX8_call_35 : decode cX8_call 35 = .ok (.aaload, 1) := by decide +kernel
theorem dX8_call_36 : decode cX8_call 36 = .ok (.invokevirtual 50, 3) := by decide +kernel
theorem dX8_call_39 : decode cX8_call 39 = .ok (.aload_n 0, 1) := by decide +kernel
theorem dX8_call_40 : decode cX8_call 40 = .ok (.getfield 21, 3) := by decide +kernel
theorem dX8_call_43 : decode cX8_call 43 = .ok (.iload_n 1, 1) := by decide +kernel
theorem dX8_call_44 : decode cX8_call 44 = .ok (.aaload, 1) := by decide +kernel
theorem dX8_call_45 : decode cX8_call 45 = .ok (.invokevirtual 53, 3) := by decide +kernel
theorem dX8_call_48 : decode cX8_call 48 = .ok (.iconst 1, 1) := by decide +kernel
theorem dX8_call_49 : decode cX8_call 49 = .ok (.ireturn, 1) := by decide +kernel
theorem dX8_deliver_0 : decode cX8_deliver 0 = .ok (.iload_n 1, 1) := by decide +kernel
theorem dX8_deliver_1 : decode cX8_deliver 1 = .ok (.invokestatic 33, 3) := by decide +kernel
theorem dX8_deliver_4 : decode cX8_deliver 4 = .ok (.ifCond .eq 11, 3) := by decide +kernel
theorem dX8_deliver_7 : decode cX8_deliver 7 = .ok (.aload_n 0, 1) := by decide +kernel
theorem dX8_deliver_8 : decode cX8_deliver 8 = .ok (.iload_n 1, 1) := by decide +kernel
theorem dX8_deliver_9 : decode cX8_deliver 9 = .ok (.invokevirtual 56, 3) := by decide +kernel
theorem dX8_deliver_12 : decode cX8_deliver 12 = .ok (.goto 4, 3) := by decide +kernel
theorem dX8_deliver_15 : decode cX8_deliver 15 = .ok (.iconst (-1), 1) := by decide +kernel
theorem dX8_deliver_16 : decode cX8_deliver 16 = .ok (.ireturn, 1) := by decide +kernel
theorem dX8_lose_0 : decode cX8_lose 0 = .ok (.aload_n 0, 1) := by decide +kernel
theorem dX8_lose_1 : decode cX8_lose 1 = .ok (.iload_n 1, 1) := by decide +kernel
theorem dX8_lose_2 : decode cX8_lose 2 = .ok (.iconst 0, 1) := by decide +kernel
theorem dX8_lose_3 : decode cX8_lose 3 = .ok (.invokevirtual 60, 3) := by decide +kernel
theorem dX8_lose_6 : decode cX8_lose 6 = .ok (.ifnonnull 5, 3) := by decide +kernel
theorem dX8_lose_9 : decode cX8_lose 9 = .ok (.iconst 0, 1) := by decide +kernel
theorem dX8_lose_10 : decode cX8_lose 10 = .ok (.ireturn, 1) := by decide +kernel
theorem dX8_lose_11 : decode cX8_lose 11 = .ok (.aload_n 0, 1) := by decide +kernel
theorem dX8_lose_12 : decode cX8_lose 12 = .ok (.getfield 10, 3) := by decide +kernel
theorem dX8_lose_15 : decode cX8_lose 15 = .ok (.iload_n 1, 1) := by decide +kernel
theorem dX8_lose_16 : decode cX8_lose 16 = .ok (.aaload, 1) := by decide +kernel
theorem dX8_lose_17 : decode cX8_lose 17 = .ok (.invokevirtual 64, 3) := by decide +kernel
theorem dX8_lose_20 : decode cX8_lose 20 = .ok (.iconst 1, 1) := by decide +kernel
theorem dX8_lose_21 : decode cX8_lose 21 = .ok (.ireturn, 1) := by decide +kernel
theorem dX8_alter_0 : decode cX8_alter 0 = .ok (.aload_n 0, 1) := by decide +kernel
theorem dX8_alter_1 : decode cX8_alter 1 = .ok (.iload_n 1, 1) := by decide +kernel
theorem dX8_alter_2 : decode cX8_alter 2 = .ok (.iconst 0, 1) := by decide +kernel
theorem dX8_alter_3 : decode cX8_alter 3 = .ok (.invokevirtual 60, 3) := by decide +kernel
theorem dX8_alter_6 : decode cX8_alter 6 = .ok (.astore 4, 2) := by decide +kernel
theorem dX8_alter_8 : decode cX8_alter 8 = .ok (.aload 4, 2) := by decide +kernel
theorem dX8_alter_10 : decode cX8_alter 10 = .ok (.ifnull 28, 3) := by decide +kernel
theorem dX8_alter_13 : decode cX8_alter 13 = .ok (.iload_n 2, 1) := by decide +kernel
theorem dX8_alter_14 : decode cX8_alter 14 = .ok (.ifCond .lt 24, 3) := by decide +kernel
theorem dX8_alter_17 : decode cX8_alter 17 = .ok (.iload_n 2, 1) := by decide +kernel
theorem dX8_alter_18 : decode cX8_alter 18 = .ok (.aload 4, 2) := by decide +kernel
theorem dX8_alter_20 : decode cX8_alter 20 = .ok (.getfield 67, 3) := by decide +kernel
theorem dX8_alter_23 : decode cX8_alter 23 = .ok (.if_icmp .ge 15, 3) := by decide +kernel
theorem dX8_alter_26 : decode cX8_alter 26 = .ok (.iload_n 3, 1) := by decide +kernel
theorem dX8_alter_27 : decode cX8_alter 27 = .ok (.iconst 1, 1) := by decide +kernel
theorem dX8_alter_28 : decode cX8_alter 28 = .ok (.if_icmp .lt 10, 3) := by decide +kernel
theorem dX8_alter_31 : decode cX8_alter 31 = .ok (.iload_n 3, 1) := by decide +kernel
theorem dX8_alter_32 : decode cX8_alter 32 = .ok (.sipush 255, 3) := by decide +kernel
theorem dX8_alter_35 : decode cX8_alter 35 = .ok (.if_icmp .le 5, 3) := by decide +kernel
theorem dX8_alter_38 : decode cX8_alter 38 = .ok (.iconst 0, 1) := by decide +kernel
theorem dX8_alter_39 : decode cX8_alter 39 = .ok (.ireturn, 1) := by decide +kernel
theorem dX8_alter_40 : decode cX8_alter 40 = .ok (.aload 4, 2) := by decide +kernel
theorem dX8_alter_42 : decode cX8_alter 42 = .ok (.getfield 72, 3) := by decide +kernel
theorem dX8_alter_45 : decode cX8_alter 45 = .ok (.iload_n 2, 1) := by decide +kernel
theorem dX8_alter_46 : decode cX8_alter 46 = .ok (.dup2, 1) := by decide +kernel
theorem dX8_alter_47 : decode cX8_alter 47 = .ok (.iaload, 1) := by decide +kernel
theorem dX8_alter_48 : decode cX8_alter 48 = .ok (.iload_n 3, 1) := by decide +kernel
theorem dX8_alter_49 : decode cX8_alter 49 = .ok (.ixor, 1) := by decide +kernel
theorem dX8_alter_50 : decode cX8_alter 50 = .ok (.iastore, 1) := by decide +kernel
theorem dX8_alter_51 : decode cX8_alter 51 = .ok (.iconst 1, 1) := by decide +kernel
theorem dX8_alter_52 : decode cX8_alter 52 = .ok (.ireturn, 1) := by decide +kernel
theorem dX8_tick_0 : decode cX8_tick 0 = .ok (.aload_n 0, 1) := by decide +kernel
theorem dX8_tick_1 : decode cX8_tick 1 = .ok (.getfield 21, 3) := by decide +kernel
theorem dX8_tick_4 : decode cX8_tick 4 = .ok (.iconst 0, 1) := by decide +kernel
theorem dX8_tick_5 : decode cX8_tick 5 = .ok (.aaload, 1) := by decide +kernel
theorem dX8_tick_6 : decode cX8_tick 6 = .ok (.invokevirtual 75, 3) := by decide +kernel
theorem dX8_tick_9 : decode cX8_tick 9 = .ok (.istore_n 1, 1) := by decide +kernel
theorem dX8_tick_10 : decode cX8_tick 10 = .ok (.aload_n 0, 1) := by decide +kernel
theorem dX8_tick_11 : decode cX8_tick 11 = .ok (.getfield 21, 3) := by decide +kernel
theorem dX8_tick_14 : decode cX8_tick 14 = .ok (.iconst 1, 1) := by decide +kernel
theorem dX8_tick_15 : decode cX8_tick 15 = .ok (.aaload, 1) := by decide +kernel
theorem dX8_tick_16 : decode cX8_tick 16 = .ok (.invokevirtual 75, 3) := by decide +kernel
theorem dX8_tick_19 : decode cX8_tick 19 = .ok (.istore_n 2, 1) := by decide +kernel
theorem dX8_tick_20 : decode cX8_tick 20 = .ok (.iload_n 1, 1) := by decide +kernel
theorem dX8_tick_21 : decode cX8_tick 21 = .ok (.iload_n 2, 1) := by decide +kernel
theorem dX8_tick_22 : decode cX8_tick 22 = .ok (.iadd, 1) := by decide +kernel
theorem dX8_tick_23 : decode cX8_tick 23 = .ok (.ireturn, 1) := by decide +kernel
theorem dX8_crash_0 : decode cX8_crash 0 = .ok (.iload_n 1, 1) := by decide +kernel
theorem dX8_crash_1 : decode cX8_crash 1 = .ok (.invokestatic 33, 3) := by decide +kernel
theorem dX8_crash_4 : decode cX8_crash 4 = .ok (.ifCond .ne 5, 3) := by decide +kernel
theorem dX8_crash_7 : decode cX8_crash 7 = .ok (.iconst 0, 1) := by decide +kernel
theorem dX8_crash_8 : decode cX8_crash 8 = .ok (.ireturn, 1) := by decide +kernel
theorem dX8_crash_9 : decode cX8_crash 9 = .ok (.aload_n 0, 1) := by decide +kernel
theorem dX8_crash_10 : decode cX8_crash 10 = .ok (.getfield 21, 3) := by decide +kernel
theorem dX8_crash_13 : decode cX8_crash 13 = .ok (.iload_n 1, 1) := by decide +kernel
theorem dX8_crash_14 : decode cX8_crash 14 = .ok (.aaload, 1) := by decide +kernel
theorem dX8_crash_15 : decode cX8_crash 15 = .ok (.iconst 0, 1) := by decide +kernel
theorem dX8_crash_16 : decode cX8_crash 16 = .ok (.invokevirtual 79, 3) := by decide +kernel
theorem dX8_crash_19 : decode cX8_crash 19 = .ok (.iconst 1, 1) := by decide +kernel
theorem dX8_crash_20 : decode cX8_crash 20 = .ok (.ireturn, 1) := by decide +kernel
theorem dX8_settle_0 : decode cX8_settle 0 = .ok (.iload_n 1, 1) := by decide +kernel
theorem dX8_settle_1 : decode cX8_settle 1 = .ok (.iconst 1, 1) := by decide +kernel
theorem dX8_settle_2 : decode cX8_settle 2 = .ok (.if_icmp .lt 10, 3) := by decide +kernel
theorem dX8_settle_5 : decode cX8_settle 5 = .ok (.iload_n 1, 1) := by decide +kernel
theorem dX8_settle_6 : decode cX8_settle 6 = .ok (.sipush 200, 3) := by decide +kernel
theorem dX8_settle_9 : decode cX8_settle 9 = .ok (.if_icmp .le 5, 3) := by decide +kernel
theorem dX8_settle_12 : decode cX8_settle 12 = .ok (.iconst (-1), 1) := by decide +kernel
theorem dX8_settle_13 : decode cX8_settle 13 = .ok (.ireturn, 1) := by decide +kernel
theorem dX8_settle_14 : decode cX8_settle 14 = .ok (.iconst 0, 1) := by decide +kernel
theorem dX8_settle_15 : decode cX8_settle 15 = .ok (.istore_n 2, 1) := by decide +kernel
theorem dX8_settle_16 : decode cX8_settle 16 = .ok (.iconst 0, 1) := by decide +kernel
theorem dX8_settle_17 : decode cX8_settle 17 = .ok (.istore_n 3, 1) := by decide +kernel
theorem dX8_settle_18 : decode cX8_settle 18 = .ok (.iload_n 3, 1) := by decide +kernel
theorem dX8_settle_19 : decode cX8_settle 19 = .ok (.iload_n 1, 1) := by decide +kernel
theorem dX8_settle_20 : decode cX8_settle 20 = .ok (.if_icmp .ge 47, 3) := by decide +kernel
theorem dX8_settle_23 : decode cX8_settle 23 = .ok (.aload_n 0, 1) := by decide +kernel
theorem dX8_settle_24 : decode cX8_settle 24 = .ok (.getfield 10, 3) := by decide +kernel
theorem dX8_settle_27 : decode cX8_settle 27 = .ok (.iload_n 2, 1) := by decide +kernel
theorem dX8_settle_28 : decode cX8_settle 28 = .ok (.aaload, 1) := by decide +kernel
theorem dX8_settle_29 : decode cX8_settle 29 = .ok (.getfield 83, 3) := by decide +kernel
theorem dX8_settle_32 : decode cX8_settle 32 = .ok (.ifCond .le 7, 3) := by decide +kernel
theorem dX8_settle_35 : decode cX8_settle 35 = .ok (.iload_n 2, 1) := by decide +kernel
theorem dX8_settle_36 : decode cX8_settle 36 = .ok (.goto 6, 3) := by decide +kernel
theorem dX8_settle_39 : decode cX8_settle 39 = .ok (.iconst 1, 1) := by decide +kernel
theorem dX8_settle_40 : decode cX8_settle 40 = .ok (.iload_n 2, 1) := by decide +kernel
theorem dX8_settle_41 : decode cX8_settle 41 = .ok (.isub, 1) := by decide +kernel
theorem dX8_settle_42 : decode cX8_settle 42 = .ok (.istore 4, 2) := by decide +kernel
theorem dX8_settle_44 : decode cX8_settle 44 = .ok (.aload_n 0, 1) := by decide +kernel
theorem dX8_settle_45 : decode cX8_settle 45 = .ok (.iload 4, 2) := by decide +kernel
theorem dX8_settle_47 : decode cX8_settle 47 = .ok (.invokevirtual 56, 3) := by decide +kernel
theorem dX8_settle_50 : decode cX8_settle 50 = .ok (.iconst (-1), 1) := by decide +kernel
theorem dX8_settle_51 : decode cX8_settle 51 = .ok (.if_icmp .ne 5, 3) := by decide +kernel
theorem dX8_settle_54 : decode cX8_settle 54 = .ok (.iload_n 3, 1) := by decide +kernel
theorem dX8_settle_55 : decode cX8_settle 55 = .ok (.ireturn, 1) := by decide +kernel
theorem dX8_settle_56 : decode cX8_settle 56 = .ok (.iconst 1, 1) := by decide +kernel
theorem dX8_settle_57 : decode cX8_settle 57 = .ok (.iload 4, 2) := by decide +kernel
theorem dX8_settle_59 : decode cX8_settle 59 = .ok (.isub, 1) := by decide +kernel
theorem dX8_settle_60 : decode cX8_settle 60 = .ok (.istore_n 2, 1) := by decide +kernel
theorem dX8_settle_61 : decode cX8_settle 61 = .ok (.iinc 3 1, 3) := by decide +kernel
theorem dX8_settle_64 : decode cX8_settle 64 = .ok (.goto (-46), 3) := by decide +kernel
theorem dX8_settle_67 : decode cX8_settle 67 = .ok (.iload_n 1, 1) := by decide +kernel
theorem dX8_settle_68 : decode cX8_settle 68 = .ok (.ireturn, 1) := by decide +kernel
theorem dX8_waiting_0 : decode cX8_waiting 0 = .ok (.iload_n 1, 1) := by decide +kernel
theorem dX8_waiting_1 : decode cX8_waiting 1 = .ok (.invokestatic 33, 3) := by decide +kernel
theorem dX8_waiting_4 : decode cX8_waiting 4 = .ok (.ifCond .eq 15, 3) := by decide +kernel
theorem dX8_waiting_7 : decode cX8_waiting 7 = .ok (.aload_n 0, 1) := by decide +kernel
theorem dX8_waiting_8 : decode cX8_waiting 8 = .ok (.getfield 10, 3) := by decide +kernel
theorem dX8_waiting_11 : decode cX8_waiting 11 = .ok (.iload_n 1, 1) := by decide +kernel
theorem dX8_waiting_12 : decode cX8_waiting 12 = .ok (.aaload, 1) := by decide +kernel
theorem dX8_waiting_13 : decode cX8_waiting 13 = .ok (.getfield 83, 3) := by decide +kernel
theorem dX8_waiting_16 : decode cX8_waiting 16 = .ok (.goto 4, 3) := by decide +kernel
theorem dX8_waiting_19 : decode cX8_waiting 19 = .ok (.iconst (-1), 1) := by decide +kernel
theorem dX8_waiting_20 : decode cX8_waiting 20 = .ok (.ireturn, 1) := by decide +kernel
theorem dX8_look_0 : decode cX8_look 0 = .ok (.aload_n 0, 1) := by decide +kernel
theorem dX8_look_1 : decode cX8_look 1 = .ok (.iload_n 1, 1) := by decide +kernel
theorem dX8_look_2 : decode cX8_look 2 = .ok (.iload_n 2, 1) := by decide +kernel
theorem dX8_look_3 : decode cX8_look 3 = .ok (.invokevirtual 60, 3) := by decide +kernel
theorem dX8_look_6 : decode cX8_look 6 = .ok (.astore 4, 2) := by decide +kernel
theorem dX8_look_8 : decode cX8_look 8 = .ok (.aload 4, 2) := by decide +kernel
theorem dX8_look_10 : decode cX8_look 10 = .ok (.ifnull 16, 3) := by decide +kernel
theorem dX8_look_13 : decode cX8_look 13 = .ok (.iload_n 3, 1) := by decide +kernel
theorem dX8_look_14 : decode cX8_look 14 = .ok (.ifCond .lt 12, 3) := by decide +kernel
theorem dX8_look_17 : decode cX8_look 17 = .ok (.iload_n 3, 1) := by decide +kernel
theorem dX8_look_18 : decode cX8_look 18 = .ok (.aload 4, 2) := by decide +kernel
theorem dX8_look_20 : decode cX8_look 20 = .ok (.getfield 67, 3) := by decide +kernel
theorem dX8_look_23 : decode cX8_look 23 = .ok (.if_icmp .lt 5, 3) := by decide +kernel
theorem dX8_look_26 : decode cX8_look 26 = .ok (.iconst (-1), 1) := by decide +kernel
theorem dX8_look_27 : decode cX8_look 27 = .ok (.ireturn, 1) := by decide +kernel
theorem dX8_look_28 : decode cX8_look 28 = .ok (.aload 4, 2) := by decide +kernel
theorem dX8_look_30 : decode cX8_look 30 = .ok (.getfield 72, 3) := by decide +kernel
theorem dX8_look_33 : decode cX8_look 33 = .ok (.iload_n 3, 1) := by decide +kernel
theorem dX8_look_34 : decode cX8_look 34 = .ok (.iaload, 1) := by decide +kernel
theorem dX8_look_35 : decode cX8_look 35 = .ok (.ireturn, 1) := by decide +kernel
theorem dX8_told_0 : decode cX8_told 0 = .ok (.iload_n 1, 1) := by decide +kernel
theorem dX8_told_1 : decode cX8_told 1 = .ok (.invokestatic 33, 3) := by decide +kernel
theorem dX8_told_4 : decode cX8_told 4 = .ok (.ifCond .ne 5, 3) := by decide +kernel
theorem dX8_told_7 : decode cX8_told 7 = .ok (.iconst (-1), 1) := by decide +kernel
theorem dX8_told_8 : decode cX8_told 8 = .ok (.ireturn, 1) := by decide +kernel
theorem dX8_told_9 : decode cX8_told 9 = .ok (.aload_n 0, 1) := by decide +kernel
theorem dX8_told_10 : decode cX8_told 10 = .ok (.getfield 21, 3) := by decide +kernel
theorem dX8_told_13 : decode cX8_told 13 = .ok (.iload_n 1, 1) := by decide +kernel
theorem dX8_told_14 : decode cX8_told 14 = .ok (.aaload, 1) := by decide +kernel
theorem dX8_told_15 : decode cX8_told 15 = .ok (.astore_n 3, 1) := by decide +kernel
theorem dX8_told_16 : decode cX8_told 16 = .ok (.iload_n 2, 1) := by decide +kernel
theorem dX8_told_17 : decode cX8_told 17 = .ok (.tableswitch 84 0 5 #[39, 47, 55, 60, 68, 76], 39) := by decide +kernel
theorem dX8_told_56 : decode cX8_told 56 = .ok (.aload_n 3, 1) := by decide +kernel
theorem dX8_told_57 : decode cX8_told 57 = .ok (.getfield 37, 3) := by decide +kernel
theorem dX8_told_60 : decode cX8_told 60 = .ok (.invokevirtual 86, 3) := by decide +kernel
theorem dX8_told_63 : decode cX8_told 63 = .ok (.ireturn, 1) := by decide +kernel
theorem dX8_told_64 : decode cX8_told 64 = .ok (.aload_n 3, 1) := by decide +kernel
theorem dX8_told_65 : decode cX8_told 65 = .ok (.getfield 37, 3) := by decide +kernel
theorem dX8_told_68 : decode cX8_told 68 = .ok (.getfield 89, 3) := by decide +kernel
theorem dX8_told_71 : decode cX8_told 71 = .ok (.ireturn, 1) := by decide +kernel
theorem dX8_told_72 : decode cX8_told 72 = .ok (.aload_n 3, 1) := by decide +kernel
theorem dX8_told_73 : decode cX8_told 73 = .ok (.getfield 47, 3) := by decide +kernel
theorem dX8_told_76 : decode cX8_told 76 = .ok (.ireturn, 1) := by decide +kernel
theorem dX8_told_77 : decode cX8_told 77 = .ok (.aload_n 3, 1) := by decide +kernel
theorem dX8_told_78 : decode cX8_told 78 = .ok (.getfield 92, 3) := by decide +kernel
theorem dX8_told_81 : decode cX8_told 81 = .ok (.getfield 96, 3) := by decide +kernel
theorem dX8_told_84 : decode cX8_told 84 = .ok (.ireturn, 1) := by decide +kernel
theorem dX8_told_85 : decode cX8_told 85 = .ok (.aload_n 3, 1) := by decide +kernel
theorem dX8_told_86 : decode cX8_told 86 = .ok (.getfield 92, 3) := by decide +kernel
theorem dX8_told_89 : decode cX8_told 89 = .ok (.getfield 101, 3) := by decide +kernel
theorem dX8_told_92 : decode cX8_told 92 = .ok (.ireturn, 1) := by decide +kernel
theorem dX8_told_93 : decode cX8_told 93 = .ok (.aload_n 3, 1) := by decide +kernel
theorem dX8_told_94 : decode cX8_told 94 = .ok (.getfield 37, 3) := by decide +kernel
theorem dX8_told_97 : decode cX8_told 97 = .ok (.getfield 104, 3) := by decide +kernel
theorem dX8_told_100 : decode cX8_told 100 = .ok (.ireturn, 1) := by decide +kernel
theorem dX8_told_101 : decode cX8_told 101 = .ok (.iconst (-1), 1) := by decide +kernel
theorem dX8_told_102 : decode cX8_told 102 = .ok (.ireturn, 1) := by decide +kernel
theorem dX8_queued_0 : decode cX8_queued 0 = .ok (.iload_n 1, 1) := by decide +kernel
theorem dX8_queued_1 : decode cX8_queued 1 = .ok (.invokestatic 33, 3) := by decide +kernel
theorem dX8_queued_4 : decode cX8_queued 4 = .ok (.ifCond .eq 23, 3) := by decide +kernel
theorem dX8_queued_7 : decode cX8_queued 7 = .ok (.iload_n 2, 1) := by decide +kernel
theorem dX8_queued_8 : decode cX8_queued 8 = .ok (.ifCond .lt 19, 3) := by decide +kernel
theorem dX8_queued_11 : decode cX8_queued 11 = .ok (.iload_n 2, 1) := by decide +kernel
theorem dX8_queued_12 : decode cX8_queued 12 = .ok (.aload_n 0, 1) := by decide +kernel
theorem dX8_queued_13 : decode cX8_queued 13 = .ok (.getfield 21, 3) := by decide +kernel
theorem dX8_queued_16 : decode cX8_queued 16 = .ok (.iload_n 1, 1) := by decide +kernel
theorem dX8_queued_17 : decode cX8_queued 17 = .ok (.aaload, 1) := by decide +kernel
theorem dX8_queued_18 : decode cX8_queued 18 = .ok (.getfield 37, 3) := by decide +kernel
theorem dX8_queued_21 : decode cX8_queued 21 = .ok (.invokevirtual 86, 3) := by decide +kernel
theorem dX8_queued_24 : decode cX8_queued 24 = .ok (.if_icmp .lt 5, 3) := by decide +kernel
theorem dX8_queued_27 : decode cX8_queued 27 = .ok (.iconst (-1), 1) := by decide +kernel
theorem dX8_queued_28 : decode cX8_queued 28 = .ok (.ireturn, 1) := by decide +kernel
theorem dX8_queued_29 : decode cX8_queued 29 = .ok (.aload_n 0, 1) := by decide +kernel
theorem dX8_queued_30 : decode cX8_queued 30 = .ok (.getfield 21, 3) := by decide +kernel
theorem dX8_queued_33 : decode cX8_queued 33 = .ok (.iload_n 1, 1) := by decide +kernel
theorem dX8_queued_34 : decode cX8_queued 34 = .ok (.aaload, 1) := by decide +kernel
theorem dX8_queued_35 : decode cX8_queued 35 = .ok (.getfield 37, 3) := by decide +kernel
theorem dX8_queued_38 : decode cX8_queued 38 = .ok (.getfield 107, 3) := by decide +kernel
theorem dX8_queued_41 : decode cX8_queued 41 = .ok (.iload_n 2, 1) := by decide +kernel
theorem dX8_queued_42 : decode cX8_queued 42 = .ok (.iadd, 1) := by decide +kernel
theorem dX8_queued_43 : decode cX8_queued 43 = .ok (.ireturn, 1) := by decide +kernel
theorem dX8_executed_0 : decode cX8_executed 0 = .ok (.aload_n 0, 1) := by decide +kernel
theorem dX8_executed_1 : decode cX8_executed 1 = .ok (.iload_n 1, 1) := by decide +kernel
theorem dX8_executed_2 : decode cX8_executed 2 = .ok (.iload_n 2, 1) := by decide +kernel
theorem dX8_executed_3 : decode cX8_executed 3 = .ok (.invokevirtual 110, 3) := by decide +kernel
theorem dX8_executed_6 : decode cX8_executed 6 = .ok (.astore_n 3, 1) := by decide +kernel
theorem dX8_executed_7 : decode cX8_executed 7 = .ok (.aload_n 3, 1) := by decide +kernel
theorem dX8_executed_8 : decode cX8_executed 8 = .ok (.ifnonnull 7, 3) := by decide +kernel
theorem dX8_executed_11 : decode cX8_executed 11 = .ok (.iconst (-1), 1) := by decide +kernel
theorem dX8_executed_12 : decode cX8_executed 12 = .ok (.goto 7, 3) := by decide +kernel
theorem dX8_executed_15 : decode cX8_executed 15 = .ok (.aload_n 3, 1) := by decide +kernel
theorem dX8_executed_16 : decode cX8_executed 16 = .ok (.getfield 114, 3) := by decide +kernel
theorem dX8_executed_19 : decode cX8_executed 19 = .ok (.ireturn, 1) := by decide +kernel
theorem dX8_file_0 : decode cX8_file 0 = .ok (.aload_n 0, 1) := by decide +kernel
theorem dX8_file_1 : decode cX8_file 1 = .ok (.iload_n 1, 1) := by decide +kernel
theorem dX8_file_2 : decode cX8_file 2 = .ok (.iload_n 2, 1) := by decide +kernel
theorem dX8_file_3 : decode cX8_file 3 = .ok (.invokevirtual 110, 3) := by decide +kernel
theorem dX8_file_6 : decode cX8_file 6 = .ok (.astore 4, 2) := by decide +kernel
theorem dX8_file_8 : decode cX8_file 8 = .ok (.aload 4, 2) := by decide +kernel
theorem dX8_file_10 : decode cX8_file 10 = .ok (.ifnull 17, 3) := by decide +kernel
theorem dX8_file_13 : decode cX8_file 13 = .ok (.iload_n 3, 1) := by decide +kernel
theorem dX8_file_14 : decode cX8_file 14 = .ok (.ifCond .lt 13, 3) := by decide +kernel
theorem dX8_file_17 : decode cX8_file 17 = .ok (.iload_n 3, 1) := by decide +kernel
theorem dX8_file_18 : decode cX8_file 18 = .ok (.aload 4, 2) := by decide +kernel
theorem dX8_file_20 : decode cX8_file 20 = .ok (.getfield 119, 3) := by decide +kernel
theorem dX8_file_23 : decode cX8_file 23 = .ok (.arraylength, 1) := by decide +kernel
theorem dX8_file_24 : decode cX8_file 24 = .ok (.if_icmp .lt 5, 3) := by decide +kernel
theorem dX8_file_27 : decode cX8_file 27 = .ok (.iconst (-1), 1) := by decide +kernel
theorem dX8_file_28 : decode cX8_file 28 = .ok (.ireturn, 1) := by decide +kernel
theorem dX8_file_29 : decode cX8_file 29 = .ok (.aload 4, 2) := by decide +kernel
theorem dX8_file_31 : decode cX8_file 31 = .ok (.getfield 119, 3) := by decide +kernel
theorem dX8_file_34 : decode cX8_file 34 = .ok (.iload_n 3, 1) := by decide +kernel
theorem dX8_file_35 : decode cX8_file 35 = .ok (.iaload, 1) := by decide +kernel
theorem dX8_file_36 : decode cX8_file 36 = .ok (.ireturn, 1) := by decide +kernel
theorem dX8_times_0 : decode cX8_times 0 = .ok (.iload_n 1, 1) := by decide +kernel
theorem dX8_times_1 : decode cX8_times 1 = .ok (.invokestatic 33, 3) := by decide +kernel
theorem dX8_times_4 : decode cX8_times 4 = .ok (.ifCond .eq 23, 3) := by decide +kernel
theorem dX8_times_7 : decode cX8_times 7 = .ok (.iload_n 2, 1) := by decide +kernel
theorem dX8_times_8 : decode cX8_times 8 = .ok (.ifCond .lt 19, 3) := by decide +kernel
theorem dX8_times_11 : decode cX8_times 11 = .ok (.iload_n 2, 1) := by decide +kernel
theorem dX8_times_12 : decode cX8_times 12 = .ok (.aload_n 0, 1) := by decide +kernel
theorem dX8_times_13 : decode cX8_times 13 = .ok (.getfield 21, 3) := by decide +kernel
theorem dX8_times_16 : decode cX8_times 16 = .ok (.iload_n 1, 1) := by decide +kernel
theorem dX8_times_17 : decode cX8_times 17 = .ok (.aaload, 1) := by decide +kernel
theorem dX8_times_18 : decode cX8_times 18 = .ok (.getfield 37, 3) := by decide +kernel
theorem dX8_times_21 : decode cX8_times 21 = .ok (.getfield 120, 3) := by decide +kernel
theorem dX8_times_24 : decode cX8_times 24 = .ok (.if_icmp .lt 5, 3) := by decide +kernel
theorem dX8_times_27 : decode cX8_times 27 = .ok (.iconst (-1), 1) := by decide +kernel
theorem dX8_times_28 : decode cX8_times 28 = .ok (.ireturn, 1) := by decide +kernel
theorem dX8_times_29 : decode cX8_times 29 = .ok (.aload_n 0, 1) := by decide +kernel
theorem dX8_times_30 : decode cX8_times 30 = .ok (.getfield 21, 3) := by decide +kernel
theorem dX8_times_33 : decode cX8_times 33 = .ok (.iconst 1, 1) := by decide +kernel
theorem dX8_times_34 : decode cX8_times 34 = .ok (.iload_n 1, 1) := by decide +kernel
theorem dX8_times_35 : decode cX8_times 35 = .ok (.isub, 1) := by decide +kernel
theorem dX8_times_36 : decode cX8_times 36 = .ok (.aaload, 1) := by decide +kernel
theorem dX8_times_37 : decode cX8_times 37 = .ok (.getfield 37, 3) := by decide +kernel
theorem dX8_times_40 : decode cX8_times 40 = .ok (.iload_n 2, 1) := by decide +kernel
theorem dX8_times_41 : decode cX8_times 41 = .ok (.invokevirtual 123, 3) := by decide +kernel
theorem dX8_times_44 : decode cX8_times 44 = .ok (.ifCond .eq 7, 3) := by decide +kernel
theorem dX8_times_47 : decode cX8_times 47 = .ok (.iconst 1, 1) := by decide +kernel
theorem dX8_times_48 : decode cX8_times 48 = .ok (.goto 4, 3) := by decide +kernel
theorem dX8_times_51 : decode cX8_times 51 = .ok (.iconst 0, 1) := by decide +kernel
theorem dX8_times_52 : decode cX8_times 52 = .ok (.ireturn, 1) := by decide +kernel
theorem dX8_isSite_0 : decode cX8_isSite 0 = .ok (.iload_n 0, 1) := by decide +kernel
theorem dX8_isSite_1 : decode cX8_isSite 1 = .ok (.ifCond .eq 8, 3) := by decide +kernel
theorem dX8_isSite_4 : decode cX8_isSite 4 = .ok (.iload_n 0, 1) := by decide +kernel
theorem dX8_isSite_5 : decode cX8_isSite 5 = .ok (.iconst 1, 1) := by decide +kernel
theorem dX8_isSite_6 : decode cX8_isSite 6 = .ok (.if_icmp .ne 7, 3) := by decide +kernel
theorem dX8_isSite_9 : decode cX8_isSite 9 = .ok (.iconst 1, 1) := by decide +kernel
theorem dX8_isSite_10 : decode cX8_isSite 10 = .ok (.goto 4, 3) := by decide +kernel
theorem dX8_isSite_13 : decode cX8_isSite 13 = .ok (.iconst 0, 1) := by decide +kernel
theorem dX8_isSite_14 : decode cX8_isSite 14 = .ok (.ireturn, 1) := by decide +kernel
theorem dX8_packetOn_0 : decode cX8_packetOn 0 = .ok (.iload_n 1, 1) := by decide +kernel
theorem dX8_packetOn_1 : decode cX8_packetOn 1 = .ok (.invokestatic 33, 3) := by decide +kernel
theorem dX8_packetOn_4 : decode cX8_packetOn 4 = .ok (.ifCond .eq 16, 3) := by decide +kernel
theorem dX8_packetOn_7 : decode cX8_packetOn 7 = .ok (.aload_n 0, 1) := by decide +kernel
theorem dX8_packetOn_8 : decode cX8_packetOn 8 = .ok (.getfield 10, 3) := by decide +kernel
theorem dX8_packetOn_11 : decode cX8_packetOn 11 = .ok (.iload_n 1, 1) := by decide +kernel
theorem dX8_packetOn_12 : decode cX8_packetOn 12 = .ok (.aaload, 1) := by decide +kernel
theorem dX8_packetOn_13 : decode cX8_packetOn 13 = .ok (.iload_n 2, 1) := by decide +kernel
theorem dX8_packetOn_14 : decode cX8_packetOn 14 = .ok (.invokevirtual 126, 3) := by decide +kernel
theorem dX8_packetOn_17 : decode cX8_packetOn 17 = .ok (.goto 4, 3) := by decide +kernel
theorem dX8_packetOn_20 : decode cX8_packetOn 20 = .ok (.aconst_null, 1) := by decide +kernel
theorem dX8_packetOn_21 : decode cX8_packetOn 21 = .ok (.areturn, 1) := by decide +kernel
theorem dX8_doneJob_0 : decode cX8_doneJob 0 = .ok (.iload_n 1, 1) := by decide +kernel
theorem dX8_doneJob_1 : decode cX8_doneJob 1 = .ok (.invokestatic 33, 3) := by decide +kernel
theorem dX8_doneJob_4 : decode cX8_doneJob 4 = .ok (.ifCond .eq 19, 3) := by decide +kernel
theorem dX8_doneJob_7 : decode cX8_doneJob 7 = .ok (.aload_n 0, 1) := by decide +kernel
theorem dX8_doneJob_8 : decode cX8_doneJob 8 = .ok (.getfield 21, 3) := by decide +kernel
theorem dX8_doneJob_11 : decode cX8_doneJob 11 = .ok (.iload_n 1, 1) := by decide +kernel
theorem dX8_doneJob_12 : decode cX8_doneJob 12 = .ok (.aaload, 1) := by decide +kernel
theorem dX8_doneJob_13 : decode cX8_doneJob 13 = .ok (.getfield 37, 3) := by decide +kernel
theorem dX8_doneJob_16 : decode cX8_doneJob 16 = .ok (.iload_n 2, 1) := by decide +kernel
theorem dX8_doneJob_17 : decode cX8_doneJob 17 = .ok (.invokevirtual 130, 3) := by decide +kernel
theorem dX8_doneJob_20 : decode cX8_doneJob 20 = .ok (.goto 4, 3) := by decide +kernel
theorem dX8_doneJob_23 : decode cX8_doneJob 23 = .ok (.aconst_null, 1) := by decide +kernel
theorem dX8_doneJob_24 : decode cX8_doneJob 24 = .ok (.areturn, 1) := by decide +kernel
theorem dX8_handOver_0 : decode cX8_handOver 0 = .ok (.aload_n 0, 1) := by decide +kernel
theorem dX8_handOver_1 : decode cX8_handOver 1 = .ok (.getfield 10, 3) := by decide +kernel
theorem dX8_handOver_4 : decode cX8_handOver 4 = .ok (.iload_n 1, 1) := by decide +kernel
theorem dX8_handOver_5 : decode cX8_handOver 5 = .ok (.aaload, 1) := by decide +kernel
theorem dX8_handOver_6 : decode cX8_handOver 6 = .ok (.iconst 0, 1) := by decide +kernel
theorem dX8_handOver_7 : decode cX8_handOver 7 = .ok (.invokevirtual 126, 3) := by decide +kernel
theorem dX8_handOver_10 : decode cX8_handOver 10 = .ok (.astore_n 2, 1) := by decide +kernel
theorem dX8_handOver_11 : decode cX8_handOver 11 = .ok (.aload_n 2, 1) := by decide +kernel
theorem dX8_handOver_12 : decode cX8_handOver 12 = .ok (.ifnonnull 5, 3) := by decide +kernel
theorem dX8_handOver_15 : decode cX8_handOver 15 = .ok (.iconst (-1), 1) := by decide +kernel
theorem dX8_handOver_16 : decode cX8_handOver 16 = .ok (.ireturn, 1) := by decide +kernel
theorem dX8_handOver_17 : decode cX8_handOver 17 = .ok (.aload_n 0, 1) := by decide +kernel
theorem dX8_handOver_18 : decode cX8_handOver 18 = .ok (.getfield 10, 3) := by decide +kernel
theorem dX8_handOver_21 : decode cX8_handOver 21 = .ok (.iload_n 1, 1) := by decide +kernel
theorem dX8_handOver_22 : decode cX8_handOver 22 = .ok (.aaload, 1) := by decide +kernel
theorem dX8_handOver_23 : decode cX8_handOver 23 = .ok (.invokevirtual 64, 3) := by decide +kernel
theorem dX8_handOver_26 : decode cX8_handOver 26 = .ok (.aload_n 0, 1) := by decide +kernel
theorem dX8_handOver_27 : decode cX8_handOver 27 = .ok (.getfield 21, 3) := by decide +kernel
theorem dX8_handOver_30 : decode cX8_handOver 30 = .ok (.iconst 1, 1) := by decide +kernel
theorem dX8_handOver_31 : decode cX8_handOver 31 = .ok (.iload_n 1, 1) := by decide +kernel
theorem dX8_handOver_32 : decode cX8_handOver 32 = .ok (.isub, 1) := by decide +kernel
theorem dX8_handOver_33 : decode cX8_handOver 33 = .ok (.aaload, 1) := by decide +kernel
theorem dX8_handOver_34 : decode cX8_handOver 34 = .ok (.aload_n 2, 1) := by decide +kernel
theorem dX8_handOver_35 : decode cX8_handOver 35 = .ok (.invokevirtual 133, 3) := by decide +kernel
theorem dX8_handOver_38 : decode cX8_handOver 38 = .ok (.ifCond .eq 7, 3) := by decide +kernel
theorem dX8_handOver_41 : decode cX8_handOver 41 = .ok (.iconst 1, 1) := by decide +kernel
theorem dX8_handOver_42 : decode cX8_handOver 42 = .ok (.goto 4, 3) := by decide +kernel
theorem dX8_handOver_45 : decode cX8_handOver 45 = .ok (.iconst 0, 1) := by decide +kernel
theorem dX8_handOver_46 : decode cX8_handOver 46 = .ok (.ireturn, 1) := by decide +kernel
