theorem dX6_init_0 : decode cX6_init 0 = .ok (.aload_n 0, 1) := by decide +kernel
theorem dX6_init_1 : decode cX6_init 1 = .ok (.invokespecial 3, 3) := by decide +kernel
theorem dX6_init_4 : decode cX6_init 4 = .ok (.aload_n 0, 1) := by decide +kernel
theorem dX6_init_5 : decode cX6_init 5 = .ok (.iconst 0, 1) := by decide +kernel
theorem dX6_init_6 : decode cX6_init 6 = .ok (.putfield 9, 3) := by decide +kernel
theorem dX6_init_9 : decode cX6_init 9 = .ok (.aload_n 0, 1) := by decide +kernel
theorem dX6_init_10 : decode cX6_init 10 = .ok (.iconst 1, 1) := by decide +kernel
theorem dX6_init_11 : decode cX6_init 11 = .ok (.putfield 13, 3) := by decide +kernel
theorem dX6_init_14 : decode cX6_init 14 = .ok (.aload_n 0, 1) := by decide +kernel
theorem dX6_init_15 : decode cX6_init 15 = .ok (.iconst 0, 1) := by decide +kernel
theorem dX6_init_16 : decode cX6_init 16 = .ok (.putfield 16, 3) := by decide +kernel
theorem dX6_init_19 : decode cX6_init 19 = .ok (.aload_n 0, 1) := by decide +kernel
theorem dX6_init_20 : decode cX6_init 20 = .ok (.iconst 0, 1) := by decide +kernel
theorem dX6_init_21 : decode cX6_init 21 = .ok (.putfield 19, 3) := by decide +kernel
theorem dX6_init_24 : decode cX6_init 24 = .ok (.aload_n 0, 1) := by decide +kernel
theorem dX6_init_25 : decode cX6_init 25 = .ok (.bipush 20, 2) := by decide +kernel
theorem dX6_init_27 : decode cX6_init 27 = .ok (.anewarray 22, 3) := by decide +kernel
theorem dX6_init_30 : decode cX6_init 30 = .ok (.putfield 24, 3) := by decide +kernel
theorem dX6_init_33 : decode cX6_init 33 = .ok (.iconst 0, 1) := by decide +kernel
theorem dX6_init_34 : decode cX6_init 34 = .ok (.istore_n 1, 1) := by decide +kernel
theorem dX6_init_35 : decode cX6_init 35 = .ok (.iload_n 1, 1) := by decide +kernel
theorem dX6_init_36 : decode cX6_init 36 = .ok (.bipush 20, 2) := by decide +kernel
theorem dX6_init_38 : decode cX6_init 38 = .ok (.if_icmp .ge 22, 3) := by decide +kernel
theorem dX6_init_41 : decode cX6_init 41 = .ok (.aload_n 0, 1) := by decide +kernel
theorem dX6_init_42 : decode cX6_init 42 = .ok (.getfield 24, 3) := by decide +kernel
theorem dX6_init_45 : decode cX6_init 45 = .ok (.iload_n 1, 1) := by decide +kernel
theorem dX6_init_46 : decode cX6_init 46 = .ok (.new 22, 3) := by decide +kernel
theorem dX6_init_49 : decode cX6_init 49 = .ok (.dup, 1) := by decide +kernel
theorem dX6_init_50 : decode cX6_init 50 = .ok (.invokespecial 28, 3) := by decide +kernel
theorem dX6_init_53 : decode cX6_init 53 = .ok (.aastore, 1) := by decide +kernel
theorem dX6_init_54 : decode cX6_init 54 = .ok (.iinc 1 1, 3) := by decide +kernel
theorem dX6_init_57 : decode cX6_init 57 = .ok (.goto (-22), 3) := by decide +kernel
theorem dX6_init_60 : decode cX6_init 60 = .ok (.return_, 1) := by decide +kernel
theorem dX6_clear_0 : decode cX6_clear 0 = .ok (.aload_n 0, 1) := by decide +kernel
theorem dX6_clear_1 : decode cX6_clear 1 = .ok (.iconst 1, 1) := by decide +kernel
theorem dX6_clear_2 : decode cX6_clear 2 = .ok (.putfield 13, 3) := by decide +kernel
theorem dX6_clear_5 : decode cX6_clear 5 = .ok (.aload_n 0, 1) := by decide +kernel
theorem dX6_clear_6 : decode cX6_clear 6 = .ok (.iconst 0, 1) := by decide +kernel
theorem dX6_clear_7 : decode cX6_clear 7 = .ok (.putfield 16, 3) := by decide +kernel
theorem dX6_clear_10 : decode cX6_clear 10 = .ok (.aload_n 0, 1) := by decide +kernel
theorem dX6_clear_11 : decode cX6_clear 11 = .ok (.iconst 0, 1) := by decide +kernel
theorem dX6_clear_12 : decode cX6_clear 12 = .ok (.putfield 19, 3) := by decide +kernel
theorem dX6_clear_15 : decode cX6_clear 15 = .ok (.return_, 1) := by decide +kernel
theorem dX6_add_0 : decode cX6_add 0 = .ok (.aload_n 0, 1) := by decide +kernel
theorem dX6_add_1 : decode cX6_add 1 = .ok (.getfield 24, 3) := by decide +kernel
theorem dX6_add_4 : decode cX6_add 4 = .ok (.aload_n 0, 1) := by decide +kernel
theorem dX6_add_5 : decode cX6_add 5 = .ok (.getfield 9, 3) := by decide +kernel
theorem dX6_add_8 : decode cX6_add 8 = .ok (.aload_n 0, 1) := by decide +kernel
theorem dX6_add_9 : decode cX6_add 9 = .ok (.getfield 16, 3) := by decide +kernel
theorem dX6_add_12 : decode cX6_add 12 = .ok (.iadd, 1) := by decide +kernel
theorem dX6_add_13 : decode cX6_add 13 = .ok (.aload_n 0, 1) := by decide +kernel
theorem dX6_add_14 : decode cX6_add 14 = .ok (.getfield 19, 3) := by decide +kernel
theorem dX6_add_17 : decode cX6_add 17 = .ok (.iadd, 1) := by decide +kernel
theorem dX6_add_18 : decode cX6_add 18 = .ok (.bipush 20, 2) := by decide +kernel
theorem dX6_add_20 : decode cX6_add 20 = .ok (.irem, 1) := by decide +kernel
theorem dX6_add_21 : decode cX6_add 21 = .ok (.aaload, 1) := by decide +kernel
theorem dX6_add_22 : decode cX6_add 22 = .ok (.astore_n 2, 1) := by decide +kernel
theorem dX6_add_23 : decode cX6_add 23 = .ok (.aload_n 2, 1) := by decide +kernel
theorem dX6_add_24 : decode cX6_add 24 = .ok (.getfield 29, 3) := by decide +kernel
theorem dX6_add_27 : decode cX6_add 27 = .ok (.iconst 0, 1) := by decide +kernel
theorem dX6_add_28 : decode cX6_add 28 = .ok (.iload_n 1, 1) := by decide +kernel
theorem dX6_add_29 : decode cX6_add 29 = .ok (.iastore, 1) := by decide +kernel
theorem dX6_add_30 : decode cX6_add 30 = .ok (.aload_n 2, 1) := by decide +kernel
theorem dX6_add_31 : decode cX6_add 31 = .ok (.iconst 1, 1) := by decide +kernel
theorem dX6_add_32 : decode cX6_add 32 = .ok (.putfield 33, 3) := by decide +kernel
theorem dX6_add_35 : decode cX6_add 35 = .ok (.aload_n 0, 1) := by decide +kernel
theorem dX6_add_36 : decode cX6_add 36 = .ok (.getfield 16, 3) := by decide +kernel
theorem dX6_add_39 : decode cX6_add 39 = .ok (.aload_n 0, 1) := by decide +kernel
theorem dX6_add_40 : decode cX6_add 40 = .ok (.getfield 19, 3) := by decide +kernel
theorem dX6_add_43 : decode cX6_add 43 = .ok (.iadd, 1) := by decide +kernel
theorem dX6_add_44 : decode cX6_add 44 = .ok (.bipush 19, 2) := by decide +kernel
theorem dX6_add_46 : decode cX6_add 46 = .ok (.if_icmp .ge 13, 3) := by decide +kernel
theorem dX6_add_49 : decode cX6_add 49 = .ok (.aload_n 0, 1) := by decide +kernel
theorem dX6_add_50 : decode cX6_add 50 = .ok (.dup, 1) := by decide +kernel
theorem dX6_add_51 : decode cX6_add 51 = .ok (.getfield 19, 3) := by decide +kernel
theorem dX6_add_54 : decode cX6_add 54 = .ok (.iconst 1, 1) := by decide +kernel
theorem dX6_add_55 : decode cX6_add 55 = .ok (.iadd, 1) := by decide +kernel
theorem dX6_add_56 : decode cX6_add 56 = .ok (.putfield 19, 3) := by decide +kernel
theorem dX6_add_59 : decode cX6_add 59 = .ok (.aload_n 2, 1) := by decide +kernel
theorem dX6_add_60 : decode cX6_add 60 = .ok (.areturn, 1) := by decide +kernel
theorem dX6_letOut_0 : decode cX6_letOut 0 = .ok (.aload_n 0, 1) := by decide +kernel
theorem dX6_letOut_1 : decode cX6_letOut 1 = .ok (.getfield 16, 3) := by decide +kernel
theorem dX6_letOut_4 : decode cX6_letOut 4 = .ok (.istore_n 1, 1) := by decide +kernel
theorem dX6_letOut_5 : decode cX6_letOut 5 = .ok (.aload_n 0, 1) := by decide +kernel
theorem dX6_letOut_6 : decode cX6_letOut 6 = .ok (.getfield 19, 3) := by decide +kernel
theorem dX6_letOut_9 : decode cX6_letOut 9 = .ok (.iconst 3, 1) := by decide +kernel
theorem dX6_letOut_10 : decode cX6_letOut 10 = .ok (.aload_n 0, 1) := by decide +kernel
theorem dX6_letOut_11 : decode cX6_letOut 11 = .ok (.getfield 16, 3) := by decide +kernel
theorem dX6_letOut_14 : decode cX6_letOut 14 = .ok (.isub, 1) := by decide +kernel
theorem dX6_letOut_15 : decode cX6_letOut 15 = .ok (.invokestatic 36, 3) := by decide +kernel
theorem dX6_letOut_18 : decode cX6_letOut 18 = .ok (.istore_n 2, 1) := by decide +kernel
theorem dX6_letOut_19 : decode cX6_letOut 19 = .ok (.aload_n 0, 1) := by decide +kernel
theorem dX6_letOut_20 : decode cX6_letOut 20 = .ok (.dup, 1) := by decide +kernel
theorem dX6_letOut_21 : decode cX6_letOut 21 = .ok (.getfield 16, 3) := by decide +kernel
theorem dX6_letOut_24 : decode cX6_letOut 24 = .ok (.iload_n 2, 1) := by decide +kernel
theorem dX6_letOut_25 : decode cX6_letOut 25 = .ok (.iadd, 1) := by decide +kernel
theorem dX6_letOut_26 : decode cX6_letOut 26 = .ok (.putfield 16, 3) := by decide +kernel
theorem dX6_letOut_29 : decode cX6_letOut 29 = .ok (.aload_n 0, 1) := by decide +kernel
theorem dX6_letOut_30 : decode cX6_letOut 30 = .ok (.dup, 1) := by decide +kernel
theorem dX6_letOut_31 : decode cX6_letOut 31 = .ok (.getfield 19, 3) := by decide +kernel
theorem dX6_letOut_34 : decode cX6_letOut 34 = .ok (.iload_n 2, 1) := by decide +kernel
theorem dX6_letOut_35 : decode cX6_letOut 35 = .ok (.isub, 1) := by decide +kernel
theorem dX6_letOut_36 : decode cX6_letOut 36 = .ok (.putfield 19, 3) := by decide +kernel
theorem dX6_letOut_39 : decode cX6_letOut 39 = .ok (.iload_n 1, 1) := by decide +kernel
theorem dX6_letOut_40 : decode cX6_letOut 40 = .ok (.ireturn, 1) := by decide +kernel
theorem dX6_acknowledge_0 : decode cX6_acknowledge 0 = .ok (.iload_n 1, 1) := by decide +kernel
theorem dX6_acknowledge_1 : decode cX6_acknowledge 1 = .ok (.aload_n 0, 1) := by decide +kernel
theorem dX6_acknowledge_2 : decode cX6_acknowledge 2 = .ok (.getfield 13, 3) := by decide +kernel
theorem dX6_acknowledge_5 : decode cX6_acknowledge 5 = .ok (.isub, 1) := by decide +kernel
theorem dX6_acknowledge_6 : decode cX6_acknowledge 6 = .ok (.bipush 7, 2) := by decide +kernel
theorem dX6_acknowledge_8 : decode cX6_acknowledge 8 = .ok (.iand, 1) := by decide +kernel
theorem dX6_acknowledge_9 : decode cX6_acknowledge 9 = .ok (.iconst 1, 1) := by decide +kernel
theorem dX6_acknowledge_10 : decode cX6_acknowledge 10 = .ok (.iadd, 1) := by decide +kernel
theorem dX6_acknowledge_11 : decode cX6_acknowledge 11 = .ok (.istore_n 2, 1) := by decide +kernel
theorem dX6_acknowledge_12 : decode cX6_acknowledge 12 = .ok (.iload_n 2, 1) := by decide +kernel
theorem dX6_acknowledge_13 : decode cX6_acknowledge 13 = .ok (.aload_n 0, 1) := by decide +kernel
theorem dX6_acknowledge_14 : decode cX6_acknowledge 14 = .ok (.getfield 16, 3) := by decide +kernel
theorem dX6_acknowledge_17 : decode cX6_acknowledge 17 = .ok (.if_icmp .le 5, 3) := by decide +kernel
theorem dX6_acknowledge_20 : decode cX6_acknowledge 20 = .ok (.iconst 0, 1) := by decide +kernel
theorem dX6_acknowledge_21 : decode cX6_acknowledge 21 = .ok (.ireturn, 1) := by decide +kernel
theorem dX6_acknowledge_22 : decode cX6_acknowledge 22 = .ok (.aload_n 0, 1) := by decide +kernel
theorem dX6_acknowledge_23 : decode cX6_acknowledge 23 = .ok (.aload_n 0, 1) := by decide +kernel
theorem dX6_acknowledge_24 : decode cX6_acknowledge 24 = .ok (.getfield 9, 3) := by decide +kernel
theorem dX6_acknowledge_27 : decode cX6_acknowledge 27 = .ok (.iload_n 2, 1) := by decide +kernel
theorem dX6_acknowledge_28 : decode cX6_acknowledge 28 = .ok (.iadd, 1) := by decide +kernel
theorem dX6_acknowledge_29 : decode cX6_acknowledge 29 = .ok (.bipush 20, 2) := by decide +kernel
theorem dX6_acknowledge_31 : decode cX6_acknowledge 31 = .ok (.irem, 1) := by decide +kernel
theorem dX6_acknowledge_32 : decode cX6_acknowledge 32 = .ok (.putfield 9, 3) := by decide +kernel
theorem dX6_acknowledge_35 : decode cX6_acknowledge 35 = .ok (.aload_n 0, 1) := by decide +kernel
theorem dX6_acknowledge_36 : decode cX6_acknowledge 36 = .ok (.aload_n 0, 1) := by decide +kernel
theorem dX6_acknowledge_37 : decode cX6_acknowledge 37 = .ok (.getfield 13, 3) := by decide +kernel
theorem dX6_acknowledge_40 : decode cX6_acknowledge 40 = .ok (.iload_n 2, 1) := by decide +kernel
theorem dX6_acknowledge_41 : decode cX6_acknowledge 41 = .ok (.iadd, 1) := by decide +kernel
theorem dX6_acknowledge_42 : decode cX6_acknowledge 42 = .ok (.bipush 7, 2) := by decide +kernel
theorem dX6_acknowledge_44 : decode cX6_acknowledge 44 = .ok (.iand, 1) := by decide +kernel
theorem dX6_acknowledge_45 : decode cX6_acknowledge 45 = .ok (.putfield 13, 3) := by decide +kernel
theorem dX6_acknowledge_48 : decode cX6_acknowledge 48 = .ok (.aload_n 0, 1) := by decide +kernel
theorem dX6_acknowledge_49 : decode cX6_acknowledge 49 = .ok (.dup, 1) := by decide +kernel
theorem dX6_acknowledge_50 : decode cX6_acknowledge 50 = .ok (.getfield 16, 3) := by decide +kernel
theorem dX6_acknowledge_53 : decode cX6_acknowledge 53 = .ok (.iload_n 2, 1) := by decide +kernel
theorem dX6_acknowledge_54 : decode cX6_acknowledge 54 = .ok (.isub, 1) := by decide +kernel
theorem dX6_acknowledge_55 : decode cX6_acknowledge 55 = .ok (.putfield 16, 3) := by decide +kernel
theorem dX6_acknowledge_58 : decode cX6_acknowledge 58 = .ok (.iconst 1, 1) := by decide +kernel
theorem dX6_acknowledge_59 : decode cX6_acknowledge 59 = .ok (.ireturn, 1) := by decide +kernel
theorem dX6_number_0 : decode cX6_number 0 = .ok (.aload_n 0, 1) := by decide +kernel
theorem dX6_number_1 : decode cX6_number 1 = .ok (.getfield 13, 3) := by decide +kernel
theorem dX6_number_4 : decode cX6_number 4 = .ok (.iload_n 1, 1) := by decide +kernel
theorem dX6_number_5 : decode cX6_number 5 = .ok (.iadd, 1) := by decide +kernel
theorem dX6_number_6 : decode cX6_number 6 = .ok (.bipush 7, 2) := by decide +kernel
theorem dX6_number_8 : decode cX6_number 8 = .ok (.iand, 1) := by decide +kernel
theorem dX6_number_9 : decode cX6_number 9 = .ok (.ireturn, 1) := by decide +kernel
theorem dX6_message_0 : decode cX6_message 0 = .ok (.aload_n 0, 1) := by decide +kernel
theorem dX6_message_1 : decode cX6_message 1 = .ok (.getfield 24, 3) := by decide +kernel
theorem dX6_message_4 : decode cX6_message 4 = .ok (.aload_n 0, 1) := by decide +kernel
theorem dX6_message_5 : decode cX6_message 5 = .ok (.getfield 9, 3) := by decide +kernel
theorem dX6_message_8 : decode cX6_message 8 = .ok (.iload_n 1, 1) := by decide +kernel
theorem dX6_message_9 : decode cX6_message 9 = .ok (.iadd, 1) := by decide +kernel
theorem dX6_message_10 : decode cX6_message 10 = .ok (.bipush 20, 2) := by decide +kernel
theorem dX6_message_12 : decode cX6_message 12 = .ok (.irem, 1) := by decide +kernel
theorem dX6_message_13 : decode cX6_message 13 = .ok (.aaload, 1) := by decide +kernel
theorem dX6_message_14 : decode cX6_message 14 = .ok (.areturn, 1) := by decide +kernel
