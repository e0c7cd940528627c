theorem dX7_init_0 : decode cX7_init 0 = .ok (.aload_n 0, 1) := by decide +kernel
theorem dX7_init_1 : decode cX7_init 1 = .ok (.invokespecial 1, 3) := by decide +kernel
theorem dX7_init_4 : decode cX7_init 4 = .ok (.aload_n 0, 1) := by decide +kernel
theorem dX7_init_5 : decode cX7_init 5 = .ok (.new 7, 3) := by decide +kernel
theorem dX7_init_8 : decode cX7_init 8 = .ok (.dup, 1) := by decide +kernel
theorem dX7_init_9 : decode cX7_init 9 = .ok (.invokespecial 9, 3) := by decide +kernel
theorem dX7_init_12 : decode cX7_init 12 = .ok (.putfield 10, 3) := by decide +kernel
theorem dX7_init_15 : decode cX7_init 15 = .ok (.aload_n 0, 1) := by decide +kernel
theorem dX7_init_16 : decode cX7_init 16 = .ok (.iconst 0, 1) := by decide +kernel
theorem dX7_init_17 : decode cX7_init 17 = .ok (.putfield 16, 3) := by decide +kernel
theorem dX7_init_20 : decode cX7_init 20 = .ok (.aload_n 0, 1) := by decide +kernel
theorem dX7_init_21 : decode cX7_init 21 = .ok (.iconst 0, 1) := by decide +kernel
theorem dX7_init_22 : decode cX7_init 22 = .ok (.putfield 20, 3) := by decide +kernel
theorem dX7_init_25 : decode cX7_init 25 = .ok (.aload_n 0, 1) := by decide +kernel
theorem dX7_init_26 : decode cX7_init 26 = .ok (.bipush 12, 2) := by decide +kernel
theorem dX7_init_28 : decode cX7_init 28 = .ok (.anewarray 7, 3) := by decide +kernel
theorem dX7_init_31 : decode cX7_init 31 = .ok (.putfield 23, 3) := by decide +kernel
theorem dX7_init_34 : decode cX7_init 34 = .ok (.iconst 0, 1) := by decide +kernel
theorem dX7_init_35 : decode cX7_init 35 = .ok (.istore_n 1, 1) := by decide +kernel
theorem dX7_init_36 : decode cX7_init 36 = .ok (.iload_n 1, 1) := by decide +kernel
theorem dX7_init_37 : decode cX7_init 37 = .ok (.bipush 12, 2) := by decide +kernel
theorem dX7_init_39 : decode cX7_init 39 = .ok (.if_icmp .ge 22, 3) := by decide +kernel
theorem dX7_init_42 : decode cX7_init 42 = .ok (.aload_n 0, 1) := by decide +kernel
theorem dX7_init_43 : decode cX7_init 43 = .ok (.getfield 23, 3) := by decide +kernel
theorem dX7_init_46 : decode cX7_init 46 = .ok (.iload_n 1, 1) := by decide +kernel
theorem dX7_init_47 : decode cX7_init 47 = .ok (.new 7, 3) := by decide +kernel
theorem dX7_init_50 : decode cX7_init 50 = .ok (.dup, 1) := by decide +kernel
theorem dX7_init_51 : decode cX7_init 51 = .ok (.invokespecial 9, 3) := by decide +kernel
theorem dX7_init_54 : decode cX7_init 54 = .ok (.aastore, 1) := by decide +kernel
theorem dX7_init_55 : decode cX7_init 55 = .ok (.iinc 1 1, 3) := by decide +kernel
theorem dX7_init_58 : decode cX7_init 58 = .ok (.goto (-22), 3) := by decide +kernel
theorem dX7_init_61 : decode cX7_init 61 = .ok (.return_, 1) := by decide +kernel
theorem dX7_packet_0 : decode cX7_packet 0 = .ok (.iload_n 1, 1) := by decide +kernel
theorem dX7_packet_1 : decode cX7_packet 1 = .ok (.ifCond .lt 28, 3) := by decide +kernel
theorem dX7_packet_4 : decode cX7_packet 4 = .ok (.iload_n 1, 1) := by decide +kernel
theorem dX7_packet_5 : decode cX7_packet 5 = .ok (.aload_n 0, 1) := by decide +kernel
theorem dX7_packet_6 : decode cX7_packet 6 = .ok (.getfield 20, 3) := by decide +kernel
theorem dX7_packet_9 : decode cX7_packet 9 = .ok (.if_icmp .ge 20, 3) := by decide +kernel
theorem dX7_packet_12 : decode cX7_packet 12 = .ok (.aload_n 0, 1) := by decide +kernel
theorem dX7_packet_13 : decode cX7_packet 13 = .ok (.getfield 23, 3) := by decide +kernel
theorem dX7_packet_16 : decode cX7_packet 16 = .ok (.aload_n 0, 1) := by decide +kernel
theorem dX7_packet_17 : decode cX7_packet 17 = .ok (.getfield 16, 3) := by decide +kernel
theorem dX7_packet_20 : decode cX7_packet 20 = .ok (.iload_n 1, 1) := by decide +kernel
theorem dX7_packet_21 : decode cX7_packet 21 = .ok (.iadd, 1) := by decide +kernel
theorem dX7_packet_22 : decode cX7_packet 22 = .ok (.bipush 12, 2) := by decide +kernel
theorem dX7_packet_24 : decode cX7_packet 24 = .ok (.irem, 1) := by decide +kernel
theorem dX7_packet_25 : decode cX7_packet 25 = .ok (.aaload, 1) := by decide +kernel
theorem dX7_packet_26 : decode cX7_packet 26 = .ok (.goto 4, 3) := by decide +kernel
theorem dX7_packet_29 : decode cX7_packet 29 = .ok (.aconst_null, 1) := by decide +kernel
theorem dX7_packet_30 : decode cX7_packet 30 = .ok (.areturn, 1) := by decide +kernel
theorem dX7_add_0 : decode cX7_add 0 = .ok (.aload_n 0, 1) := by decide +kernel
theorem dX7_add_1 : decode cX7_add 1 = .ok (.getfield 20, 3) := by decide +kernel
theorem dX7_add_4 : decode cX7_add 4 = .ok (.bipush 12, 2) := by decide +kernel
theorem dX7_add_6 : decode cX7_add 6 = .ok (.if_icmp .lt 8, 3) := by decide +kernel
theorem dX7_add_9 : decode cX7_add 9 = .ok (.aload_n 0, 1) := by decide +kernel
theorem dX7_add_10 : decode cX7_add 10 = .ok (.getfield 10, 3) := by decide +kernel
theorem dX7_add_13 : decode cX7_add 13 = .ok (.areturn, 1) := by decide +kernel
theorem dX7_add_14 : decode cX7_add 14 = .ok (.aload_n 0, 1) := by decide +kernel
theorem dX7_add_15 : decode cX7_add 15 = .ok (.dup, 1) := by decide +kernel
theorem dX7_add_16 : decode cX7_add 16 = .ok (.getfield 20, 3) := by decide +kernel
theorem dX7_add_19 : decode cX7_add 19 = .ok (.iconst 1, 1) := by decide +kernel
theorem dX7_add_20 : decode cX7_add 20 = .ok (.iadd, 1) := by decide +kernel
theorem dX7_add_21 : decode cX7_add 21 = .ok (.putfield 20, 3) := by decide +kernel
theorem dX7_add_24 : decode cX7_add 24 = .ok (.aload_n 0, 1) := by decide +kernel
theorem dX7_add_25 : decode cX7_add 25 = .ok (.getfield 23, 3) := by decide +kernel
theorem dX7_add_28 : decode cX7_add 28 = .ok (.aload_n 0, 1) := by decide +kernel
theorem dX7_add_29 : decode cX7_add 29 = .ok (.getfield 16, 3) := by decide +kernel
theorem dX7_add_32 : decode cX7_add 32 = .ok (.aload_n 0, 1) := by decide +kernel
theorem dX7_add_33 : decode cX7_add 33 = .ok (.getfield 20, 3) := by decide +kernel
theorem dX7_add_36 : decode cX7_add 36 = .ok (.iadd, 1) := by decide +kernel
theorem dX7_add_37 : decode cX7_add 37 = .ok (.iconst 1, 1) := by decide +kernel
theorem dX7_add_38 : decode cX7_add 38 = .ok (.isub, 1) := by decide +kernel
theorem dX7_add_39 : decode cX7_add 39 = .ok (.bipush 12, 2) := by decide +kernel
theorem dX7_add_41 : decode cX7_add 41 = .ok (.irem, 1) := by decide +kernel
theorem dX7_add_42 : decode cX7_add 42 = .ok (.aaload, 1) := by decide +kernel
theorem dX7_add_43 : decode cX7_add 43 = .ok (.areturn, 1) := by decide +kernel
theorem dX7_dropFirst_0 : decode cX7_dropFirst 0 = .ok (.aload_n 0, 1) := by decide +kernel
theorem dX7_dropFirst_1 : decode cX7_dropFirst 1 = .ok (.getfield 20, 3) := by decide +kernel
theorem dX7_dropFirst_4 : decode cX7_dropFirst 4 = .ok (.ifCond .le 26, 3) := by decide +kernel
theorem dX7_dropFirst_7 : decode cX7_dropFirst 7 = .ok (.aload_n 0, 1) := by decide +kernel
theorem dX7_dropFirst_8 : decode cX7_dropFirst 8 = .ok (.aload_n 0, 1) := by decide +kernel
theorem dX7_dropFirst_9 : decode cX7_dropFirst 9 = .ok (.getfield 16, 3) := by decide +kernel
theorem dX7_dropFirst_12 : decode cX7_dropFirst 12 = .ok (.iconst 1, 1) := by decide +kernel
theorem dX7_dropFirst_13 : decode cX7_dropFirst 13 = .ok (.iadd, 1) := by decide +kernel
theorem dX7_dropFirst_14 : decode cX7_dropFirst 14 = .ok (.bipush 12, 2) := by decide +kernel
theorem dX7_dropFirst_16 : decode cX7_dropFirst 16 = .ok (.irem, 1) := by decide +kernel
theorem dX7_dropFirst_17 : decode cX7_dropFirst 17 = .ok (.putfield 16, 3) := by decide +kernel
theorem dX7_dropFirst_20 : decode cX7_dropFirst 20 = .ok (.aload_n 0, 1) := by decide +kernel
theorem dX7_dropFirst_21 : decode cX7_dropFirst 21 = .ok (.dup, 1) := by decide +kernel
theorem dX7_dropFirst_22 : decode cX7_dropFirst 22 = .ok (.getfield 20, 3) := by decide +kernel
theorem dX7_dropFirst_25 : decode cX7_dropFirst 25 = .ok (.iconst 1, 1) := by decide +kernel
theorem dX7_dropFirst_26 : decode cX7_dropFirst 26 = .ok (.isub, 1) := by decide +kernel
theorem dX7_dropFirst_27 : decode cX7_dropFirst 27 = .ok (.putfield 20, 3) := by decide +kernel
theorem dX7_dropFirst_30 : decode cX7_dropFirst 30 = .ok (.return_, 1) := by decide +kernel
theorem dX7_clear_0 : decode cX7_clear 0 = .ok (.aload_n 0, 1) := by decide +kernel
theorem dX7_clear_1 : decode cX7_clear 1 = .ok (.iconst 0, 1) := by decide +kernel
theorem dX7_clear_2 : decode cX7_clear 2 = .ok (.putfield 20, 3) := by decide +kernel
theorem dX7_clear_5 : decode cX7_clear 5 = .ok (.return_, 1) := by decide +kernel
