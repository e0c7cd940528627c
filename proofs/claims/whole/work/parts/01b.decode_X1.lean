theorem dX1_init_0 : decode cX1_init 0 = .ok (.aload_n 0, 1) := by decide +kernel
theorem dX1_init_1 : decode cX1_init 1 = .ok (.invokespecial 3, 3) := by decide +kernel
theorem dX1_init_4 : decode cX1_init 4 = .ok (.aload_n 0, 1) := by decide +kernel
theorem dX1_init_5 : decode cX1_init 5 = .ok (.bipush 100, 2) := by decide +kernel
theorem dX1_init_7 : decode cX1_init 7 = .ok (.newarray .int, 2) := by decide +kernel
theorem dX1_init_9 : decode cX1_init 9 = .ok (.putfield 9, 3) := by decide +kernel
theorem dX1_init_12 : decode cX1_init 12 = .ok (.aload_n 0, 1) := by decide +kernel
theorem dX1_init_13 : decode cX1_init 13 = .ok (.iconst 0, 1) := by decide +kernel
theorem dX1_init_14 : decode cX1_init 14 = .ok (.putfield 15, 3) := by decide +kernel
theorem dX1_init_17 : decode cX1_init 17 = .ok (.aload_n 0, 1) := by decide +kernel
theorem dX1_init_18 : decode cX1_init 18 = .ok (.iconst 0, 1) := by decide +kernel
theorem dX1_init_19 : decode cX1_init 19 = .ok (.putfield 19, 3) := by decide +kernel
theorem dX1_init_22 : decode cX1_init 22 = .ok (.aload_n 0, 1) := by decide +kernel
theorem dX1_init_23 : decode cX1_init 23 = .ok (.iconst 0, 1) := by decide +kernel
theorem dX1_init_24 : decode cX1_init 24 = .ok (.putfield 23, 3) := by decide +kernel
theorem dX1_init_27 : decode cX1_init 27 = .ok (.aload_n 0, 1) := by decide +kernel
theorem dX1_init_28 : decode cX1_init 28 = .ok (.iconst 0, 1) := by decide +kernel
theorem dX1_init_29 : decode cX1_init 29 = .ok (.putfield 26, 3) := by decide +kernel
theorem dX1_init_32 : decode cX1_init 32 = .ok (.return_, 1) := by decide +kernel
theorem dX1_forget_0 : decode cX1_forget 0 = .ok (.aload_n 0, 1) := by decide +kernel
theorem dX1_forget_1 : decode cX1_forget 1 = .ok (.iconst 0, 1) := by decide +kernel
theorem dX1_forget_2 : decode cX1_forget 2 = .ok (.putfield 15, 3) := by decide +kernel
theorem dX1_forget_5 : decode cX1_forget 5 = .ok (.return_, 1) := by decide +kernel
theorem dX1_begin_0 : decode cX1_begin 0 = .ok (.aload_n 0, 1) := by decide +kernel
theorem dX1_begin_1 : decode cX1_begin 1 = .ok (.iconst 1, 1) := by decide +kernel
theorem dX1_begin_2 : decode cX1_begin 2 = .ok (.putfield 15, 3) := by decide +kernel
theorem dX1_begin_5 : decode cX1_begin 5 = .ok (.aload_n 0, 1) := by decide +kernel
theorem dX1_begin_6 : decode cX1_begin 6 = .ok (.iload_n 1, 1) := by decide +kernel
theorem dX1_begin_7 : decode cX1_begin 7 = .ok (.putfield 19, 3) := by decide +kernel
theorem dX1_begin_10 : decode cX1_begin 10 = .ok (.aload_n 0, 1) := by decide +kernel
theorem dX1_begin_11 : decode cX1_begin 11 = .ok (.iload_n 2, 1) := by decide +kernel
theorem dX1_begin_12 : decode cX1_begin 12 = .ok (.putfield 23, 3) := by decide +kernel
theorem dX1_begin_15 : decode cX1_begin 15 = .ok (.aload_n 0, 1) := by decide +kernel
theorem dX1_begin_16 : decode cX1_begin 16 = .ok (.iconst 0, 1) := by decide +kernel
theorem dX1_begin_17 : decode cX1_begin 17 = .ok (.putfield 26, 3) := by decide +kernel
theorem dX1_begin_20 : decode cX1_begin 20 = .ok (.return_, 1) := by decide +kernel
theorem dX1_takePart_0 : decode cX1_takePart 0 = .ok (.iconst 1, 1) := by decide +kernel
theorem dX1_takePart_1 : decode cX1_takePart 1 = .ok (.istore_n 2, 1) := by decide +kernel
theorem dX1_takePart_2 : decode cX1_takePart 2 = .ok (.iload_n 2, 1) := by decide +kernel
theorem dX1_takePart_3 : decode cX1_takePart 3 = .ok (.aload_n 1, 1) := by decide +kernel
theorem dX1_takePart_4 : decode cX1_takePart 4 = .ok (.invokevirtual 29, 3) := by decide +kernel
theorem dX1_takePart_7 : decode cX1_takePart 7 = .ok (.if_icmp .ge 53, 3) := by decide +kernel
theorem dX1_takePart_10 : decode cX1_takePart 10 = .ok (.aload_n 0, 1) := by decide +kernel
theorem dX1_takePart_11 : decode cX1_takePart 11 = .ok (.getfield 26, 3) := by decide +kernel
theorem dX1_takePart_14 : decode cX1_takePart 14 = .ok (.aload_n 0, 1) := by decide +kernel
theorem dX1_takePart_15 : decode cX1_takePart 15 = .ok (.getfield 23, 3) := by decide +kernel
theorem dX1_takePart_18 : decode cX1_takePart 18 = .ok (.if_icmp .ge 42, 3) := by decide +kernel
theorem dX1_takePart_21 : decode cX1_takePart 21 = .ok (.aload_n 0, 1) := by decide +kernel
theorem dX1_takePart_22 : decode cX1_takePart 22 = .ok (.getfield 26, 3) := by decide +kernel
theorem dX1_takePart_25 : decode cX1_takePart 25 = .ok (.bipush 100, 2) := by decide +kernel
theorem dX1_takePart_27 : decode cX1_takePart 27 = .ok (.if_icmp .ge 33, 3) := by decide +kernel
theorem dX1_takePart_30 : decode cX1_takePart 30 = .ok (.aload_n 0, 1) := by decide +kernel
theorem dX1_takePart_31 : decode cX1_takePart 31 = .ok (.getfield 9, 3) := by decide +kernel
theorem dX1_takePart_34 : decode cX1_takePart 34 = .ok (.aload_n 0, 1) := by decide +kernel
theorem dX1_takePart_35 : decode cX1_takePart 35 = .ok (.getfield 26, 3) := by decide +kernel
theorem dX1_takePart_38 : decode cX1_takePart 38 = .ok (.aload_n 1, 1) := by decide +kernel
theorem dX1_takePart_39 : decode cX1_takePart 39 = .ok (.iload_n 2, 1) := by decide +kernel
theorem dX1_takePart_40 : decode cX1_takePart 40 = .ok (.invokevirtual 35, 3) := by decide +kernel
theorem dX1_takePart_43 : decode cX1_takePart 43 = .ok (.iastore, 1) := by decide +kernel
theorem dX1_takePart_44 : decode cX1_takePart 44 = .ok (.aload_n 0, 1) := by decide +kernel
theorem dX1_takePart_45 : decode cX1_takePart 45 = .ok (.dup, 1) := by decide +kernel
theorem dX1_takePart_46 : decode cX1_takePart 46 = .ok (.getfield 26, 3) := by decide +kernel
theorem dX1_takePart_49 : decode cX1_takePart 49 = .ok (.iconst 1, 1) := by decide +kernel
theorem dX1_takePart_50 : decode cX1_takePart 50 = .ok (.iadd, 1) := by decide +kernel
theorem dX1_takePart_51 : decode cX1_takePart 51 = .ok (.putfield 26, 3) := by decide +kernel
theorem dX1_takePart_54 : decode cX1_takePart 54 = .ok (.iinc 2 1, 3) := by decide +kernel
theorem dX1_takePart_57 : decode cX1_takePart 57 = .ok (.goto (-55), 3) := by decide +kernel
theorem dX1_takePart_60 : decode cX1_takePart 60 = .ok (.return_, 1) := by decide +kernel
theorem dX1_isWhole_0 : decode cX1_isWhole 0 = .ok (.aload_n 0, 1) := by decide +kernel
theorem dX1_isWhole_1 : decode cX1_isWhole 1 = .ok (.getfield 15, 3) := by decide +kernel
theorem dX1_isWhole_4 : decode cX1_isWhole 4 = .ok (.ifCond .eq 18, 3) := by decide +kernel
theorem dX1_isWhole_7 : decode cX1_isWhole 7 = .ok (.aload_n 0, 1) := by decide +kernel
theorem dX1_isWhole_8 : decode cX1_isWhole 8 = .ok (.getfield 26, 3) := by decide +kernel
theorem dX1_isWhole_11 : decode cX1_isWhole 11 = .ok (.aload_n 0, 1) := by decide +kernel
theorem dX1_isWhole_12 : decode cX1_isWhole 12 = .ok (.getfield 23, 3) := by decide +kernel
theorem dX1_isWhole_15 : decode cX1_isWhole 15 = .ok (.if_icmp .ne 7, 3) := by decide +kernel
theorem dX1_isWhole_18 : decode cX1_isWhole 18 = .ok (.iconst 1, 1) := by decide +kernel
theorem dX1_isWhole_19 : decode cX1_isWhole 19 = .ok (.goto 4, 3) := by decide +kernel
theorem dX1_isWhole_22 : decode cX1_isWhole 22 = .ok (.iconst 0, 1) := by decide +kernel
theorem dX1_isWhole_23 : decode cX1_isWhole 23 = .ok (.ireturn, 1) := by decide +kernel
theorem dX1_job_0 : decode cX1_job 0 = .ok (.new 39, 3) := by decide +kernel
theorem dX1_job_3 : decode cX1_job 3 = .ok (.dup, 1) := by decide +kernel
theorem dX1_job_4 : decode cX1_job 4 = .ok (.aload_n 0, 1) := by decide +kernel
theorem dX1_job_5 : decode cX1_job 5 = .ok (.getfield 19, 3) := by decide +kernel
theorem dX1_job_8 : decode cX1_job 8 = .ok (.aload_n 0, 1) := by decide +kernel
theorem dX1_job_9 : decode cX1_job 9 = .ok (.getfield 9, 3) := by decide +kernel
theorem dX1_job_12 : decode cX1_job 12 = .ok (.aload_n 0, 1) := by decide +kernel
theorem dX1_job_13 : decode cX1_job 13 = .ok (.getfield 23, 3) := by decide +kernel
theorem dX1_job_16 : decode cX1_job 16 = .ok (.invokespecial 41, 3) := by decide +kernel
theorem dX1_job_19 : decode cX1_job 19 = .ok (.areturn, 1) := by decide +kernel
