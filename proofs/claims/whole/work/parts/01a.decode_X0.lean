theorem dX0_init_0 : decode cX0_init 0 = .ok (.aload_n 0, 1) := by decide +kernel
theorem dX0_init_1 : decode cX0_init 1 = .ok (.invokespecial 3, 3) := by decide +kernel
theorem dX0_init_4 : decode cX0_init 4 = .ok (.aload_n 0, 1) := by decide +kernel
theorem dX0_init_5 : decode cX0_init 5 = .ok (.bipush 30, 2) := by decide +kernel
theorem dX0_init_7 : decode cX0_init 7 = .ok (.anewarray 11, 3) := by decide +kernel
theorem dX0_init_10 : decode cX0_init 10 = .ok (.putfield 13, 3) := by decide +kernel
theorem dX0_init_13 : decode cX0_init 13 = .ok (.aload_n 0, 1) := by decide +kernel
theorem dX0_init_14 : decode cX0_init 14 = .ok (.iconst 0, 1) := by decide +kernel
theorem dX0_init_15 : decode cX0_init 15 = .ok (.putfield 17, 3) := by decide +kernel
theorem dX0_init_18 : decode cX0_init 18 = .ok (.aload_n 0, 1) := by decide +kernel
theorem dX0_init_19 : decode cX0_init 19 = .ok (.iconst 0, 1) := by decide +kernel
theorem dX0_init_20 : decode cX0_init 20 = .ok (.putfield 21, 3) := by decide +kernel
theorem dX0_init_23 : decode cX0_init 23 = .ok (.aload_n 0, 1) := by decide +kernel
theorem dX0_init_24 : decode cX0_init 24 = .ok (.sipush 256, 3) := by decide +kernel
theorem dX0_init_27 : decode cX0_init 27 = .ok (.anewarray 11, 3) := by decide +kernel
theorem dX0_init_30 : decode cX0_init 30 = .ok (.putfield 24, 3) := by decide +kernel
theorem dX0_init_33 : decode cX0_init 33 = .ok (.aload_n 0, 1) := by decide +kernel
theorem dX0_init_34 : decode cX0_init 34 = .ok (.iconst 0, 1) := by decide +kernel
theorem dX0_init_35 : decode cX0_init 35 = .ok (.putfield 27, 3) := by decide +kernel
theorem dX0_init_38 : decode cX0_init 38 = .ok (.aload_n 0, 1) := by decide +kernel
theorem dX0_init_39 : decode cX0_init 39 = .ok (.iconst 0, 1) := by decide +kernel
theorem dX0_init_40 : decode cX0_init 40 = .ok (.putfield 30, 3) := by decide +kernel
theorem dX0_init_43 : decode cX0_init 43 = .ok (.return_, 1) := by decide +kernel
theorem dX0_jobsLeft_0 : decode cX0_jobsLeft 0 = .ok (.aload_n 0, 1) := by decide +kernel
theorem dX0_jobsLeft_1 : decode cX0_jobsLeft 1 = .ok (.getfield 21, 3) := by decide +kernel
theorem dX0_jobsLeft_4 : decode cX0_jobsLeft 4 = .ok (.aload_n 0, 1) := by decide +kernel
theorem dX0_jobsLeft_5 : decode cX0_jobsLeft 5 = .ok (.getfield 17, 3) := by decide +kernel
theorem dX0_jobsLeft_8 : decode cX0_jobsLeft 8 = .ok (.isub, 1) := by decide +kernel
theorem dX0_jobsLeft_9 : decode cX0_jobsLeft 9 = .ok (.ireturn, 1) := by decide +kernel
theorem dX0_addJob_0 : decode cX0_addJob 0 = .ok (.aload_n 0, 1) := by decide +kernel
theorem dX0_addJob_1 : decode cX0_addJob 1 = .ok (.getfield 21, 3) := by decide +kernel
theorem dX0_addJob_4 : decode cX0_addJob 4 = .ok (.bipush 30, 2) := by decide +kernel
theorem dX0_addJob_6 : decode cX0_addJob 6 = .ok (.if_icmp .lt 5, 3) := by decide +kernel
theorem dX0_addJob_9 : decode cX0_addJob 9 = .ok (.iconst (-1), 1) := by decide +kernel
theorem dX0_addJob_10 : decode cX0_addJob 10 = .ok (.ireturn, 1) := by decide +kernel
theorem dX0_addJob_11 : decode cX0_addJob 11 = .ok (.aload_n 0, 1) := by decide +kernel
theorem dX0_addJob_12 : decode cX0_addJob 12 = .ok (.getfield 21, 3) := by decide +kernel
theorem dX0_addJob_15 : decode cX0_addJob 15 = .ok (.istore_n 3, 1) := by decide +kernel
theorem dX0_addJob_16 : decode cX0_addJob 16 = .ok (.aload_n 0, 1) := by decide +kernel
theorem dX0_addJob_17 : decode cX0_addJob 17 = .ok (.getfield 13, 3) := by decide +kernel
theorem dX0_addJob_20 : decode cX0_addJob 20 = .ok (.iload_n 3, 1) := by decide +kernel
theorem dX0_addJob_21 : decode cX0_addJob 21 = .ok (.new 11, 3) := by decide +kernel
theorem dX0_addJob_24 : decode cX0_addJob 24 = .ok (.dup, 1) := by decide +kernel
theorem dX0_addJob_25 : decode cX0_addJob 25 = .ok (.iload_n 3, 1) := by decide +kernel
theorem dX0_addJob_26 : decode cX0_addJob 26 = .ok (.aload_n 1, 1) := by decide +kernel
theorem dX0_addJob_27 : decode cX0_addJob 27 = .ok (.iload_n 2, 1) := by decide +kernel
theorem dX0_addJob_28 : decode cX0_addJob 28 = .ok (.invokespecial 33, 3) := by decide +kernel
theorem dX0_addJob_31 : decode cX0_addJob 31 = .ok (.aastore, 1) := by decide +kernel
theorem dX0_addJob_32 : decode cX0_addJob 32 = .ok (.aload_n 0, 1) := by decide +kernel
theorem dX0_addJob_33 : decode cX0_addJob 33 = .ok (.dup, 1) := by decide +kernel
theorem dX0_addJob_34 : decode cX0_addJob 34 = .ok (.getfield 21, 3) := by decide +kernel
theorem dX0_addJob_37 : decode cX0_addJob 37 = .ok (.iconst 1, 1) := by decide +kernel
theorem dX0_addJob_38 : decode cX0_addJob 38 = .ok (.iadd, 1) := by decide +kernel
theorem dX0_addJob_39 : decode cX0_addJob 39 = .ok (.putfield 21, 3) := by decide +kernel
theorem dX0_addJob_42 : decode cX0_addJob 42 = .ok (.iload_n 3, 1) := by decide +kernel
theorem dX0_addJob_43 : decode cX0_addJob 43 = .ok (.ireturn, 1) := by decide +kernel
theorem dX0_firstJob_0 : decode cX0_firstJob 0 = .ok (.aload_n 0, 1) := by decide +kernel
theorem dX0_firstJob_1 : decode cX0_firstJob 1 = .ok (.getfield 17, 3) := by decide +kernel
theorem dX0_firstJob_4 : decode cX0_firstJob 4 = .ok (.aload_n 0, 1) := by decide +kernel
theorem dX0_firstJob_5 : decode cX0_firstJob 5 = .ok (.getfield 21, 3) := by decide +kernel
theorem dX0_firstJob_8 : decode cX0_firstJob 8 = .ok (.if_icmp .ge 15, 3) := by decide +kernel
theorem dX0_firstJob_11 : decode cX0_firstJob 11 = .ok (.aload_n 0, 1) := by decide +kernel
theorem dX0_firstJob_12 : decode cX0_firstJob 12 = .ok (.getfield 13, 3) := by decide +kernel
theorem dX0_firstJob_15 : decode cX0_firstJob 15 = .ok (.aload_n 0, 1) := by decide +kernel
theorem dX0_firstJob_16 : decode cX0_firstJob 16 = .ok (.getfield 17, 3) := by decide +kernel
theorem dX0_firstJob_19 : decode cX0_firstJob 19 = .ok (.aaload, 1) := by decide +kernel
theorem dX0_firstJob_20 : decode cX0_firstJob 20 = .ok (.goto 4, 3) := by decide +kernel
theorem dX0_firstJob_23 : decode cX0_firstJob 23 = .ok (.aconst_null, 1) := by decide +kernel
theorem dX0_firstJob_24 : decode cX0_firstJob 24 = .ok (.areturn, 1) := by decide +kernel
theorem dX0_dropFirstJob_0 : decode cX0_dropFirstJob 0 = .ok (.aload_n 0, 1) := by decide +kernel
theorem dX0_dropFirstJob_1 : decode cX0_dropFirstJob 1 = .ok (.getfield 17, 3) := by decide +kernel
theorem dX0_dropFirstJob_4 : decode cX0_dropFirstJob 4 = .ok (.aload_n 0, 1) := by decide +kernel
theorem dX0_dropFirstJob_5 : decode cX0_dropFirstJob 5 = .ok (.getfield 21, 3) := by decide +kernel
theorem dX0_dropFirstJob_8 : decode cX0_dropFirstJob 8 = .ok (.if_icmp .lt 5, 3) := by decide +kernel
theorem dX0_dropFirstJob_11 : decode cX0_dropFirstJob 11 = .ok (.iconst 0, 1) := by decide +kernel
theorem dX0_dropFirstJob_12 : decode cX0_dropFirstJob 12 = .ok (.ireturn, 1) := by decide +kernel
theorem dX0_dropFirstJob_13 : decode cX0_dropFirstJob 13 = .ok (.aload_n 0, 1) := by decide +kernel
theorem dX0_dropFirstJob_14 : decode cX0_dropFirstJob 14 = .ok (.dup, 1) := by decide +kernel
theorem dX0_dropFirstJob_15 : decode cX0_dropFirstJob 15 = .ok (.getfield 17, 3) := by decide +kernel
theorem dX0_dropFirstJob_18 : decode cX0_dropFirstJob 18 = .ok (.iconst 1, 1) := by decide +kernel
theorem dX0_dropFirstJob_19 : decode cX0_dropFirstJob 19 = .ok (.iadd, 1) := by decide +kernel
theorem dX0_dropFirstJob_20 : decode cX0_dropFirstJob 20 = .ok (.putfield 17, 3) := by decide +kernel
theorem dX0_dropFirstJob_23 : decode cX0_dropFirstJob 23 = .ok (.iconst 1, 1) := by decide +kernel
theorem dX0_dropFirstJob_24 : decode cX0_dropFirstJob 24 = .ok (.ireturn, 1) := by decide +kernel
theorem dX0_hasDone_0 : decode cX0_hasDone 0 = .ok (.iconst 0, 1) := by decide +kernel
theorem dX0_hasDone_1 : decode cX0_hasDone 1 = .ok (.istore_n 2, 1) := by decide +kernel
theorem dX0_hasDone_2 : decode cX0_hasDone 2 = .ok (.iload_n 2, 1) := by decide +kernel
theorem dX0_hasDone_3 : decode cX0_hasDone 3 = .ok (.aload_n 0, 1) := by decide +kernel
theorem dX0_hasDone_4 : decode cX0_hasDone 4 = .ok (.getfield 27, 3) := by decide +kernel
theorem dX0_hasDone_7 : decode cX0_hasDone 7 = .ok (.if_icmp .ge 24, 3) := by decide +kernel
theorem dX0_hasDone_10 : decode cX0_hasDone 10 = .ok (.aload_n 0, 1) := by decide +kernel
theorem dX0_hasDone_11 : decode cX0_hasDone 11 = .ok (.getfield 24, 3) := by decide +kernel
theorem dX0_hasDone_14 : decode cX0_hasDone 14 = .ok (.iload_n 2, 1) := by decide +kernel
theorem dX0_hasDone_15 : decode cX0_hasDone 15 = .ok (.aaload, 1) := by decide +kernel
theorem dX0_hasDone_16 : decode cX0_hasDone 16 = .ok (.getfield 36, 3) := by decide +kernel
theorem dX0_hasDone_19 : decode cX0_hasDone 19 = .ok (.iload_n 1, 1) := by decide +kernel
theorem dX0_hasDone_20 : decode cX0_hasDone 20 = .ok (.if_icmp .ne 5, 3) := by decide +kernel
theorem dX0_hasDone_23 : decode cX0_hasDone 23 = .ok (.iconst 1, 1) := by decide +kernel
theorem dX0_hasDone_24 : decode cX0_hasDone 24 = .ok (.ireturn, 1) := by decide +kernel
theorem dX0_hasDone_25 : decode cX0_hasDone 25 = .ok (.iinc 2 1, 3) := by decide +kernel
theorem dX0_hasDone_28 : decode cX0_hasDone 28 = .ok (.goto (-26), 3) := by decide +kernel
theorem dX0_hasDone_31 : decode cX0_hasDone 31 = .ok (.iconst 0, 1) := by decide +kernel
theorem dX0_hasDone_32 : decode cX0_hasDone 32 = .ok (.ireturn, 1) := by decide +kernel
theorem dX0_addDone_0 : decode cX0_addDone 0 = .ok (.aload_n 0, 1) := by decide +kernel
theorem dX0_addDone_1 : decode cX0_addDone 1 = .ok (.getfield 27, 3) := by decide +kernel
theorem dX0_addDone_4 : decode cX0_addDone 4 = .ok (.sipush 256, 3) := by decide +kernel
theorem dX0_addDone_7 : decode cX0_addDone 7 = .ok (.if_icmp .ge 23, 3) := by decide +kernel
theorem dX0_addDone_10 : decode cX0_addDone 10 = .ok (.aload_n 0, 1) := by decide +kernel
theorem dX0_addDone_11 : decode cX0_addDone 11 = .ok (.getfield 24, 3) := by decide +kernel
theorem dX0_addDone_14 : decode cX0_addDone 14 = .ok (.aload_n 0, 1) := by decide +kernel
theorem dX0_addDone_15 : decode cX0_addDone 15 = .ok (.getfield 27, 3) := by decide +kernel
theorem dX0_addDone_18 : decode cX0_addDone 18 = .ok (.aload_n 1, 1) := by decide +kernel
theorem dX0_addDone_19 : decode cX0_addDone 19 = .ok (.aastore, 1) := by decide +kernel
theorem dX0_addDone_20 : decode cX0_addDone 20 = .ok (.aload_n 0, 1) := by decide +kernel
theorem dX0_addDone_21 : decode cX0_addDone 21 = .ok (.dup, 1) := by decide +kernel
theorem dX0_addDone_22 : decode cX0_addDone 22 = .ok (.getfield 27, 3) := by decide +kernel
theorem dX0_addDone_25 : decode cX0_addDone 25 = .ok (.iconst 1, 1) := by decide +kernel
theorem dX0_addDone_26 : decode cX0_addDone 26 = .ok (.iadd, 1) := by decide +kernel
theorem dX0_addDone_27 : decode cX0_addDone 27 = .ok (.putfield 27, 3) := by decide +kernel
theorem dX0_addDone_30 : decode cX0_addDone 30 = .ok (.return_, 1) := by decide +kernel
theorem dX0_doneJob_0 : decode cX0_doneJob 0 = .ok (.iload_n 1, 1) := by decide +kernel
theorem dX0_doneJob_1 : decode cX0_doneJob 1 = .ok (.ifCond .lt 20, 3) := by decide +kernel
theorem dX0_doneJob_4 : decode cX0_doneJob 4 = .ok (.iload_n 1, 1) := by decide +kernel
theorem dX0_doneJob_5 : decode cX0_doneJob 5 = .ok (.aload_n 0, 1) := by decide +kernel
theorem dX0_doneJob_6 : decode cX0_doneJob 6 = .ok (.getfield 27, 3) := by decide +kernel
theorem dX0_doneJob_9 : decode cX0_doneJob 9 = .ok (.if_icmp .ge 12, 3) := by decide +kernel
theorem dX0_doneJob_12 : decode cX0_doneJob 12 = .ok (.aload_n 0, 1) := by decide +kernel
theorem dX0_doneJob_13 : decode cX0_doneJob 13 = .ok (.getfield 24, 3) := by decide +kernel
theorem dX0_doneJob_16 : decode cX0_doneJob 16 = .ok (.iload_n 1, 1) := by decide +kernel
theorem dX0_doneJob_17 : decode cX0_doneJob 17 = .ok (.aaload, 1) := by decide +kernel
theorem dX0_doneJob_18 : decode cX0_doneJob 18 = .ok (.goto 4, 3) := by decide +kernel
theorem dX0_doneJob_21 : decode cX0_doneJob 21 = .ok (.aconst_null, 1) := by decide +kernel
theorem dX0_doneJob_22 : decode cX0_doneJob 22 = .ok (.areturn, 1) := by decide +kernel
