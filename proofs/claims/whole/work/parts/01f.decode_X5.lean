theorem dX5_init_0 : decode cX5_init 0 = .ok (.aload_n 0, 1) := by decide +kernel
theorem dX5_init_1 : decode cX5_init 1 = .ok (.invokespecial 3, 3) := by decide +kernel
theorem dX5_init_4 : decode cX5_init 4 = .ok (.aload_n 0, 1) := by decide +kernel
theorem dX5_init_5 : decode cX5_init 5 = .ok (.new 9, 3) := by decide +kernel
theorem dX5_init_8 : decode cX5_init 8 = .ok (.dup, 1) := by decide +kernel
theorem dX5_init_9 : decode cX5_init 9 = .ok (.invokespecial 11, 3) := by decide +kernel
theorem dX5_init_12 : decode cX5_init 12 = .ok (.putfield 12, 3) := by decide +kernel
theorem dX5_init_15 : decode cX5_init 15 = .ok (.aload_n 0, 1) := by decide +kernel
theorem dX5_init_16 : decode cX5_init 16 = .ok (.new 18, 3) := by decide +kernel
theorem dX5_init_19 : decode cX5_init 19 = .ok (.dup, 1) := by decide +kernel
theorem dX5_init_20 : decode cX5_init 20 = .ok (.invokespecial 20, 3) := by decide +kernel
theorem dX5_init_23 : decode cX5_init 23 = .ok (.putfield 21, 3) := by decide +kernel
theorem dX5_init_26 : decode cX5_init 26 = .ok (.aload_n 0, 1) := by decide +kernel
theorem dX5_init_27 : decode cX5_init 27 = .ok (.new 25, 3) := by decide +kernel
theorem dX5_init_30 : decode cX5_init 30 = .ok (.dup, 1) := by decide +kernel
theorem dX5_init_31 : decode cX5_init 31 = .ok (.invokespecial 27, 3) := by decide +kernel
theorem dX5_init_34 : decode cX5_init 34 = .ok (.putfield 28, 3) := by decide +kernel
theorem dX5_init_37 : decode cX5_init 37 = .ok (.aload_n 0, 1) := by decide +kernel
theorem dX5_init_38 : decode cX5_init 38 = .ok (.iconst 0, 1) := by decide +kernel
theorem dX5_init_39 : decode cX5_init 39 = .ok (.putfield 32, 3) := by decide +kernel
theorem dX5_init_42 : decode cX5_init 42 = .ok (.aload_n 0, 1) := by decide +kernel
theorem dX5_init_43 : decode cX5_init 43 = .ok (.iconst 0, 1) := by decide +kernel
theorem dX5_init_44 : decode cX5_init 44 = .ok (.putfield 36, 3) := by decide +kernel
theorem dX5_init_47 : decode cX5_init 47 = .ok (.aload_n 0, 1) := by decide +kernel
theorem dX5_init_48 : decode cX5_init 48 = .ok (.iconst (-1), 1) := by decide +kernel
theorem dX5_init_49 : decode cX5_init 49 = .ok (.putfield 39, 3) := by decide +kernel
theorem dX5_init_52 : decode cX5_init 52 = .ok (.aload_n 0, 1) := by decide +kernel
theorem dX5_init_53 : decode cX5_init 53 = .ok (.iconst 0, 1) := by decide +kernel
theorem dX5_init_54 : decode cX5_init 54 = .ok (.putfield 42, 3) := by decide +kernel
theorem dX5_init_57 : decode cX5_init 57 = .ok (.aload_n 0, 1) := by decide +kernel
theorem dX5_init_58 : decode cX5_init 58 = .ok (.iconst 0, 1) := by decide +kernel
theorem dX5_init_59 : decode cX5_init 59 = .ok (.putfield 45, 3) := by decide +kernel
theorem dX5_init_62 : decode cX5_init 62 = .ok (.aload_n 0, 1) := by decide +kernel
theorem dX5_init_63 : decode cX5_init 63 = .ok (.iconst 0, 1) := by decide +kernel
theorem dX5_init_64 : decode cX5_init 64 = .ok (.putfield 49, 3) := by decide +kernel
theorem dX5_init_67 : decode cX5_init 67 = .ok (.aload_n 0, 1) := by decide +kernel
theorem dX5_init_68 : decode cX5_init 68 = .ok (.iconst 0, 1) := by decide +kernel
theorem dX5_init_69 : decode cX5_init 69 = .ok (.putfield 52, 3) := by decide +kernel
theorem dX5_init_72 : decode cX5_init 72 = .ok (.aload_n 0, 1) := by decide +kernel
theorem dX5_init_73 : decode cX5_init 73 = .ok (.iconst 0, 1) := by decide +kernel
theorem dX5_init_74 : decode cX5_init 74 = .ok (.putfield 55, 3) := by decide +kernel
theorem dX5_init_77 : decode cX5_init 77 = .ok (.aload_n 0, 1) := by decide +kernel
theorem dX5_init_78 : decode cX5_init 78 = .ok (.iload_n 1, 1) := by decide +kernel
theorem dX5_init_79 : decode cX5_init 79 = .ok (.putfield 58, 3) := by decide +kernel
theorem dX5_init_82 : decode cX5_init 82 = .ok (.aload_n 0, 1) := by decide +kernel
theorem dX5_init_83 : decode cX5_init 83 = .ok (.aload_n 2, 1) := by decide +kernel
theorem dX5_init_84 : decode cX5_init 84 = .ok (.putfield 61, 3) := by decide +kernel
theorem dX5_init_87 : decode cX5_init 87 = .ok (.return_, 1) := by decide +kernel
theorem dX5_begin_0 : decode cX5_begin 0 = .ok (.aload_n 0, 1) := by decide +kernel
theorem dX5_begin_1 : decode cX5_begin 1 = .ok (.iload_n 1, 1) := by decide +kernel
theorem dX5_begin_2 : decode cX5_begin 2 = .ok (.putfield 32, 3) := by decide +kernel
theorem dX5_begin_5 : decode cX5_begin 5 = .ok (.aload_n 0, 1) := by decide +kernel
theorem dX5_begin_6 : decode cX5_begin 6 = .ok (.getfield 21, 3) := by decide +kernel
theorem dX5_begin_9 : decode cX5_begin 9 = .ok (.invokevirtual 65, 3) := by decide +kernel
theorem dX5_begin_12 : decode cX5_begin 12 = .ok (.aload_n 0, 1) := by decide +kernel
theorem dX5_begin_13 : decode cX5_begin 13 = .ok (.getfield 28, 3) := by decide +kernel
theorem dX5_begin_16 : decode cX5_begin 16 = .ok (.invokevirtual 68, 3) := by decide +kernel
theorem dX5_begin_19 : decode cX5_begin 19 = .ok (.aload_n 0, 1) := by decide +kernel
theorem dX5_begin_20 : decode cX5_begin 20 = .ok (.iconst (-1), 1) := by decide +kernel
theorem dX5_begin_21 : decode cX5_begin 21 = .ok (.putfield 39, 3) := by decide +kernel
theorem dX5_begin_24 : decode cX5_begin 24 = .ok (.aload_n 0, 1) := by decide +kernel
theorem dX5_begin_25 : decode cX5_begin 25 = .ok (.iconst 0, 1) := by decide +kernel
theorem dX5_begin_26 : decode cX5_begin 26 = .ok (.putfield 42, 3) := by decide +kernel
theorem dX5_begin_29 : decode cX5_begin 29 = .ok (.aload_n 0, 1) := by decide +kernel
theorem dX5_begin_30 : decode cX5_begin 30 = .ok (.iconst 0, 1) := by decide +kernel
theorem dX5_begin_31 : decode cX5_begin 31 = .ok (.putfield 45, 3) := by decide +kernel
theorem dX5_begin_34 : decode cX5_begin 34 = .ok (.aload_n 0, 1) := by decide +kernel
theorem dX5_begin_35 : decode cX5_begin 35 = .ok (.iconst 0, 1) := by decide +kernel
theorem dX5_begin_36 : decode cX5_begin 36 = .ok (.putfield 49, 3) := by decide +kernel
theorem dX5_begin_39 : decode cX5_begin 39 = .ok (.aload_n 0, 1) := by decide +kernel
theorem dX5_begin_40 : decode cX5_begin 40 = .ok (.iconst 0, 1) := by decide +kernel
theorem dX5_begin_41 : decode cX5_begin 41 = .ok (.putfield 52, 3) := by decide +kernel
theorem dX5_begin_44 : decode cX5_begin 44 = .ok (.aload_n 0, 1) := by decide +kernel
theorem dX5_begin_45 : decode cX5_begin 45 = .ok (.iconst 0, 1) := by decide +kernel
theorem dX5_begin_46 : decode cX5_begin 46 = .ok (.putfield 55, 3) := by decide +kernel
theorem dX5_begin_49 : decode cX5_begin 49 = .ok (.return_, 1) := by decide +kernel
theorem dX5_beginCall_0 : decode cX5_beginCall 0 = .ok (.aload_n 0, 1) := by decide +kernel
theorem dX5_beginCall_1 : decode cX5_beginCall 1 = .ok (.iconst 1, 1) := by decide +kernel
theorem dX5_beginCall_2 : decode cX5_beginCall 2 = .ok (.invokevirtual 71, 3) := by decide +kernel
theorem dX5_beginCall_5 : decode cX5_beginCall 5 = .ok (.aload_n 0, 1) := by decide +kernel
theorem dX5_beginCall_6 : decode cX5_beginCall 6 = .ok (.aload_n 0, 1) := by decide +kernel
theorem dX5_beginCall_7 : decode cX5_beginCall 7 = .ok (.getfield 12, 3) := by decide +kernel
theorem dX5_beginCall_10 : decode cX5_beginCall 10 = .ok (.getfield 75, 3) := by decide +kernel
theorem dX5_beginCall_13 : decode cX5_beginCall 13 = .ok (.bipush 7, 2) := by decide +kernel
theorem dX5_beginCall_15 : decode cX5_beginCall 15 = .ok (.iand, 1) := by decide +kernel
theorem dX5_beginCall_16 : decode cX5_beginCall 16 = .ok (.putfield 36, 3) := by decide +kernel
theorem dX5_beginCall_19 : decode cX5_beginCall 19 = .ok (.aload_n 0, 1) := by decide +kernel
theorem dX5_beginCall_20 : decode cX5_beginCall 20 = .ok (.getfield 12, 3) := by decide +kernel
theorem dX5_beginCall_23 : decode cX5_beginCall 23 = .ok (.dup, 1) := by decide +kernel
theorem dX5_beginCall_24 : decode cX5_beginCall 24 = .ok (.getfield 75, 3) := by decide +kernel
theorem dX5_beginCall_27 : decode cX5_beginCall 27 = .ok (.iconst 1, 1) := by decide +kernel
theorem dX5_beginCall_28 : decode cX5_beginCall 28 = .ok (.iadd, 1) := by decide +kernel
theorem dX5_beginCall_29 : decode cX5_beginCall 29 = .ok (.putfield 75, 3) := by decide +kernel
theorem dX5_beginCall_32 : decode cX5_beginCall 32 = .ok (.aload_n 0, 1) := by decide +kernel
theorem dX5_beginCall_33 : decode cX5_beginCall 33 = .ok (.getfield 61, 3) := by decide +kernel
theorem dX5_beginCall_36 : decode cX5_beginCall 36 = .ok (.invokevirtual 78, 3) := by decide +kernel
theorem dX5_beginCall_39 : decode cX5_beginCall 39 = .ok (.bipush 7, 2) := by decide +kernel
theorem dX5_beginCall_41 : decode cX5_beginCall 41 = .ok (.aload_n 0, 1) := by decide +kernel
theorem dX5_beginCall_42 : decode cX5_beginCall 42 = .ok (.getfield 36, 3) := by decide +kernel
theorem dX5_beginCall_45 : decode cX5_beginCall 45 = .ok (.invokevirtual 86, 3) := by decide +kernel
theorem dX5_beginCall_48 : decode cX5_beginCall 48 = .ok (.return_, 1) := by decide +kernel
theorem dX5_passTick_0 : decode cX5_passTick 0 = .ok (.aload_n 0, 1) := by decide +kernel
theorem dX5_passTick_1 : decode cX5_passTick 1 = .ok (.getfield 32, 3) := by decide +kernel
theorem dX5_passTick_4 : decode cX5_passTick 4 = .ok (.iconst 1, 1) := by decide +kernel
theorem dX5_passTick_5 : decode cX5_passTick 5 = .ok (.if_icmp .eq 13, 3) := by decide +kernel
theorem dX5_passTick_8 : decode cX5_passTick 8 = .ok (.aload_n 0, 1) := by decide +kernel
theorem dX5_passTick_9 : decode cX5_passTick 9 = .ok (.getfield 21, 3) := by decide +kernel
theorem dX5_passTick_12 : decode cX5_passTick 12 = .ok (.getfield 90, 3) := by decide +kernel
theorem dX5_passTick_15 : decode cX5_passTick 15 = .ok (.ifCond .le 8, 3) := by decide +kernel
theorem dX5_passTick_18 : decode cX5_passTick 18 = .ok (.aload_n 0, 1) := by decide +kernel
theorem dX5_passTick_19 : decode cX5_passTick 19 = .ok (.invokevirtual 93, 3) := by decide +kernel
theorem dX5_passTick_22 : decode cX5_passTick 22 = .ok (.ireturn, 1) := by decide +kernel
theorem dX5_passTick_23 : decode cX5_passTick 23 = .ok (.aload_n 0, 1) := by decide +kernel
theorem dX5_passTick_24 : decode cX5_passTick 24 = .ok (.invokevirtual 97, 3) := by decide +kernel
theorem dX5_passTick_27 : decode cX5_passTick 27 = .ok (.ifCond .eq 27, 3) := by decide +kernel
theorem dX5_passTick_30 : decode cX5_passTick 30 = .ok (.aload_n 0, 1) := by decide +kernel
theorem dX5_passTick_31 : decode cX5_passTick 31 = .ok (.dup, 1) := by decide +kernel
theorem dX5_passTick_32 : decode cX5_passTick 32 = .ok (.getfield 55, 3) := by decide +kernel
theorem dX5_passTick_35 : decode cX5_passTick 35 = .ok (.iconst 1, 1) := by decide +kernel
theorem dX5_passTick_36 : decode cX5_passTick 36 = .ok (.iadd, 1) := by decide +kernel
theorem dX5_passTick_37 : decode cX5_passTick 37 = .ok (.putfield 55, 3) := by decide +kernel
theorem dX5_passTick_40 : decode cX5_passTick 40 = .ok (.aload_n 0, 1) := by decide +kernel
theorem dX5_passTick_41 : decode cX5_passTick 41 = .ok (.getfield 55, 3) := by decide +kernel
theorem dX5_passTick_44 : decode cX5_passTick 44 = .ok (.bipush 41, 2) := by decide +kernel
theorem dX5_passTick_46 : decode cX5_passTick 46 = .ok (.if_icmp .lt 8, 3) := by decide +kernel
theorem dX5_passTick_49 : decode cX5_passTick 49 = .ok (.aload_n 0, 1) := by decide +kernel
theorem dX5_passTick_50 : decode cX5_passTick 50 = .ok (.iconst 0, 1) := by decide +kernel
theorem dX5_passTick_51 : decode cX5_passTick 51 = .ok (.invokevirtual 71, 3) := by decide +kernel
theorem dX5_passTick_54 : decode cX5_passTick 54 = .ok (.iconst 0, 1) := by decide +kernel
theorem dX5_passTick_55 : decode cX5_passTick 55 = .ok (.ireturn, 1) := by decide +kernel
theorem dX5_receive_0 : decode cX5_receive 0 = .ok (.aload_n 1, 1) := by decide +kernel
theorem dX5_receive_1 : decode cX5_receive 1 = .ok (.invokevirtual 101, 3) := by decide +kernel
theorem dX5_receive_4 : decode cX5_receive 4 = .ok (.ifCond .ne 27, 3) := by decide +kernel
theorem dX5_receive_7 : decode cX5_receive 7 = .ok (.aload_n 0, 1) := by decide +kernel
theorem dX5_receive_8 : decode cX5_receive 8 = .ok (.invokevirtual 97, 3) := by decide +kernel
theorem dX5_receive_11 : decode cX5_receive 11 = .ok (.ifCond .eq 18, 3) := by decide +kernel
theorem dX5_receive_14 : decode cX5_receive 14 = .ok (.aload_n 0, 1) := by decide +kernel
theorem dX5_receive_15 : decode cX5_receive 15 = .ok (.getfield 61, 3) := by decide +kernel
theorem dX5_receive_18 : decode cX5_receive 18 = .ok (.invokevirtual 78, 3) := by decide +kernel
theorem dX5_receive_21 : decode cX5_receive 21 = .ok (.iconst 2, 1) := by decide +kernel
theorem dX5_receive_22 : decode cX5_receive 22 = .ok (.aload_n 0, 1) := by decide +kernel
theorem dX5_receive_23 : decode cX5_receive 23 = .ok (.getfield 42, 3) := by decide +kernel
theorem dX5_receive_26 : decode cX5_receive 26 = .ok (.invokevirtual 86, 3) := by decide +kernel
theorem dX5_receive_29 : decode cX5_receive 29 = .ok (.iconst 0, 1) := by decide +kernel
theorem dX5_receive_30 : decode cX5_receive 30 = .ok (.ireturn, 1) := by decide +kernel
theorem dX5_receive_31 : decode cX5_receive 31 = .ok (.aload_n 0, 1) := by decide +kernel
theorem dX5_receive_32 : decode cX5_receive 32 = .ok (.iconst 0, 1) := by decide +kernel
theorem dX5_receive_33 : decode cX5_receive 33 = .ok (.putfield 55, 3) := by decide +kernel
theorem dX5_receive_36 : decode cX5_receive 36 = .ok (.aload_n 1, 1) := by decide +kernel
theorem dX5_receive_37 : decode cX5_receive 37 = .ok (.invokevirtual 104, 3) := by decide +kernel
theorem dX5_receive_40 : decode cX5_receive 40 = .ok (.istore_n 2, 1) := by decide +kernel
theorem dX5_receive_41 : decode cX5_receive 41 = .ok (.aload_n 1, 1) := by decide +kernel
theorem dX5_receive_42 : decode cX5_receive 42 = .ok (.invokevirtual 107, 3) := by decide +kernel
theorem dX5_receive_45 : decode cX5_receive 45 = .ok (.ifCond .eq 18, 3) := by decide +kernel
theorem dX5_receive_48 : decode cX5_receive 48 = .ok (.aload_n 0, 1) := by decide +kernel
theorem dX5_receive_49 : decode cX5_receive 49 = .ok (.invokevirtual 97, 3) := by decide +kernel
theorem dX5_receive_52 : decode cX5_receive 52 = .ok (.ifCond .eq 60, 3) := by decide +kernel
theorem dX5_receive_55 : decode cX5_receive 55 = .ok (.aload_n 0, 1) := by decide +kernel
theorem dX5_receive_56 : decode cX5_receive 56 = .ok (.aload_n 1, 1) := by decide +kernel
theorem dX5_receive_57 : decode cX5_receive 57 = .ok (.invokevirtual 110, 3) := by decide +kernel
theorem dX5_receive_60 : decode cX5_receive 60 = .ok (.goto 52, 3) := by decide +kernel
theorem dX5_receive_63 : decode cX5_receive 63 = .ok (.iload_n 2, 1) := by decide +kernel
theorem dX5_receive_64 : decode cX5_receive 64 = .ok (.bipush 7, 2) := by decide +kernel
theorem dX5_receive_66 : decode cX5_receive 66 = .ok (.if_icmp .ne 14, 3) := by decide +kernel
theorem dX5_receive_69 : decode cX5_receive 69 = .ok (.aload_n 0, 1) := by decide +kernel
theorem dX5_receive_70 : decode cX5_receive 70 = .ok (.aload_n 1, 1) := by decide +kernel
theorem dX5_receive_71 : decode cX5_receive 71 = .ok (.invokevirtual 114, 3) := by decide +kernel
theorem dX5_receive_74 : decode cX5_receive 74 = .ok (.invokevirtual 117, 3) := by decide +kernel
theorem dX5_receive_77 : decode cX5_receive 77 = .ok (.goto 35, 3) := by decide +kernel
theorem dX5_receive_80 : decode cX5_receive 80 = .ok (.iload_n 2, 1) := by decide +kernel
theorem dX5_receive_81 : decode cX5_receive 81 = .ok (.iconst 5, 1) := by decide +kernel
theorem dX5_receive_82 : decode cX5_receive 82 = .ok (.if_icmp .ne 14, 3) := by decide +kernel
theorem dX5_receive_85 : decode cX5_receive 85 = .ok (.aload_n 0, 1) := by decide +kernel
theorem dX5_receive_86 : decode cX5_receive 86 = .ok (.aload_n 1, 1) := by decide +kernel
theorem dX5_receive_87 : decode cX5_receive 87 = .ok (.invokevirtual 114, 3) := by decide +kernel
theorem dX5_receive_90 : decode cX5_receive 90 = .ok (.invokevirtual 120, 3) := by decide +kernel
theorem dX5_receive_93 : decode cX5_receive 93 = .ok (.goto 19, 3) := by decide +kernel
theorem dX5_receive_96 : decode cX5_receive 96 = .ok (.aload_n 0, 1) := by decide +kernel
theorem dX5_receive_97 : decode cX5_receive 97 = .ok (.invokevirtual 97, 3) := by decide +kernel
theorem dX5_receive_100 : decode cX5_receive 100 = .ok (.ifCond .eq 12, 3) := by decide +kernel
theorem dX5_receive_103 : decode cX5_receive 103 = .ok (.aload_n 0, 1) := by decide +kernel
theorem dX5_receive_104 : decode cX5_receive 104 = .ok (.iload_n 2, 1) := by decide +kernel
theorem dX5_receive_105 : decode cX5_receive 105 = .ok (.aload_n 1, 1) := by decide +kernel
theorem dX5_receive_106 : decode cX5_receive 106 = .ok (.invokevirtual 114, 3) := by decide +kernel
theorem dX5_receive_109 : decode cX5_receive 109 = .ok (.invokevirtual 123, 3) := by decide +kernel
theorem dX5_receive_112 : decode cX5_receive 112 = .ok (.aload_n 0, 1) := by decide +kernel
theorem dX5_receive_113 : decode cX5_receive 113 = .ok (.aload_n 0, 1) := by decide +kernel
theorem dX5_receive_114 : decode cX5_receive 114 = .ok (.getfield 21, 3) := by decide +kernel
theorem dX5_receive_117 : decode cX5_receive 117 = .ok (.invokevirtual 126, 3) := by decide +kernel
theorem dX5_receive_120 : decode cX5_receive 120 = .ok (.invokevirtual 129, 3) := by decide +kernel
theorem dX5_receive_123 : decode cX5_receive 123 = .ok (.iconst 1, 1) := by decide +kernel
theorem dX5_receive_124 : decode cX5_receive 124 = .ok (.ireturn, 1) := by decide +kernel
theorem dX5_isOpen_0 : decode cX5_isOpen 0 = .ok (.aload_n 0, 1) := by decide +kernel
theorem dX5_isOpen_1 : decode cX5_isOpen 1 = .ok (.getfield 32, 3) := by decide +kernel
theorem dX5_isOpen_4 : decode cX5_isOpen 4 = .ok (.iconst 2, 1) := by decide +kernel
theorem dX5_isOpen_5 : decode cX5_isOpen 5 = .ok (.if_icmp .eq 11, 3) := by decide +kernel
theorem dX5_isOpen_8 : decode cX5_isOpen 8 = .ok (.aload_n 0, 1) := by decide +kernel
theorem dX5_isOpen_9 : decode cX5_isOpen 9 = .ok (.getfield 32, 3) := by decide +kernel
theorem dX5_isOpen_12 : decode cX5_isOpen 12 = .ok (.iconst 3, 1) := by decide +kernel
theorem dX5_isOpen_13 : decode cX5_isOpen 13 = .ok (.if_icmp .ne 7, 3) := by decide +kernel
theorem dX5_isOpen_16 : decode cX5_isOpen 16 = .ok (.iconst 1, 1) := by decide +kernel
theorem dX5_isOpen_17 : decode cX5_isOpen 17 = .ok (.goto 4, 3) := by decide +kernel
theorem dX5_isOpen_20 : decode cX5_isOpen 20 = .ok (.iconst 0, 1) := by decide +kernel
theorem dX5_isOpen_21 : decode cX5_isOpen 21 = .ok (.ireturn, 1) := by decide +kernel
theorem dX5_passTickUnanswered_0 : decode cX5_passTickUnanswered 0 = .ok (.aload_n 0, 1) := by decide +kernel
theorem dX5_passTickUnanswered_1 : decode cX5_passTickUnanswered 1 = .ok (.dup, 1) := by decide +kernel
theorem dX5_passTickUnanswered_2 : decode cX5_passTickUnanswered 2 = .ok (.getfield 49, 3) := by decide +kernel
theorem dX5_passTickUnanswered_5 : decode cX5_passTickUnanswered 5 = .ok (.iconst 1, 1) := by decide +kernel
theorem dX5_passTickUnanswered_6 : decode cX5_passTickUnanswered 6 = .ok (.iadd, 1) := by decide +kernel
theorem dX5_passTickUnanswered_7 : decode cX5_passTickUnanswered 7 = .ok (.putfield 49, 3) := by decide +kernel
theorem dX5_passTickUnanswered_10 : decode cX5_passTickUnanswered 10 = .ok (.aload_n 0, 1) := by decide +kernel
theorem dX5_passTickUnanswered_11 : decode cX5_passTickUnanswered 11 = .ok (.getfield 49, 3) := by decide +kernel
theorem dX5_passTickUnanswered_14 : decode cX5_passTickUnanswered 14 = .ok (.iconst 4, 1) := by decide +kernel
theorem dX5_passTickUnanswered_15 : decode cX5_passTickUnanswered 15 = .ok (.if_icmp .ge 5, 3) := by decide +kernel
theorem dX5_passTickUnanswered_18 : decode cX5_passTickUnanswered 18 = .ok (.iconst 0, 1) := by decide +kernel
theorem dX5_passTickUnanswered_19 : decode cX5_passTickUnanswered 19 = .ok (.ireturn, 1) := by decide +kernel
theorem dX5_passTickUnanswered_20 : decode cX5_passTickUnanswered 20 = .ok (.aload_n 0, 1) := by decide +kernel
theorem dX5_passTickUnanswered_21 : decode cX5_passTickUnanswered 21 = .ok (.getfield 52, 3) := by decide +kernel
theorem dX5_passTickUnanswered_24 : decode cX5_passTickUnanswered 24 = .ok (.iconst 5, 1) := by decide +kernel
theorem dX5_passTickUnanswered_25 : decode cX5_passTickUnanswered 25 = .ok (.if_icmp .lt 10, 3) := by decide +kernel
theorem dX5_passTickUnanswered_28 : decode cX5_passTickUnanswered 28 = .ok (.aload_n 0, 1) := by decide +kernel
theorem dX5_passTickUnanswered_29 : decode cX5_passTickUnanswered 29 = .ok (.iconst 0, 1) := by decide +kernel
theorem dX5_passTickUnanswered_30 : decode cX5_passTickUnanswered 30 = .ok (.invokevirtual 71, 3) := by decide +kernel
theorem dX5_passTickUnanswered_33 : decode cX5_passTickUnanswered 33 = .ok (.iconst 0, 1) := by decide +kernel
theorem dX5_passTickUnanswered_34 : decode cX5_passTickUnanswered 34 = .ok (.ireturn, 1) := by decide +kernel
theorem dX5_passTickUnanswered_35 : decode cX5_passTickUnanswered 35 = .ok (.aload_n 0, 1) := by decide +kernel
theorem dX5_passTickUnanswered_36 : decode cX5_passTickUnanswered 36 = .ok (.dup, 1) := by decide +kernel
theorem dX5_passTickUnanswered_37 : decode cX5_passTickUnanswered 37 = .ok (.getfield 52, 3) := by decide +kernel
theorem dX5_passTickUnanswered_40 : decode cX5_passTickUnanswered 40 = .ok (.iconst 1, 1) := by decide +kernel
theorem dX5_passTickUnanswered_41 : decode cX5_passTickUnanswered 41 = .ok (.iadd, 1) := by decide +kernel
theorem dX5_passTickUnanswered_42 : decode cX5_passTickUnanswered 42 = .ok (.putfield 52, 3) := by decide +kernel
theorem dX5_passTickUnanswered_45 : decode cX5_passTickUnanswered 45 = .ok (.aload_n 0, 1) := by decide +kernel
theorem dX5_passTickUnanswered_46 : decode cX5_passTickUnanswered 46 = .ok (.iconst 0, 1) := by decide +kernel
theorem dX5_passTickUnanswered_47 : decode cX5_passTickUnanswered 47 = .ok (.putfield 49, 3) := by decide +kernel
theorem dX5_passTickUnanswered_50 : decode cX5_passTickUnanswered 50 = .ok (.aload_n 0, 1) := by decide +kernel
theorem dX5_passTickUnanswered_51 : decode cX5_passTickUnanswered 51 = .ok (.getfield 32, 3) := by decide +kernel
theorem dX5_passTickUnanswered_54 : decode cX5_passTickUnanswered 54 = .ok (.iconst 1, 1) := by decide +kernel
theorem dX5_passTickUnanswered_55 : decode cX5_passTickUnanswered 55 = .ok (.if_icmp .ne 21, 3) := by decide +kernel
theorem dX5_passTickUnanswered_58 : decode cX5_passTickUnanswered 58 = .ok (.aload_n 0, 1) := by decide +kernel
theorem dX5_passTickUnanswered_59 : decode cX5_passTickUnanswered 59 = .ok (.getfield 61, 3) := by decide +kernel
theorem dX5_passTickUnanswered_62 : decode cX5_passTickUnanswered 62 = .ok (.invokevirtual 78, 3) := by decide +kernel
theorem dX5_passTickUnanswered_65 : decode cX5_passTickUnanswered 65 = .ok (.bipush 7, 2) := by decide +kernel
theorem dX5_passTickUnanswered_67 : decode cX5_passTickUnanswered 67 = .ok (.aload_n 0, 1) := by decide +kernel
theorem dX5_passTickUnanswered_68 : decode cX5_passTickUnanswered 68 = .ok (.getfield 36, 3) := by decide +kernel
theorem dX5_passTickUnanswered_71 : decode cX5_passTickUnanswered 71 = .ok (.invokevirtual 86, 3) := by decide +kernel
theorem dX5_passTickUnanswered_74 : decode cX5_passTickUnanswered 74 = .ok (.iconst 1, 1) := by decide +kernel
theorem dX5_passTickUnanswered_75 : decode cX5_passTickUnanswered 75 = .ok (.ireturn, 1) := by decide +kernel
theorem dX5_passTickUnanswered_76 : decode cX5_passTickUnanswered 76 = .ok (.aload_n 0, 1) := by decide +kernel
theorem dX5_passTickUnanswered_77 : decode cX5_passTickUnanswered 77 = .ok (.iconst 0, 1) := by decide +kernel
theorem dX5_passTickUnanswered_78 : decode cX5_passTickUnanswered 78 = .ok (.invokevirtual 129, 3) := by decide +kernel
theorem dX5_passTickUnanswered_81 : decode cX5_passTickUnanswered 81 = .ok (.aload_n 0, 1) := by decide +kernel
theorem dX5_passTickUnanswered_82 : decode cX5_passTickUnanswered 82 = .ok (.getfield 21, 3) := by decide +kernel
theorem dX5_passTickUnanswered_85 : decode cX5_passTickUnanswered 85 = .ok (.getfield 90, 3) := by decide +kernel
theorem dX5_passTickUnanswered_88 : decode cX5_passTickUnanswered 88 = .ok (.ireturn, 1) := by decide +kernel
theorem dX5_sendOutFrom_0 : decode cX5_sendOutFrom 0 = .ok (.iload_n 1, 1) := by decide +kernel
theorem dX5_sendOutFrom_1 : decode cX5_sendOutFrom 1 = .ok (.istore_n 2, 1) := by decide +kernel
theorem dX5_sendOutFrom_2 : decode cX5_sendOutFrom 2 = .ok (.iload_n 2, 1) := by decide +kernel
theorem dX5_sendOutFrom_3 : decode cX5_sendOutFrom 3 = .ok (.aload_n 0, 1) := by decide +kernel
theorem dX5_sendOutFrom_4 : decode cX5_sendOutFrom 4 = .ok (.getfield 21, 3) := by decide +kernel
theorem dX5_sendOutFrom_7 : decode cX5_sendOutFrom 7 = .ok (.getfield 90, 3) := by decide +kernel
theorem dX5_sendOutFrom_10 : decode cX5_sendOutFrom 10 = .ok (.if_icmp .ge 39, 3) := by decide +kernel
theorem dX5_sendOutFrom_13 : decode cX5_sendOutFrom 13 = .ok (.aload_n 0, 1) := by decide +kernel
theorem dX5_sendOutFrom_14 : decode cX5_sendOutFrom 14 = .ok (.getfield 61, 3) := by decide +kernel
theorem dX5_sendOutFrom_17 : decode cX5_sendOutFrom 17 = .ok (.invokevirtual 78, 3) := by decide +kernel
theorem dX5_sendOutFrom_20 : decode cX5_sendOutFrom 20 = .ok (.aload_n 0, 1) := by decide +kernel
theorem dX5_sendOutFrom_21 : decode cX5_sendOutFrom 21 = .ok (.getfield 21, 3) := by decide +kernel
theorem dX5_sendOutFrom_24 : decode cX5_sendOutFrom 24 = .ok (.iload_n 2, 1) := by decide +kernel
theorem dX5_sendOutFrom_25 : decode cX5_sendOutFrom 25 = .ok (.invokevirtual 132, 3) := by decide +kernel
theorem dX5_sendOutFrom_28 : decode cX5_sendOutFrom 28 = .ok (.aload_n 0, 1) := by decide +kernel
theorem dX5_sendOutFrom_29 : decode cX5_sendOutFrom 29 = .ok (.getfield 42, 3) := by decide +kernel
theorem dX5_sendOutFrom_32 : decode cX5_sendOutFrom 32 = .ok (.aload_n 0, 1) := by decide +kernel
theorem dX5_sendOutFrom_33 : decode cX5_sendOutFrom 33 = .ok (.getfield 21, 3) := by decide +kernel
theorem dX5_sendOutFrom_36 : decode cX5_sendOutFrom 36 = .ok (.iload_n 2, 1) := by decide +kernel
theorem dX5_sendOutFrom_37 : decode cX5_sendOutFrom 37 = .ok (.invokevirtual 136, 3) := by decide +kernel
theorem dX5_sendOutFrom_40 : decode cX5_sendOutFrom 40 = .ok (.invokevirtual 140, 3) := by decide +kernel
theorem dX5_sendOutFrom_43 : decode cX5_sendOutFrom 43 = .ok (.iinc 2 1, 3) := by decide +kernel
theorem dX5_sendOutFrom_46 : decode cX5_sendOutFrom 46 = .ok (.goto (-44), 3) := by decide +kernel
theorem dX5_sendOutFrom_49 : decode cX5_sendOutFrom 49 = .ok (.return_, 1) := by decide +kernel
theorem dX5_takeInit_0 : decode cX5_takeInit 0 = .ok (.aload_n 0, 1) := by decide +kernel
theorem dX5_takeInit_1 : decode cX5_takeInit 1 = .ok (.getfield 58, 3) := by decide +kernel
theorem dX5_takeInit_4 : decode cX5_takeInit 4 = .ok (.ifCond .ne 15, 3) := by decide +kernel
theorem dX5_takeInit_7 : decode cX5_takeInit 7 = .ok (.aload_n 0, 1) := by decide +kernel
theorem dX5_takeInit_8 : decode cX5_takeInit 8 = .ok (.getfield 32, 3) := by decide +kernel
theorem dX5_takeInit_11 : decode cX5_takeInit 11 = .ok (.iconst 1, 1) := by decide +kernel
theorem dX5_takeInit_12 : decode cX5_takeInit 12 = .ok (.if_icmp .ne 7, 3) := by decide +kernel
theorem dX5_takeInit_15 : decode cX5_takeInit 15 = .ok (.iconst 1, 1) := by decide +kernel
theorem dX5_takeInit_16 : decode cX5_takeInit 16 = .ok (.goto 4, 3) := by decide +kernel
theorem dX5_takeInit_19 : decode cX5_takeInit 19 = .ok (.iconst 0, 1) := by decide +kernel
theorem dX5_takeInit_20 : decode cX5_takeInit 20 = .ok (.istore_n 2, 1) := by decide +kernel
theorem dX5_takeInit_21 : decode cX5_takeInit 21 = .ok (.aload_n 0, 1) := by decide +kernel
theorem dX5_takeInit_22 : decode cX5_takeInit 22 = .ok (.getfield 32, 3) := by decide +kernel
theorem dX5_takeInit_25 : decode cX5_takeInit 25 = .ok (.iconst 3, 1) := by decide +kernel
theorem dX5_takeInit_26 : decode cX5_takeInit 26 = .ok (.if_icmp .ne 22, 3) := by decide +kernel
theorem dX5_takeInit_29 : decode cX5_takeInit 29 = .ok (.aload_n 0, 1) := by decide +kernel
theorem dX5_takeInit_30 : decode cX5_takeInit 30 = .ok (.getfield 39, 3) := by decide +kernel
theorem dX5_takeInit_33 : decode cX5_takeInit 33 = .ok (.iload_n 1, 1) := by decide +kernel
theorem dX5_takeInit_34 : decode cX5_takeInit 34 = .ok (.if_icmp .ne 14, 3) := by decide +kernel
theorem dX5_takeInit_37 : decode cX5_takeInit 37 = .ok (.aload_n 0, 1) := by decide +kernel
theorem dX5_takeInit_38 : decode cX5_takeInit 38 = .ok (.getfield 45, 3) := by decide +kernel
theorem dX5_takeInit_41 : decode cX5_takeInit 41 = .ok (.ifCond .eq 7, 3) := by decide +kernel
theorem dX5_takeInit_44 : decode cX5_takeInit 44 = .ok (.iconst 1, 1) := by decide +kernel
theorem dX5_takeInit_45 : decode cX5_takeInit 45 = .ok (.goto 4, 3) := by decide +kernel
theorem dX5_takeInit_48 : decode cX5_takeInit 48 = .ok (.iconst 0, 1) := by decide +kernel
theorem dX5_takeInit_49 : decode cX5_takeInit 49 = .ok (.istore_n 3, 1) := by decide +kernel
theorem dX5_takeInit_50 : decode cX5_takeInit 50 = .ok (.iload_n 2, 1) := by decide +kernel
theorem dX5_takeInit_51 : decode cX5_takeInit 51 = .ok (.ifCond .ne 7, 3) := by decide +kernel
theorem dX5_takeInit_54 : decode cX5_takeInit 54 = .ok (.iload_n 3, 1) := by decide +kernel
theorem dX5_takeInit_55 : decode cX5_takeInit 55 = .ok (.ifCond .eq 4, 3) := by decide +kernel
theorem dX5_takeInit_58 : decode cX5_takeInit 58 = .ok (.return_, 1) := by decide +kernel
theorem dX5_takeInit_59 : decode cX5_takeInit 59 = .ok (.aload_n 0, 1) := by decide +kernel
theorem dX5_takeInit_60 : decode cX5_takeInit 60 = .ok (.iconst 3, 1) := by decide +kernel
theorem dX5_takeInit_61 : decode cX5_takeInit 61 = .ok (.invokevirtual 71, 3) := by decide +kernel
theorem dX5_takeInit_64 : decode cX5_takeInit 64 = .ok (.aload_n 0, 1) := by decide +kernel
theorem dX5_takeInit_65 : decode cX5_takeInit 65 = .ok (.iload_n 1, 1) := by decide +kernel
theorem dX5_takeInit_66 : decode cX5_takeInit 66 = .ok (.putfield 39, 3) := by decide +kernel
theorem dX5_takeInit_69 : decode cX5_takeInit 69 = .ok (.aload_n 0, 1) := by decide +kernel
theorem dX5_takeInit_70 : decode cX5_takeInit 70 = .ok (.getfield 61, 3) := by decide +kernel
theorem dX5_takeInit_73 : decode cX5_takeInit 73 = .ok (.invokevirtual 78, 3) := by decide +kernel
theorem dX5_takeInit_76 : decode cX5_takeInit 76 = .ok (.iconst 5, 1) := by decide +kernel
theorem dX5_takeInit_77 : decode cX5_takeInit 77 = .ok (.iload_n 1, 1) := by decide +kernel
theorem dX5_takeInit_78 : decode cX5_takeInit 78 = .ok (.invokevirtual 86, 3) := by decide +kernel
theorem dX5_takeInit_81 : decode cX5_takeInit 81 = .ok (.return_, 1) := by decide +kernel
theorem dX5_takeAnswer_0 : decode cX5_takeAnswer 0 = .ok (.aload_n 0, 1) := by decide +kernel
theorem dX5_takeAnswer_1 : decode cX5_takeAnswer 1 = .ok (.getfield 32, 3) := by decide +kernel
theorem dX5_takeAnswer_4 : decode cX5_takeAnswer 4 = .ok (.iconst 1, 1) := by decide +kernel
theorem dX5_takeAnswer_5 : decode cX5_takeAnswer 5 = .ok (.if_icmp .ne 20, 3) := by decide +kernel
theorem dX5_takeAnswer_8 : decode cX5_takeAnswer 8 = .ok (.aload_n 0, 1) := by decide +kernel
theorem dX5_takeAnswer_9 : decode cX5_takeAnswer 9 = .ok (.getfield 36, 3) := by decide +kernel
theorem dX5_takeAnswer_12 : decode cX5_takeAnswer 12 = .ok (.iload_n 1, 1) := by decide +kernel
theorem dX5_takeAnswer_13 : decode cX5_takeAnswer 13 = .ok (.if_icmp .ne 12, 3) := by decide +kernel
theorem dX5_takeAnswer_16 : decode cX5_takeAnswer 16 = .ok (.aload_n 0, 1) := by decide +kernel
theorem dX5_takeAnswer_17 : decode cX5_takeAnswer 17 = .ok (.iconst 2, 1) := by decide +kernel
theorem dX5_takeAnswer_18 : decode cX5_takeAnswer 18 = .ok (.invokevirtual 71, 3) := by decide +kernel
theorem dX5_takeAnswer_21 : decode cX5_takeAnswer 21 = .ok (.aload_n 0, 1) := by decide +kernel
theorem dX5_takeAnswer_22 : decode cX5_takeAnswer 22 = .ok (.invokevirtual 144, 3) := by decide +kernel
theorem dX5_takeAnswer_25 : decode cX5_takeAnswer 25 = .ok (.return_, 1) := by decide +kernel
theorem dX5_takeControl_0 : decode cX5_takeControl 0 = .ok (.iload_n 1, 1) := by decide +kernel
theorem dX5_takeControl_1 : decode cX5_takeControl 1 = .ok (.iconst 1, 1) := by decide +kernel
theorem dX5_takeControl_2 : decode cX5_takeControl 2 = .ok (.if_icmp .ne 9, 3) := by decide +kernel
theorem dX5_takeControl_5 : decode cX5_takeControl 5 = .ok (.aload_n 0, 1) := by decide +kernel
theorem dX5_takeControl_6 : decode cX5_takeControl 6 = .ok (.iconst 0, 1) := by decide +kernel
theorem dX5_takeControl_7 : decode cX5_takeControl 7 = .ok (.invokevirtual 71, 3) := by decide +kernel
theorem dX5_takeControl_10 : decode cX5_takeControl 10 = .ok (.return_, 1) := by decide +kernel
theorem dX5_takeControl_11 : decode cX5_takeControl 11 = .ok (.aload_n 0, 1) := by decide +kernel
theorem dX5_takeControl_12 : decode cX5_takeControl 12 = .ok (.iload_n 2, 1) := by decide +kernel
theorem dX5_takeControl_13 : decode cX5_takeControl 13 = .ok (.invokevirtual 147, 3) := by decide +kernel
theorem dX5_takeControl_16 : decode cX5_takeControl 16 = .ok (.iload_n 1, 1) := by decide +kernel
theorem dX5_takeControl_17 : decode cX5_takeControl 17 = .ok (.iconst 2, 1) := by decide +kernel
theorem dX5_takeControl_18 : decode cX5_takeControl 18 = .ok (.if_icmp .ne 13, 3) := by decide +kernel
theorem dX5_takeControl_21 : decode cX5_takeControl 21 = .ok (.aload_n 0, 1) := by decide +kernel
theorem dX5_takeControl_22 : decode cX5_takeControl 22 = .ok (.iconst 0, 1) := by decide +kernel
theorem dX5_takeControl_23 : decode cX5_takeControl 23 = .ok (.putfield 49, 3) := by decide +kernel
theorem dX5_takeControl_26 : decode cX5_takeControl 26 = .ok (.aload_n 0, 1) := by decide +kernel
theorem dX5_takeControl_27 : decode cX5_takeControl 27 = .ok (.iconst 0, 1) := by decide +kernel
theorem dX5_takeControl_28 : decode cX5_takeControl 28 = .ok (.invokevirtual 129, 3) := by decide +kernel
theorem dX5_takeControl_31 : decode cX5_takeControl 31 = .ok (.return_, 1) := by decide +kernel
theorem dX5_takeAcknowledgement_0 : decode cX5_takeAcknowledgement 0 = .ok (.aload_n 0, 1) := by decide +kernel
theorem dX5_takeAcknowledgement_1 : decode cX5_takeAcknowledgement 1 = .ok (.getfield 21, 3) := by decide +kernel
theorem dX5_takeAcknowledgement_4 : decode cX5_takeAcknowledgement 4 = .ok (.iload_n 1, 1) := by decide +kernel
theorem dX5_takeAcknowledgement_5 : decode cX5_takeAcknowledgement 5 = .ok (.invokevirtual 150, 3) := by decide +kernel
theorem dX5_takeAcknowledgement_8 : decode cX5_takeAcknowledgement 8 = .ok (.ifCond .eq 13, 3) := by decide +kernel
theorem dX5_takeAcknowledgement_11 : decode cX5_takeAcknowledgement 11 = .ok (.aload_n 0, 1) := by decide +kernel
theorem dX5_takeAcknowledgement_12 : decode cX5_takeAcknowledgement 12 = .ok (.iconst 0, 1) := by decide +kernel
theorem dX5_takeAcknowledgement_13 : decode cX5_takeAcknowledgement 13 = .ok (.putfield 49, 3) := by decide +kernel
theorem dX5_takeAcknowledgement_16 : decode cX5_takeAcknowledgement 16 = .ok (.aload_n 0, 1) := by decide +kernel
theorem dX5_takeAcknowledgement_17 : decode cX5_takeAcknowledgement 17 = .ok (.iconst 0, 1) := by decide +kernel
theorem dX5_takeAcknowledgement_18 : decode cX5_takeAcknowledgement 18 = .ok (.putfield 52, 3) := by decide +kernel
theorem dX5_takeAcknowledgement_21 : decode cX5_takeAcknowledgement 21 = .ok (.return_, 1) := by decide +kernel
theorem dX5_takeData_0 : decode cX5_takeData 0 = .ok (.aload_n 0, 1) := by decide +kernel
theorem dX5_takeData_1 : decode cX5_takeData 1 = .ok (.aload_n 1, 1) := by decide +kernel
theorem dX5_takeData_2 : decode cX5_takeData 2 = .ok (.invokevirtual 114, 3) := by decide +kernel
theorem dX5_takeData_5 : decode cX5_takeData 5 = .ok (.invokevirtual 147, 3) := by decide +kernel
theorem dX5_takeData_8 : decode cX5_takeData 8 = .ok (.aload_n 0, 1) := by decide +kernel
theorem dX5_takeData_9 : decode cX5_takeData 9 = .ok (.aload_n 0, 1) := by decide +kernel
theorem dX5_takeData_10 : decode cX5_takeData 10 = .ok (.getfield 21, 3) := by decide +kernel
theorem dX5_takeData_13 : decode cX5_takeData 13 = .ok (.invokevirtual 126, 3) := by decide +kernel
theorem dX5_takeData_16 : decode cX5_takeData 16 = .ok (.invokevirtual 129, 3) := by decide +kernel
theorem dX5_takeData_19 : decode cX5_takeData 19 = .ok (.aload_n 1, 1) := by decide +kernel
theorem dX5_takeData_20 : decode cX5_takeData 20 = .ok (.invokevirtual 104, 3) := by decide +kernel
theorem dX5_takeData_23 : decode cX5_takeData 23 = .ok (.aload_n 0, 1) := by decide +kernel
theorem dX5_takeData_24 : decode cX5_takeData 24 = .ok (.getfield 42, 3) := by decide +kernel
theorem dX5_takeData_27 : decode cX5_takeData 27 = .ok (.iconst 1, 1) := by decide +kernel
theorem dX5_takeData_28 : decode cX5_takeData 28 = .ok (.iadd, 1) := by decide +kernel
theorem dX5_takeData_29 : decode cX5_takeData 29 = .ok (.bipush 7, 2) := by decide +kernel
theorem dX5_takeData_31 : decode cX5_takeData 31 = .ok (.iand, 1) := by decide +kernel
theorem dX5_takeData_32 : decode cX5_takeData 32 = .ok (.if_icmp .eq 19, 3) := by decide +kernel
theorem dX5_takeData_35 : decode cX5_takeData 35 = .ok (.aload_n 0, 1) := by decide +kernel
theorem dX5_takeData_36 : decode cX5_takeData 36 = .ok (.getfield 61, 3) := by decide +kernel
theorem dX5_takeData_39 : decode cX5_takeData 39 = .ok (.invokevirtual 78, 3) := by decide +kernel
theorem dX5_takeData_42 : decode cX5_takeData 42 = .ok (.iconst 4, 1) := by decide +kernel
theorem dX5_takeData_43 : decode cX5_takeData 43 = .ok (.aload_n 0, 1) := by decide +kernel
theorem dX5_takeData_44 : decode cX5_takeData 44 = .ok (.getfield 42, 3) := by decide +kernel
theorem dX5_takeData_47 : decode cX5_takeData 47 = .ok (.invokevirtual 86, 3) := by decide +kernel
theorem dX5_takeData_50 : decode cX5_takeData 50 = .ok (.return_, 1) := by decide +kernel
theorem dX5_takeData_51 : decode cX5_takeData 51 = .ok (.aload_n 0, 1) := by decide +kernel
theorem dX5_takeData_52 : decode cX5_takeData 52 = .ok (.aload_n 1, 1) := by decide +kernel
theorem dX5_takeData_53 : decode cX5_takeData 53 = .ok (.invokevirtual 104, 3) := by decide +kernel
theorem dX5_takeData_56 : decode cX5_takeData 56 = .ok (.putfield 42, 3) := by decide +kernel
theorem dX5_takeData_59 : decode cX5_takeData 59 = .ok (.aload_n 0, 1) := by decide +kernel
theorem dX5_takeData_60 : decode cX5_takeData 60 = .ok (.iconst 1, 1) := by decide +kernel
theorem dX5_takeData_61 : decode cX5_takeData 61 = .ok (.putfield 45, 3) := by decide +kernel
theorem dX5_takeData_64 : decode cX5_takeData 64 = .ok (.aload_n 0, 1) := by decide +kernel
theorem dX5_takeData_65 : decode cX5_takeData 65 = .ok (.getfield 61, 3) := by decide +kernel
theorem dX5_takeData_68 : decode cX5_takeData 68 = .ok (.invokevirtual 78, 3) := by decide +kernel
theorem dX5_takeData_71 : decode cX5_takeData 71 = .ok (.iconst 4, 1) := by decide +kernel
theorem dX5_takeData_72 : decode cX5_takeData 72 = .ok (.aload_n 0, 1) := by decide +kernel
theorem dX5_takeData_73 : decode cX5_takeData 73 = .ok (.getfield 42, 3) := by decide +kernel
theorem dX5_takeData_76 : decode cX5_takeData 76 = .ok (.invokevirtual 86, 3) := by decide +kernel
theorem dX5_takeData_79 : decode cX5_takeData 79 = .ok (.aload_n 0, 1) := by decide +kernel
theorem dX5_takeData_80 : decode cX5_takeData 80 = .ok (.getfield 32, 3) := by decide +kernel
theorem dX5_takeData_83 : decode cX5_takeData 83 = .ok (.iconst 2, 1) := by decide +kernel
theorem dX5_takeData_84 : decode cX5_takeData 84 = .ok (.if_icmp .ne 11, 3) := by decide +kernel
theorem dX5_takeData_87 : decode cX5_takeData 87 = .ok (.aload_n 0, 1) := by decide +kernel
theorem dX5_takeData_88 : decode cX5_takeData 88 = .ok (.aload_n 1, 1) := by decide +kernel
theorem dX5_takeData_89 : decode cX5_takeData 89 = .ok (.invokevirtual 154, 3) := by decide +kernel
theorem dX5_takeData_92 : decode cX5_takeData 92 = .ok (.goto 12, 3) := by decide +kernel
theorem dX5_takeData_95 : decode cX5_takeData 95 = .ok (.aload_n 0, 1) := by decide +kernel
theorem dX5_takeData_96 : decode cX5_takeData 96 = .ok (.aload_n 1, 1) := by decide +kernel
theorem dX5_takeData_97 : decode cX5_takeData 97 = .ok (.invokevirtual 157, 3) := by decide +kernel
theorem dX5_takeData_100 : decode cX5_takeData 100 = .ok (.aload_n 0, 1) := by decide +kernel
theorem dX5_takeData_101 : decode cX5_takeData 101 = .ok (.invokevirtual 160, 3) := by decide +kernel
theorem dX5_takeData_104 : decode cX5_takeData 104 = .ok (.return_, 1) := by decide +kernel
theorem dX5_doAsMaster_0 : decode cX5_doAsMaster 0 = .ok (.aload_n 1, 1) := by decide +kernel
theorem dX5_doAsMaster_1 : decode cX5_doAsMaster 1 = .ok (.invokevirtual 163, 3) := by decide +kernel
theorem dX5_doAsMaster_4 : decode cX5_doAsMaster 4 = .ok (.iconst 1, 1) := by decide +kernel
theorem dX5_doAsMaster_5 : decode cX5_doAsMaster 5 = .ok (.if_icmp .eq 4, 3) := by decide +kernel
theorem dX5_doAsMaster_8 : decode cX5_doAsMaster 8 = .ok (.return_, 1) := by decide +kernel
theorem dX5_doAsMaster_9 : decode cX5_doAsMaster 9 = .ok (.aload_n 1, 1) := by decide +kernel
theorem dX5_doAsMaster_10 : decode cX5_doAsMaster 10 = .ok (.iconst 0, 1) := by decide +kernel
theorem dX5_doAsMaster_11 : decode cX5_doAsMaster 11 = .ok (.invokevirtual 166, 3) := by decide +kernel
theorem dX5_doAsMaster_14 : decode cX5_doAsMaster 14 = .ok (.lookupswitch 102 #[(67, 50), (72, 74), (78, 50), (84, 94), (89, 67)], 50) := by decide +kernel
theorem dX5_doAsMaster_64 : decode cX5_doAsMaster 64 = .ok (.aload_n 0, 1) := by decide +kernel
theorem dX5_doAsMaster_65 : decode cX5_doAsMaster 65 = .ok (.getfield 12, 3) := by decide +kernel
theorem dX5_doAsMaster_68 : decode cX5_doAsMaster 68 = .ok (.invokevirtual 169, 3) := by decide +kernel
theorem dX5_doAsMaster_71 : decode cX5_doAsMaster 71 = .ok (.ifCond .eq 45, 3) := by decide +kernel
theorem dX5_doAsMaster_74 : decode cX5_doAsMaster 74 = .ok (.aload_n 0, 1) := by decide +kernel
theorem dX5_doAsMaster_75 : decode cX5_doAsMaster 75 = .ok (.invokevirtual 144, 3) := by decide +kernel
theorem dX5_doAsMaster_78 : decode cX5_doAsMaster 78 = .ok (.goto 38, 3) := by decide +kernel
theorem dX5_doAsMaster_81 : decode cX5_doAsMaster 81 = .ok (.aload_n 0, 1) := by decide +kernel
theorem dX5_doAsMaster_82 : decode cX5_doAsMaster 82 = .ok (.invokevirtual 172, 3) := by decide +kernel
theorem dX5_doAsMaster_85 : decode cX5_doAsMaster 85 = .ok (.goto 31, 3) := by decide +kernel
theorem dX5_doAsMaster_88 : decode cX5_doAsMaster 88 = .ok (.aload_n 0, 1) := by decide +kernel
theorem dX5_doAsMaster_89 : decode cX5_doAsMaster 89 = .ok (.getfield 61, 3) := by decide +kernel
theorem dX5_doAsMaster_92 : decode cX5_doAsMaster 92 = .ok (.invokevirtual 78, 3) := by decide +kernel
theorem dX5_doAsMaster_95 : decode cX5_doAsMaster 95 = .ok (.iconst 1, 1) := by decide +kernel
theorem dX5_doAsMaster_96 : decode cX5_doAsMaster 96 = .ok (.iconst 0, 1) := by decide +kernel
theorem dX5_doAsMaster_97 : decode cX5_doAsMaster 97 = .ok (.invokevirtual 86, 3) := by decide +kernel
theorem dX5_doAsMaster_100 : decode cX5_doAsMaster 100 = .ok (.aload_n 0, 1) := by decide +kernel
theorem dX5_doAsMaster_101 : decode cX5_doAsMaster 101 = .ok (.iconst 0, 1) := by decide +kernel
theorem dX5_doAsMaster_102 : decode cX5_doAsMaster 102 = .ok (.invokevirtual 71, 3) := by decide +kernel
theorem dX5_doAsMaster_105 : decode cX5_doAsMaster 105 = .ok (.goto 11, 3) := by decide +kernel
theorem dX5_doAsMaster_108 : decode cX5_doAsMaster 108 = .ok (.aload_n 0, 1) := by decide +kernel
theorem dX5_doAsMaster_109 : decode cX5_doAsMaster 109 = .ok (.iconst 3, 1) := by decide +kernel
theorem dX5_doAsMaster_110 : decode cX5_doAsMaster 110 = .ok (.putfield 32, 3) := by decide +kernel
theorem dX5_doAsMaster_113 : decode cX5_doAsMaster 113 = .ok (.goto 3, 3) := by decide +kernel
theorem dX5_doAsMaster_116 : decode cX5_doAsMaster 116 = .ok (.return_, 1) := by decide +kernel
theorem dX5_doAsSlave_0 : decode cX5_doAsSlave 0 = .ok (.aload_n 1, 1) := by decide +kernel
theorem dX5_doAsSlave_1 : decode cX5_doAsSlave 1 = .ok (.invokevirtual 163, 3) := by decide +kernel
theorem dX5_doAsSlave_4 : decode cX5_doAsSlave 4 = .ok (.istore_n 2, 1) := by decide +kernel
theorem dX5_doAsSlave_5 : decode cX5_doAsSlave 5 = .ok (.aload_n 1, 1) := by decide +kernel
theorem dX5_doAsSlave_6 : decode cX5_doAsSlave 6 = .ok (.iconst 0, 1) := by decide +kernel
theorem dX5_doAsSlave_7 : decode cX5_doAsSlave 7 = .ok (.invokevirtual 166, 3) := by decide +kernel
theorem dX5_doAsSlave_10 : decode cX5_doAsSlave 10 = .ok (.istore_n 3, 1) := by decide +kernel
theorem dX5_doAsSlave_11 : decode cX5_doAsSlave 11 = .ok (.iload_n 3, 1) := by decide +kernel
theorem dX5_doAsSlave_12 : decode cX5_doAsSlave 12 = .ok (.bipush 83, 2) := by decide +kernel
theorem dX5_doAsSlave_14 : decode cX5_doAsSlave 14 = .ok (.if_icmp .ne 25, 3) := by decide +kernel
theorem dX5_doAsSlave_17 : decode cX5_doAsSlave 17 = .ok (.iload_n 2, 1) := by decide +kernel
theorem dX5_doAsSlave_18 : decode cX5_doAsSlave 18 = .ok (.iconst 3, 1) := by decide +kernel
theorem dX5_doAsSlave_19 : decode cX5_doAsSlave 19 = .ok (.if_icmp .ne 20, 3) := by decide +kernel
theorem dX5_doAsSlave_22 : decode cX5_doAsSlave 22 = .ok (.aload_n 0, 1) := by decide +kernel
theorem dX5_doAsSlave_23 : decode cX5_doAsSlave 23 = .ok (.aload_n 1, 1) := by decide +kernel
theorem dX5_doAsSlave_24 : decode cX5_doAsSlave 24 = .ok (.iconst 1, 1) := by decide +kernel
theorem dX5_doAsSlave_25 : decode cX5_doAsSlave 25 = .ok (.invokevirtual 166, 3) := by decide +kernel
theorem dX5_doAsSlave_28 : decode cX5_doAsSlave 28 = .ok (.aload_n 1, 1) := by decide +kernel
theorem dX5_doAsSlave_29 : decode cX5_doAsSlave 29 = .ok (.iconst 2, 1) := by decide +kernel
theorem dX5_doAsSlave_30 : decode cX5_doAsSlave 30 = .ok (.invokevirtual 166, 3) := by decide +kernel
theorem dX5_doAsSlave_33 : decode cX5_doAsSlave 33 = .ok (.invokevirtual 175, 3) := by decide +kernel
theorem dX5_doAsSlave_36 : decode cX5_doAsSlave 36 = .ok (.goto 83, 3) := by decide +kernel
theorem dX5_doAsSlave_39 : decode cX5_doAsSlave 39 = .ok (.iload_n 3, 1) := by decide +kernel
theorem dX5_doAsSlave_40 : decode cX5_doAsSlave 40 = .ok (.bipush 68, 2) := by decide +kernel
theorem dX5_doAsSlave_42 : decode cX5_doAsSlave 42 = .ok (.if_icmp .ne 24, 3) := by decide +kernel
theorem dX5_doAsSlave_45 : decode cX5_doAsSlave 45 = .ok (.aload_n 0, 1) := by decide +kernel
theorem dX5_doAsSlave_46 : decode cX5_doAsSlave 46 = .ok (.getfield 28, 3) := by decide +kernel
theorem dX5_doAsSlave_49 : decode cX5_doAsSlave 49 = .ok (.getfield 178, 3) := by decide +kernel
theorem dX5_doAsSlave_52 : decode cX5_doAsSlave 52 = .ok (.ifCond .eq 67, 3) := by decide +kernel
theorem dX5_doAsSlave_55 : decode cX5_doAsSlave 55 = .ok (.aload_n 0, 1) := by decide +kernel
theorem dX5_doAsSlave_56 : decode cX5_doAsSlave 56 = .ok (.getfield 28, 3) := by decide +kernel
theorem dX5_doAsSlave_59 : decode cX5_doAsSlave 59 = .ok (.aload_n 1, 1) := by decide +kernel
theorem dX5_doAsSlave_60 : decode cX5_doAsSlave 60 = .ok (.invokevirtual 181, 3) := by decide +kernel
theorem dX5_doAsSlave_63 : decode cX5_doAsSlave 63 = .ok (.goto 56, 3) := by decide +kernel
theorem dX5_doAsSlave_66 : decode cX5_doAsSlave 66 = .ok (.iload_n 3, 1) := by decide +kernel
theorem dX5_doAsSlave_67 : decode cX5_doAsSlave 67 = .ok (.bipush 72, 2) := by decide +kernel
theorem dX5_doAsSlave_69 : decode cX5_doAsSlave 69 = .ok (.if_icmp .ne 50, 3) := by decide +kernel
theorem dX5_doAsSlave_72 : decode cX5_doAsSlave 72 = .ok (.iload_n 2, 1) := by decide +kernel
theorem dX5_doAsSlave_73 : decode cX5_doAsSlave 73 = .ok (.iconst 1, 1) := by decide +kernel
theorem dX5_doAsSlave_74 : decode cX5_doAsSlave 74 = .ok (.if_icmp .ne 45, 3) := by decide +kernel
theorem dX5_doAsSlave_77 : decode cX5_doAsSlave 77 = .ok (.aload_n 0, 1) := by decide +kernel
theorem dX5_doAsSlave_78 : decode cX5_doAsSlave 78 = .ok (.getfield 12, 3) := by decide +kernel
theorem dX5_doAsSlave_81 : decode cX5_doAsSlave 81 = .ok (.invokevirtual 184, 3) := by decide +kernel
theorem dX5_doAsSlave_84 : decode cX5_doAsSlave 84 = .ok (.ifCond .ne 16, 3) := by decide +kernel
theorem dX5_doAsSlave_87 : decode cX5_doAsSlave 87 = .ok (.aload_n 0, 1) := by decide +kernel
theorem dX5_doAsSlave_88 : decode cX5_doAsSlave 88 = .ok (.getfield 21, 3) := by decide +kernel
theorem dX5_doAsSlave_91 : decode cX5_doAsSlave 91 = .ok (.bipush 72, 2) := by decide +kernel
theorem dX5_doAsSlave_93 : decode cX5_doAsSlave 93 = .ok (.invokevirtual 187, 3) := by decide +kernel
theorem dX5_doAsSlave_96 : decode cX5_doAsSlave 96 = .ok (.pop, 1) := by decide +kernel
theorem dX5_doAsSlave_97 : decode cX5_doAsSlave 97 = .ok (.goto 22, 3) := by decide +kernel
theorem dX5_doAsSlave_100 : decode cX5_doAsSlave 100 = .ok (.aload_n 0, 1) := by decide +kernel
theorem dX5_doAsSlave_101 : decode cX5_doAsSlave 101 = .ok (.getfield 21, 3) := by decide +kernel
theorem dX5_doAsSlave_104 : decode cX5_doAsSlave 104 = .ok (.bipush 84, 2) := by decide +kernel
theorem dX5_doAsSlave_106 : decode cX5_doAsSlave 106 = .ok (.invokevirtual 187, 3) := by decide +kernel
theorem dX5_doAsSlave_109 : decode cX5_doAsSlave 109 = .ok (.pop, 1) := by decide +kernel
theorem dX5_doAsSlave_110 : decode cX5_doAsSlave 110 = .ok (.aload_n 0, 1) := by decide +kernel
theorem dX5_doAsSlave_111 : decode cX5_doAsSlave 111 = .ok (.iconst 2, 1) := by decide +kernel
theorem dX5_doAsSlave_112 : decode cX5_doAsSlave 112 = .ok (.putfield 32, 3) := by decide +kernel
theorem dX5_doAsSlave_115 : decode cX5_doAsSlave 115 = .ok (.aload_n 0, 1) := by decide +kernel
theorem dX5_doAsSlave_116 : decode cX5_doAsSlave 116 = .ok (.invokevirtual 144, 3) := by decide +kernel
theorem dX5_doAsSlave_119 : decode cX5_doAsSlave 119 = .ok (.return_, 1) := by decide +kernel
theorem dX5_takeOffer_0 : decode cX5_takeOffer 0 = .ok (.iload_n 2, 1) := by decide +kernel
theorem dX5_takeOffer_1 : decode cX5_takeOffer 1 = .ok (.bipush 100, 2) := by decide +kernel
theorem dX5_takeOffer_3 : decode cX5_takeOffer 3 = .ok (.if_icmp .le 4, 3) := by decide +kernel
theorem dX5_takeOffer_6 : decode cX5_takeOffer 6 = .ok (.return_, 1) := by decide +kernel
theorem dX5_takeOffer_7 : decode cX5_takeOffer 7 = .ok (.aload_n 0, 1) := by decide +kernel
theorem dX5_takeOffer_8 : decode cX5_takeOffer 8 = .ok (.getfield 12, 3) := by decide +kernel
theorem dX5_takeOffer_11 : decode cX5_takeOffer 11 = .ok (.iload_n 1, 1) := by decide +kernel
theorem dX5_takeOffer_12 : decode cX5_takeOffer 12 = .ok (.invokevirtual 189, 3) := by decide +kernel
theorem dX5_takeOffer_15 : decode cX5_takeOffer 15 = .ok (.ifCond .eq 16, 3) := by decide +kernel
theorem dX5_takeOffer_18 : decode cX5_takeOffer 18 = .ok (.aload_n 0, 1) := by decide +kernel
theorem dX5_takeOffer_19 : decode cX5_takeOffer 19 = .ok (.getfield 21, 3) := by decide +kernel
theorem dX5_takeOffer_22 : decode cX5_takeOffer 22 = .ok (.bipush 78, 2) := by decide +kernel
theorem dX5_takeOffer_24 : decode cX5_takeOffer 24 = .ok (.invokevirtual 187, 3) := by decide +kernel
theorem dX5_takeOffer_27 : decode cX5_takeOffer 27 = .ok (.pop, 1) := by decide +kernel
theorem dX5_takeOffer_28 : decode cX5_takeOffer 28 = .ok (.goto 22, 3) := by decide +kernel
theorem dX5_takeOffer_31 : decode cX5_takeOffer 31 = .ok (.aload_n 0, 1) := by decide +kernel
theorem dX5_takeOffer_32 : decode cX5_takeOffer 32 = .ok (.getfield 21, 3) := by decide +kernel
theorem dX5_takeOffer_35 : decode cX5_takeOffer 35 = .ok (.bipush 89, 2) := by decide +kernel
theorem dX5_takeOffer_37 : decode cX5_takeOffer 37 = .ok (.invokevirtual 187, 3) := by decide +kernel
theorem dX5_takeOffer_40 : decode cX5_takeOffer 40 = .ok (.pop, 1) := by decide +kernel
theorem dX5_takeOffer_41 : decode cX5_takeOffer 41 = .ok (.aload_n 0, 1) := by decide +kernel
theorem dX5_takeOffer_42 : decode cX5_takeOffer 42 = .ok (.getfield 28, 3) := by decide +kernel
theorem dX5_takeOffer_45 : decode cX5_takeOffer 45 = .ok (.iload_n 1, 1) := by decide +kernel
theorem dX5_takeOffer_46 : decode cX5_takeOffer 46 = .ok (.iload_n 2, 1) := by decide +kernel
theorem dX5_takeOffer_47 : decode cX5_takeOffer 47 = .ok (.invokevirtual 192, 3) := by decide +kernel
theorem dX5_takeOffer_50 : decode cX5_takeOffer 50 = .ok (.return_, 1) := by decide +kernel
theorem dX5_executeWhatIsWhole_0 : decode cX5_executeWhatIsWhole 0 = .ok (.aload_n 0, 1) := by decide +kernel
theorem dX5_executeWhatIsWhole_1 : decode cX5_executeWhatIsWhole 1 = .ok (.getfield 28, 3) := by decide +kernel
theorem dX5_executeWhatIsWhole_4 : decode cX5_executeWhatIsWhole 4 = .ok (.invokevirtual 194, 3) := by decide +kernel
theorem dX5_executeWhatIsWhole_7 : decode cX5_executeWhatIsWhole 7 = .ok (.ifCond .eq 34, 3) := by decide +kernel
theorem dX5_executeWhatIsWhole_10 : decode cX5_executeWhatIsWhole 10 = .ok (.aload_n 0, 1) := by decide +kernel
theorem dX5_executeWhatIsWhole_11 : decode cX5_executeWhatIsWhole 11 = .ok (.getfield 12, 3) := by decide +kernel
theorem dX5_executeWhatIsWhole_14 : decode cX5_executeWhatIsWhole 14 = .ok (.aload_n 0, 1) := by decide +kernel
theorem dX5_executeWhatIsWhole_15 : decode cX5_executeWhatIsWhole 15 = .ok (.getfield 28, 3) := by decide +kernel
theorem dX5_executeWhatIsWhole_18 : decode cX5_executeWhatIsWhole 18 = .ok (.invokevirtual 197, 3) := by decide +kernel
theorem dX5_executeWhatIsWhole_21 : decode cX5_executeWhatIsWhole 21 = .ok (.invokevirtual 201, 3) := by decide +kernel
theorem dX5_executeWhatIsWhole_24 : decode cX5_executeWhatIsWhole 24 = .ok (.aload_n 0, 1) := by decide +kernel
theorem dX5_executeWhatIsWhole_25 : decode cX5_executeWhatIsWhole 25 = .ok (.getfield 28, 3) := by decide +kernel
theorem dX5_executeWhatIsWhole_28 : decode cX5_executeWhatIsWhole 28 = .ok (.invokevirtual 68, 3) := by decide +kernel
theorem dX5_executeWhatIsWhole_31 : decode cX5_executeWhatIsWhole 31 = .ok (.aload_n 0, 1) := by decide +kernel
theorem dX5_executeWhatIsWhole_32 : decode cX5_executeWhatIsWhole 32 = .ok (.getfield 21, 3) := by decide +kernel
theorem dX5_executeWhatIsWhole_35 : decode cX5_executeWhatIsWhole 35 = .ok (.bipush 67, 2) := by decide +kernel
theorem dX5_executeWhatIsWhole_37 : decode cX5_executeWhatIsWhole 37 = .ok (.invokevirtual 187, 3) := by decide +kernel
theorem dX5_executeWhatIsWhole_40 : decode cX5_executeWhatIsWhole 40 = .ok (.pop, 1) := by decide +kernel
theorem dX5_executeWhatIsWhole_41 : decode cX5_executeWhatIsWhole 41 = .ok (.return_, 1) := by decide +kernel
theorem dX5_goOn_0 : decode cX5_goOn 0 = .ok (.aload_n 0, 1) := by decide +kernel
theorem dX5_goOn_1 : decode cX5_goOn 1 = .ok (.getfield 12, 3) := by decide +kernel
theorem dX5_goOn_4 : decode cX5_goOn 4 = .ok (.invokevirtual 205, 3) := by decide +kernel
theorem dX5_goOn_7 : decode cX5_goOn 7 = .ok (.astore_n 1, 1) := by decide +kernel
theorem dX5_goOn_8 : decode cX5_goOn 8 = .ok (.aload_n 1, 1) := by decide +kernel
theorem dX5_goOn_9 : decode cX5_goOn 9 = .ok (.ifnonnull 14, 3) := by decide +kernel
theorem dX5_goOn_12 : decode cX5_goOn 12 = .ok (.aload_n 0, 1) := by decide +kernel
theorem dX5_goOn_13 : decode cX5_goOn 13 = .ok (.getfield 21, 3) := by decide +kernel
theorem dX5_goOn_16 : decode cX5_goOn 16 = .ok (.bipush 72, 2) := by decide +kernel
theorem dX5_goOn_18 : decode cX5_goOn 18 = .ok (.invokevirtual 187, 3) := by decide +kernel
theorem dX5_goOn_21 : decode cX5_goOn 21 = .ok (.pop, 1) := by decide +kernel
theorem dX5_goOn_22 : decode cX5_goOn 22 = .ok (.return_, 1) := by decide +kernel
theorem dX5_goOn_23 : decode cX5_goOn 23 = .ok (.aload_n 0, 1) := by decide +kernel
theorem dX5_goOn_24 : decode cX5_goOn 24 = .ok (.getfield 21, 3) := by decide +kernel
theorem dX5_goOn_27 : decode cX5_goOn 27 = .ok (.bipush 83, 2) := by decide +kernel
theorem dX5_goOn_29 : decode cX5_goOn 29 = .ok (.invokevirtual 187, 3) := by decide +kernel
theorem dX5_goOn_32 : decode cX5_goOn 32 = .ok (.astore_n 2, 1) := by decide +kernel
theorem dX5_goOn_33 : decode cX5_goOn 33 = .ok (.aload_n 2, 1) := by decide +kernel
theorem dX5_goOn_34 : decode cX5_goOn 34 = .ok (.aload_n 1, 1) := by decide +kernel
theorem dX5_goOn_35 : decode cX5_goOn 35 = .ok (.getfield 208, 3) := by decide +kernel
theorem dX5_goOn_38 : decode cX5_goOn 38 = .ok (.invokevirtual 212, 3) := by decide +kernel
theorem dX5_goOn_41 : decode cX5_goOn 41 = .ok (.aload_n 2, 1) := by decide +kernel
theorem dX5_goOn_42 : decode cX5_goOn 42 = .ok (.aload_n 1, 1) := by decide +kernel
theorem dX5_goOn_43 : decode cX5_goOn 43 = .ok (.getfield 217, 3) := by decide +kernel
theorem dX5_goOn_46 : decode cX5_goOn 46 = .ok (.arraylength, 1) := by decide +kernel
theorem dX5_goOn_47 : decode cX5_goOn 47 = .ok (.invokevirtual 212, 3) := by decide +kernel
theorem dX5_goOn_50 : decode cX5_goOn 50 = .ok (.return_, 1) := by decide +kernel
theorem dX5_addFile_0 : decode cX5_addFile 0 = .ok (.aload_n 0, 1) := by decide +kernel
theorem dX5_addFile_1 : decode cX5_addFile 1 = .ok (.getfield 12, 3) := by decide +kernel
theorem dX5_addFile_4 : decode cX5_addFile 4 = .ok (.invokevirtual 205, 3) := by decide +kernel
theorem dX5_addFile_7 : decode cX5_addFile 7 = .ok (.astore_n 1, 1) := by decide +kernel
theorem dX5_addFile_8 : decode cX5_addFile 8 = .ok (.aload_n 1, 1) := by decide +kernel
theorem dX5_addFile_9 : decode cX5_addFile 9 = .ok (.ifnonnull 4, 3) := by decide +kernel
theorem dX5_addFile_12 : decode cX5_addFile 12 = .ok (.return_, 1) := by decide +kernel
theorem dX5_addFile_13 : decode cX5_addFile 13 = .ok (.iconst 0, 1) := by decide +kernel
theorem dX5_addFile_14 : decode cX5_addFile 14 = .ok (.istore_n 2, 1) := by decide +kernel
theorem dX5_addFile_15 : decode cX5_addFile 15 = .ok (.iload_n 2, 1) := by decide +kernel
theorem dX5_addFile_16 : decode cX5_addFile 16 = .ok (.aload_n 1, 1) := by decide +kernel
theorem dX5_addFile_17 : decode cX5_addFile 17 = .ok (.getfield 217, 3) := by decide +kernel
theorem dX5_addFile_20 : decode cX5_addFile 20 = .ok (.arraylength, 1) := by decide +kernel
theorem dX5_addFile_21 : decode cX5_addFile 21 = .ok (.if_icmp .ge 60, 3) := by decide +kernel
theorem dX5_addFile_24 : decode cX5_addFile 24 = .ok (.aload_n 0, 1) := by decide +kernel
theorem dX5_addFile_25 : decode cX5_addFile 25 = .ok (.getfield 21, 3) := by decide +kernel
theorem dX5_addFile_28 : decode cX5_addFile 28 = .ok (.bipush 68, 2) := by decide +kernel
theorem dX5_addFile_30 : decode cX5_addFile 30 = .ok (.invokevirtual 187, 3) := by decide +kernel
theorem dX5_addFile_33 : decode cX5_addFile 33 = .ok (.astore_n 3, 1) := by decide +kernel
theorem dX5_addFile_34 : decode cX5_addFile 34 = .ok (.iload_n 2, 1) := by decide +kernel
theorem dX5_addFile_35 : decode cX5_addFile 35 = .ok (.bipush 30, 2) := by decide +kernel
theorem dX5_addFile_37 : decode cX5_addFile 37 = .ok (.iadd, 1) := by decide +kernel
theorem dX5_addFile_38 : decode cX5_addFile 38 = .ok (.aload_n 1, 1) := by decide +kernel
theorem dX5_addFile_39 : decode cX5_addFile 39 = .ok (.getfield 217, 3) := by decide +kernel
theorem dX5_addFile_42 : decode cX5_addFile 42 = .ok (.arraylength, 1) := by decide +kernel
theorem dX5_addFile_43 : decode cX5_addFile 43 = .ok (.invokestatic 221, 3) := by decide +kernel
theorem dX5_addFile_46 : decode cX5_addFile 46 = .ok (.istore 4, 2) := by decide +kernel
theorem dX5_addFile_48 : decode cX5_addFile 48 = .ok (.iload_n 2, 1) := by decide +kernel
theorem dX5_addFile_49 : decode cX5_addFile 49 = .ok (.istore 5, 2) := by decide +kernel
theorem dX5_addFile_51 : decode cX5_addFile 51 = .ok (.iload 5, 2) := by decide +kernel
theorem dX5_addFile_53 : decode cX5_addFile 53 = .ok (.iload 4, 2) := by decide +kernel
theorem dX5_addFile_55 : decode cX5_addFile 55 = .ok (.if_icmp .ge 20, 3) := by decide +kernel
theorem dX5_addFile_58 : decode cX5_addFile 58 = .ok (.aload_n 3, 1) := by decide +kernel
theorem dX5_addFile_59 : decode cX5_addFile 59 = .ok (.aload_n 1, 1) := by decide +kernel
theorem dX5_addFile_60 : decode cX5_addFile 60 = .ok (.getfield 217, 3) := by decide +kernel
theorem dX5_addFile_63 : decode cX5_addFile 63 = .ok (.iload 5, 2) := by decide +kernel
theorem dX5_addFile_65 : decode cX5_addFile 65 = .ok (.iaload, 1) := by decide +kernel
theorem dX5_addFile_66 : decode cX5_addFile 66 = .ok (.invokevirtual 212, 3) := by decide +kernel
theorem dX5_addFile_69 : decode cX5_addFile 69 = .ok (.iinc 5 1, 3) := by decide +kernel
theorem dX5_addFile_72 : decode cX5_addFile 72 = .ok (.goto (-21), 3) := by decide +kernel
theorem dX5_addFile_75 : decode cX5_addFile 75 = .ok (.iinc 2 30, 3) := by decide +kernel
theorem dX5_addFile_78 : decode cX5_addFile 78 = .ok (.goto (-63), 3) := by decide +kernel
theorem dX5_addFile_81 : decode cX5_addFile 81 = .ok (.return_, 1) := by decide +kernel
