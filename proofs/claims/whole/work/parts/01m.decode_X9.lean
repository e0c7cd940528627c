theorem dX9_tickOf_95 : decode cX9_tickOf 95 = .ok (.iaload, 1) := by decide +kernel
theorem dX9_tickOf_96 : decode cX9_tickOf 96 = .ok (.iconst 1, 1) := by decide +kernel
theorem dX9_tickOf_97 : decode cX9_tickOf 97 = .ok (.iadd, 1) := by decide +kernel
theorem dX9_tickOf_98 : decode cX9_tickOf 98 = .ok (.iastore, 1) := by decide +kernel
theorem dX9_tickOf_99 : decode cX9_tickOf 99 = .ok (.aload_n 0, 1) := by decide +kernel
theorem dX9_tickOf_100 : decode cX9_tickOf 100 = .ok (.getfield 105, 3) := by decide +kernel
theorem dX9_tickOf_103 : decode cX9_tickOf 103 = .ok (.iload_n 1, 1) := by decide +kernel
theorem dX9_tickOf_104 : decode cX9_tickOf 104 = .ok (.iconst 0, 1) := by decide +kernel
theorem dX9_tickOf_105 : decode cX9_tickOf 105 = .ok (.iastore, 1) := by decide +kernel
theorem dX9_tickOf_106 : decode cX9_tickOf 106 = .ok (.aload_n 0, 1) := by decide +kernel
theorem dX9_tickOf_107 : decode cX9_tickOf 107 = .ok (.getfield 56, 3) := by decide +kernel
theorem dX9_tickOf_110 : decode cX9_tickOf 110 = .ok (.iload_n 1, 1) := by decide +kernel
theorem dX9_tickOf_111 : decode cX9_tickOf 111 = .ok (.iaload, 1) := by decide +kernel
theorem dX9_tickOf_112 : decode cX9_tickOf 112 = .ok (.iconst 1, 1) := by decide +kernel
theorem dX9_tickOf_113 : decode cX9_tickOf 113 = .ok (.if_icmp .ne 23, 3) := by decide +kernel
theorem dX9_tickOf_116 : decode cX9_tickOf 116 = .ok (.aload_n 0, 1) := by decide +kernel
theorem dX9_tickOf_117 : decode cX9_tickOf 117 = .ok (.iload_n 1, 1) := by decide +kernel
theorem dX9_tickOf_118 : decode cX9_tickOf 118 = .ok (.bipush 7, 2) := by decide +kernel
theorem dX9_tickOf_120 : decode cX9_tickOf 120 = .ok (.aload_n 0, 1) := by decide +kernel
theorem dX9_tickOf_121 : decode cX9_tickOf 121 = .ok (.getfield 38, 3) := by decide +kernel
theorem dX9_tickOf_124 : decode cX9_tickOf 124 = .ok (.iload_n 1, 1) := by decide +kernel
theorem dX9_tickOf_125 : decode cX9_tickOf 125 = .ok (.iaload, 1) := by decide +kernel
theorem dX9_tickOf_126 : decode cX9_tickOf 126 = .ok (.iconst 1, 1) := by decide +kernel
theorem dX9_tickOf_127 : decode cX9_tickOf 127 = .ok (.isub, 1) := by decide +kernel
theorem dX9_tickOf_128 : decode cX9_tickOf 128 = .ok (.bipush 8, 2) := by decide +kernel
theorem dX9_tickOf_130 : decode cX9_tickOf 130 = .ok (.irem, 1) := by decide +kernel
theorem dX9_tickOf_131 : decode cX9_tickOf 131 = .ok (.invokevirtual 172, 3) := by decide +kernel
theorem dX9_tickOf_134 : decode cX9_tickOf 134 = .ok (.iconst 1, 1) := by decide +kernel
theorem dX9_tickOf_135 : decode cX9_tickOf 135 = .ok (.ireturn, 1) := by decide +kernel
theorem dX9_tickOf_136 : decode cX9_tickOf 136 = .ok (.aload_n 0, 1) := by decide +kernel
theorem dX9_tickOf_137 : decode cX9_tickOf 137 = .ok (.iload_n 1, 1) := by decide +kernel
theorem dX9_tickOf_138 : decode cX9_tickOf 138 = .ok (.invokevirtual 192, 3) := by decide +kernel
theorem dX9_tickOf_141 : decode cX9_tickOf 141 = .ok (.aload_n 0, 1) := by decide +kernel
theorem dX9_tickOf_142 : decode cX9_tickOf 142 = .ok (.getfield 75, 3) := by decide +kernel
theorem dX9_tickOf_145 : decode cX9_tickOf 145 = .ok (.iload_n 1, 1) := by decide +kernel
theorem dX9_tickOf_146 : decode cX9_tickOf 146 = .ok (.iaload, 1) := by decide +kernel
theorem dX9_tickOf_147 : decode cX9_tickOf 147 = .ok (.ireturn, 1) := by decide +kernel
theorem dX9_tick_0 : decode cX9_tick 0 = .ok (.aload_n 0, 1) := by decide +kernel
theorem dX9_tick_1 : decode cX9_tick 1 = .ok (.iconst 0, 1) := by decide +kernel
theorem dX9_tick_2 : decode cX9_tick 2 = .ok (.invokevirtual 208, 3) := by decide +kernel
theorem dX9_tick_5 : decode cX9_tick 5 = .ok (.istore_n 1, 1) := by decide +kernel
theorem dX9_tick_6 : decode cX9_tick 6 = .ok (.iload_n 1, 1) := by decide +kernel
theorem dX9_tick_7 : decode cX9_tick 7 = .ok (.aload_n 0, 1) := by decide +kernel
theorem dX9_tick_8 : decode cX9_tick 8 = .ok (.iconst 1, 1) := by decide +kernel
theorem dX9_tick_9 : decode cX9_tick 9 = .ok (.invokevirtual 208, 3) := by decide +kernel
theorem dX9_tick_12 : decode cX9_tick 12 = .ok (.iadd, 1) := by decide +kernel
theorem dX9_tick_13 : decode cX9_tick 13 = .ok (.ireturn, 1) := by decide +kernel
theorem dX9_crash_0 : decode cX9_crash 0 = .ok (.iload_n 1, 1) := by decide +kernel
theorem dX9_crash_1 : decode cX9_crash 1 = .ok (.invokestatic 121, 3) := by decide +kernel
theorem dX9_crash_4 : decode cX9_crash 4 = .ok (.ifCond .ne 5, 3) := by decide +kernel
theorem dX9_crash_7 : decode cX9_crash 7 = .ok (.iconst 0, 1) := by decide +kernel
theorem dX9_crash_8 : decode cX9_crash 8 = .ok (.ireturn, 1) := by decide +kernel
theorem dX9_crash_9 : decode cX9_crash 9 = .ok (.aload_n 0, 1) := by decide +kernel
theorem dX9_crash_10 : decode cX9_crash 10 = .ok (.iload_n 1, 1) := by decide +kernel
theorem dX9_crash_11 : decode cX9_crash 11 = .ok (.iconst 0, 1) := by decide +kernel
theorem dX9_crash_12 : decode cX9_crash 12 = .ok (.invokevirtual 176, 3) := by decide +kernel
theorem dX9_crash_15 : decode cX9_crash 15 = .ok (.iconst 1, 1) := by decide +kernel
theorem dX9_crash_16 : decode cX9_crash 16 = .ok (.ireturn, 1) := by decide +kernel
theorem dX9_settle_0 : decode cX9_settle 0 = .ok (.iload_n 1, 1) := by decide +kernel
theorem dX9_settle_1 : decode cX9_settle 1 = .ok (.iconst 1, 1) := by decide +kernel
theorem dX9_settle_2 : decode cX9_settle 2 = .ok (.if_icmp .lt 10, 3) := by decide +kernel
theorem dX9_settle_5 : decode cX9_settle 5 = .ok (.iload_n 1, 1) := by decide +kernel
theorem dX9_settle_6 : decode cX9_settle 6 = .ok (.sipush 200, 3) := by decide +kernel
theorem dX9_settle_9 : decode cX9_settle 9 = .ok (.if_icmp .le 5, 3) := by decide +kernel
theorem dX9_settle_12 : decode cX9_settle 12 = .ok (.iconst (-1), 1) := by decide +kernel
theorem dX9_settle_13 : decode cX9_settle 13 = .ok (.ireturn, 1) := by decide +kernel
theorem dX9_settle_14 : decode cX9_settle 14 = .ok (.iconst 0, 1) := by decide +kernel
theorem dX9_settle_15 : decode cX9_settle 15 = .ok (.istore_n 2, 1) := by decide +kernel
theorem dX9_settle_16 : decode cX9_settle 16 = .ok (.iconst 0, 1) := by decide +kernel
theorem dX9_settle_17 : decode cX9_settle 17 = .ok (.istore_n 3, 1) := by decide +kernel
theorem dX9_settle_18 : decode cX9_settle 18 = .ok (.iload_n 2, 1) := by decide +kernel
theorem dX9_settle_19 : decode cX9_settle 19 = .ok (.iload_n 1, 1) := by decide +kernel
theorem dX9_settle_20 : decode cX9_settle 20 = .ok (.if_icmp .ge 53, 3) := by decide +kernel
theorem dX9_settle_23 : decode cX9_settle 23 = .ok (.aload_n 0, 1) := by decide +kernel
theorem dX9_settle_24 : decode cX9_settle 24 = .ok (.getfield 44, 3) := by decide +kernel
theorem dX9_settle_27 : decode cX9_settle 27 = .ok (.iconst 0, 1) := by decide +kernel
theorem dX9_settle_28 : decode cX9_settle 28 = .ok (.iaload, 1) := by decide +kernel
theorem dX9_settle_29 : decode cX9_settle 29 = .ok (.aload_n 0, 1) := by decide +kernel
theorem dX9_settle_30 : decode cX9_settle 30 = .ok (.getfield 44, 3) := by decide +kernel
theorem dX9_settle_33 : decode cX9_settle 33 = .ok (.iconst 1, 1) := by decide +kernel
theorem dX9_settle_34 : decode cX9_settle 34 = .ok (.iaload, 1) := by decide +kernel
theorem dX9_settle_35 : decode cX9_settle 35 = .ok (.iadd, 1) := by decide +kernel
theorem dX9_settle_36 : decode cX9_settle 36 = .ok (.ifCond .le 37, 3) := by decide +kernel
theorem dX9_settle_39 : decode cX9_settle 39 = .ok (.aload_n 0, 1) := by decide +kernel
theorem dX9_settle_40 : decode cX9_settle 40 = .ok (.getfield 44, 3) := by decide +kernel
theorem dX9_settle_43 : decode cX9_settle 43 = .ok (.iload_n 3, 1) := by decide +kernel
theorem dX9_settle_44 : decode cX9_settle 44 = .ok (.iaload, 1) := by decide +kernel
theorem dX9_settle_45 : decode cX9_settle 45 = .ok (.ifCond .ne 9, 3) := by decide +kernel
theorem dX9_settle_48 : decode cX9_settle 48 = .ok (.iconst 1, 1) := by decide +kernel
theorem dX9_settle_49 : decode cX9_settle 49 = .ok (.iload_n 3, 1) := by decide +kernel
theorem dX9_settle_50 : decode cX9_settle 50 = .ok (.isub, 1) := by decide +kernel
theorem dX9_settle_51 : decode cX9_settle 51 = .ok (.goto 4, 3) := by decide +kernel
theorem dX9_settle_54 : decode cX9_settle 54 = .ok (.iload_n 3, 1) := by decide +kernel
theorem dX9_settle_55 : decode cX9_settle 55 = .ok (.istore_n 3, 1) := by decide +kernel
theorem dX9_settle_56 : decode cX9_settle 56 = .ok (.aload_n 0, 1) := by decide +kernel
theorem dX9_settle_57 : decode cX9_settle 57 = .ok (.iload_n 3, 1) := by decide +kernel
theorem dX9_settle_58 : decode cX9_settle 58 = .ok (.invokevirtual 211, 3) := by decide +kernel
theorem dX9_settle_61 : decode cX9_settle 61 = .ok (.istore 4, 2) := by decide +kernel
theorem dX9_settle_63 : decode cX9_settle 63 = .ok (.iinc 2 1, 3) := by decide +kernel
theorem dX9_settle_66 : decode cX9_settle 66 = .ok (.iconst 1, 1) := by decide +kernel
theorem dX9_settle_67 : decode cX9_settle 67 = .ok (.iload_n 3, 1) := by decide +kernel
theorem dX9_settle_68 : decode cX9_settle 68 = .ok (.isub, 1) := by decide +kernel
theorem dX9_settle_69 : decode cX9_settle 69 = .ok (.istore_n 3, 1) := by decide +kernel
theorem dX9_settle_70 : decode cX9_settle 70 = .ok (.goto (-52), 3) := by decide +kernel
theorem dX9_settle_73 : decode cX9_settle 73 = .ok (.iload_n 2, 1) := by decide +kernel
theorem dX9_settle_74 : decode cX9_settle 74 = .ok (.ireturn, 1) := by decide +kernel
theorem dX9_waiting_0 : decode cX9_waiting 0 = .ok (.iload_n 1, 1) := by decide +kernel
theorem dX9_waiting_1 : decode cX9_waiting 1 = .ok (.invokestatic 121, 3) := by decide +kernel
theorem dX9_waiting_4 : decode cX9_waiting 4 = .ok (.ifCond .eq 12, 3) := by decide +kernel
theorem dX9_waiting_7 : decode cX9_waiting 7 = .ok (.aload_n 0, 1) := by decide +kernel
theorem dX9_waiting_8 : decode cX9_waiting 8 = .ok (.getfield 44, 3) := by decide +kernel
theorem dX9_waiting_11 : decode cX9_waiting 11 = .ok (.iload_n 1, 1) := by decide +kernel
theorem dX9_waiting_12 : decode cX9_waiting 12 = .ok (.iaload, 1) := by decide +kernel
theorem dX9_waiting_13 : decode cX9_waiting 13 = .ok (.goto 4, 3) := by decide +kernel
theorem dX9_waiting_16 : decode cX9_waiting 16 = .ok (.iconst (-1), 1) := by decide +kernel
theorem dX9_waiting_17 : decode cX9_waiting 17 = .ok (.ireturn, 1) := by decide +kernel
theorem dX9_look_0 : decode cX9_look 0 = .ok (.iload_n 1, 1) := by decide +kernel
theorem dX9_look_1 : decode cX9_look 1 = .ok (.invokestatic 121, 3) := by decide +kernel
theorem dX9_look_4 : decode cX9_look 4 = .ok (.ifCond .eq 36, 3) := by decide +kernel
theorem dX9_look_7 : decode cX9_look 7 = .ok (.iload_n 2, 1) := by decide +kernel
theorem dX9_look_8 : decode cX9_look 8 = .ok (.ifCond .lt 32, 3) := by decide +kernel
theorem dX9_look_11 : decode cX9_look 11 = .ok (.iload_n 2, 1) := by decide +kernel
theorem dX9_look_12 : decode cX9_look 12 = .ok (.aload_n 0, 1) := by decide +kernel
theorem dX9_look_13 : decode cX9_look 13 = .ok (.getfield 44, 3) := by decide +kernel
theorem dX9_look_16 : decode cX9_look 16 = .ok (.iload_n 1, 1) := by decide +kernel
theorem dX9_look_17 : decode cX9_look 17 = .ok (.iaload, 1) := by decide +kernel
theorem dX9_look_18 : decode cX9_look 18 = .ok (.if_icmp .ge 22, 3) := by decide +kernel
theorem dX9_look_21 : decode cX9_look 21 = .ok (.iload_n 3, 1) := by decide +kernel
theorem dX9_look_22 : decode cX9_look 22 = .ok (.ifCond .lt 18, 3) := by decide +kernel
theorem dX9_look_25 : decode cX9_look 25 = .ok (.iload_n 3, 1) := by decide +kernel
theorem dX9_look_26 : decode cX9_look 26 = .ok (.aload_n 0, 1) := by decide +kernel
theorem dX9_look_27 : decode cX9_look 27 = .ok (.getfield 50, 3) := by decide +kernel
theorem dX9_look_30 : decode cX9_look 30 = .ok (.bipush 12, 2) := by decide +kernel
theorem dX9_look_32 : decode cX9_look 32 = .ok (.iload_n 1, 1) := by decide +kernel
theorem dX9_look_33 : decode cX9_look 33 = .ok (.imul, 1) := by decide +kernel
theorem dX9_look_34 : decode cX9_look 34 = .ok (.iload_n 2, 1) := by decide +kernel
theorem dX9_look_35 : decode cX9_look 35 = .ok (.iadd, 1) := by decide +kernel
theorem dX9_look_36 : decode cX9_look 36 = .ok (.iaload, 1) := by decide +kernel
theorem dX9_look_37 : decode cX9_look 37 = .ok (.if_icmp .lt 7, 3) := by decide +kernel
theorem dX9_look_40 : decode cX9_look 40 = .ok (.iconst (-1), 1) := by decide +kernel
theorem dX9_look_41 : decode cX9_look 41 = .ok (.goto 20, 3) := by decide +kernel
theorem dX9_look_44 : decode cX9_look 44 = .ok (.aload_n 0, 1) := by decide +kernel
theorem dX9_look_45 : decode cX9_look 45 = .ok (.getfield 47, 3) := by decide +kernel
theorem dX9_look_48 : decode cX9_look 48 = .ok (.sipush 456, 3) := by decide +kernel
theorem dX9_look_51 : decode cX9_look 51 = .ok (.iload_n 1, 1) := by decide +kernel
theorem dX9_look_52 : decode cX9_look 52 = .ok (.imul, 1) := by decide +kernel
theorem dX9_look_53 : decode cX9_look 53 = .ok (.bipush 38, 2) := by decide +kernel
theorem dX9_look_55 : decode cX9_look 55 = .ok (.iload_n 2, 1) := by decide +kernel
theorem dX9_look_56 : decode cX9_look 56 = .ok (.imul, 1) := by decide +kernel
theorem dX9_look_57 : decode cX9_look 57 = .ok (.iadd, 1) := by decide +kernel
theorem dX9_look_58 : decode cX9_look 58 = .ok (.iload_n 3, 1) := by decide +kernel
theorem dX9_look_59 : decode cX9_look 59 = .ok (.iadd, 1) := by decide +kernel
theorem dX9_look_60 : decode cX9_look 60 = .ok (.iaload, 1) := by decide +kernel
theorem dX9_look_61 : decode cX9_look 61 = .ok (.ireturn, 1) := by decide +kernel
theorem dX9_told_0 : decode cX9_told 0 = .ok (.iload_n 1, 1) := by decide +kernel
theorem dX9_told_1 : decode cX9_told 1 = .ok (.invokestatic 121, 3) := by decide +kernel
theorem dX9_told_4 : decode cX9_told 4 = .ok (.ifCond .ne 5, 3) := by decide +kernel
theorem dX9_told_7 : decode cX9_told 7 = .ok (.iconst (-1), 1) := by decide +kernel
theorem dX9_told_8 : decode cX9_told 8 = .ok (.ireturn, 1) := by decide +kernel
theorem dX9_told_9 : decode cX9_told 9 = .ok (.iload_n 2, 1) := by decide +kernel
theorem dX9_told_10 : decode cX9_told 10 = .ok (.tableswitch 103 0 5 #[38, 45, 52, 82, 89, 96], 38) := by decide +kernel
theorem dX9_told_48 : decode cX9_told 48 = .ok (.aload_n 0, 1) := by decide +kernel
theorem dX9_told_49 : decode cX9_told 49 = .ok (.getfield 19, 3) := by decide +kernel
theorem dX9_told_52 : decode cX9_told 52 = .ok (.iload_n 1, 1) := by decide +kernel
theorem dX9_told_53 : decode cX9_told 53 = .ok (.iaload, 1) := by decide +kernel
theorem dX9_told_54 : decode cX9_told 54 = .ok (.ireturn, 1) := by decide +kernel
theorem dX9_told_55 : decode cX9_told 55 = .ok (.aload_n 0, 1) := by decide +kernel
theorem dX9_told_56 : decode cX9_told 56 = .ok (.getfield 25, 3) := by decide +kernel
theorem dX9_told_59 : decode cX9_told 59 = .ok (.iload_n 1, 1) := by decide +kernel
theorem dX9_told_60 : decode cX9_told 60 = .ok (.iaload, 1) := by decide +kernel
theorem dX9_told_61 : decode cX9_told 61 = .ok (.ireturn, 1) := by decide +kernel
theorem dX9_told_62 : decode cX9_told 62 = .ok (.aload_n 0, 1) := by decide +kernel
theorem dX9_told_63 : decode cX9_told 63 = .ok (.getfield 56, 3) := by decide +kernel
theorem dX9_told_66 : decode cX9_told 66 = .ok (.iload_n 1, 1) := by decide +kernel
theorem dX9_told_67 : decode cX9_told 67 = .ok (.iaload, 1) := by decide +kernel
theorem dX9_told_68 : decode cX9_told 68 = .ok (.iconst 2, 1) := by decide +kernel
theorem dX9_told_69 : decode cX9_told 69 = .ok (.if_icmp .ne 16, 3) := by decide +kernel
theorem dX9_told_72 : decode cX9_told 72 = .ok (.aload_n 0, 1) := by decide +kernel
theorem dX9_told_73 : decode cX9_told 73 = .ok (.getfield 59, 3) := by decide +kernel
theorem dX9_told_76 : decode cX9_told 76 = .ok (.iload_n 1, 1) := by decide +kernel
theorem dX9_told_77 : decode cX9_told 77 = .ok (.baload, 1) := by decide +kernel
theorem dX9_told_78 : decode cX9_told 78 = .ok (.ifCond .ne 7, 3) := by decide +kernel
theorem dX9_told_81 : decode cX9_told 81 = .ok (.iconst 3, 1) := by decide +kernel
theorem dX9_told_82 : decode cX9_told 82 = .ok (.goto 9, 3) := by decide +kernel
theorem dX9_told_85 : decode cX9_told 85 = .ok (.aload_n 0, 1) := by decide +kernel
theorem dX9_told_86 : decode cX9_told 86 = .ok (.getfield 56, 3) := by decide +kernel
theorem dX9_told_89 : decode cX9_told 89 = .ok (.iload_n 1, 1) := by decide +kernel
theorem dX9_told_90 : decode cX9_told 90 = .ok (.iaload, 1) := by decide +kernel
theorem dX9_told_91 : decode cX9_told 91 = .ok (.ireturn, 1) := by decide +kernel
theorem dX9_told_92 : decode cX9_told 92 = .ok (.aload_n 0, 1) := by decide +kernel
theorem dX9_told_93 : decode cX9_told 93 = .ok (.getfield 75, 3) := by decide +kernel
theorem dX9_told_96 : decode cX9_told 96 = .ok (.iload_n 1, 1) := by decide +kernel
theorem dX9_told_97 : decode cX9_told 97 = .ok (.iaload, 1) := by decide +kernel
theorem dX9_told_98 : decode cX9_told 98 = .ok (.ireturn, 1) := by decide +kernel
theorem dX9_told_99 : decode cX9_told 99 = .ok (.aload_n 0, 1) := by decide +kernel
theorem dX9_told_100 : decode cX9_told 100 = .ok (.getfield 84, 3) := by decide +kernel
theorem dX9_told_103 : decode cX9_told 103 = .ok (.iload_n 1, 1) := by decide +kernel
theorem dX9_told_104 : decode cX9_told 104 = .ok (.iaload, 1) := by decide +kernel
theorem dX9_told_105 : decode cX9_told 105 = .ok (.ireturn, 1) := by decide +kernel
theorem dX9_told_106 : decode cX9_told 106 = .ok (.aload_n 0, 1) := by decide +kernel
theorem dX9_told_107 : decode cX9_told 107 = .ok (.getfield 38, 3) := by decide +kernel
theorem dX9_told_110 : decode cX9_told 110 = .ok (.iload_n 1, 1) := by decide +kernel
theorem dX9_told_111 : decode cX9_told 111 = .ok (.iaload, 1) := by decide +kernel
theorem dX9_told_112 : decode cX9_told 112 = .ok (.ireturn, 1) := by decide +kernel
theorem dX9_told_113 : decode cX9_told 113 = .ok (.iconst (-1), 1) := by decide +kernel
theorem dX9_told_114 : decode cX9_told 114 = .ok (.ireturn, 1) := by decide +kernel
theorem dX9_queued_0 : decode cX9_queued 0 = .ok (.iload_n 1, 1) := by decide +kernel
theorem dX9_queued_1 : decode cX9_queued 1 = .ok (.invokestatic 121, 3) := by decide +kernel
theorem dX9_queued_4 : decode cX9_queued 4 = .ok (.ifCond .eq 17, 3) := by decide +kernel
theorem dX9_queued_7 : decode cX9_queued 7 = .ok (.iload_n 2, 1) := by decide +kernel
theorem dX9_queued_8 : decode cX9_queued 8 = .ok (.ifCond .lt 13, 3) := by decide +kernel
theorem dX9_queued_11 : decode cX9_queued 11 = .ok (.iload_n 2, 1) := by decide +kernel
theorem dX9_queued_12 : decode cX9_queued 12 = .ok (.aload_n 0, 1) := by decide +kernel
theorem dX9_queued_13 : decode cX9_queued 13 = .ok (.getfield 19, 3) := by decide +kernel
theorem dX9_queued_16 : decode cX9_queued 16 = .ok (.iload_n 1, 1) := by decide +kernel
theorem dX9_queued_17 : decode cX9_queued 17 = .ok (.iaload, 1) := by decide +kernel
theorem dX9_queued_18 : decode cX9_queued 18 = .ok (.if_icmp .lt 7, 3) := by decide +kernel
theorem dX9_queued_21 : decode cX9_queued 21 = .ok (.iconst (-1), 1) := by decide +kernel
theorem dX9_queued_22 : decode cX9_queued 22 = .ok (.goto 14, 3) := by decide +kernel
theorem dX9_queued_25 : decode cX9_queued 25 = .ok (.aload_n 0, 1) := by decide +kernel
theorem dX9_queued_26 : decode cX9_queued 26 = .ok (.getfield 22, 3) := by decide +kernel
theorem dX9_queued_29 : decode cX9_queued 29 = .ok (.bipush 30, 2) := by decide +kernel
theorem dX9_queued_31 : decode cX9_queued 31 = .ok (.iload_n 1, 1) := by decide +kernel
theorem dX9_queued_32 : decode cX9_queued 32 = .ok (.imul, 1) := by decide +kernel
theorem dX9_queued_33 : decode cX9_queued 33 = .ok (.iload_n 2, 1) := by decide +kernel
theorem dX9_queued_34 : decode cX9_queued 34 = .ok (.iadd, 1) := by decide +kernel
theorem dX9_queued_35 : decode cX9_queued 35 = .ok (.iaload, 1) := by decide +kernel
theorem dX9_queued_36 : decode cX9_queued 36 = .ok (.ireturn, 1) := by decide +kernel
theorem dX9_executed_0 : decode cX9_executed 0 = .ok (.iload_n 1, 1) := by decide +kernel
theorem dX9_executed_1 : decode cX9_executed 1 = .ok (.invokestatic 121, 3) := by decide +kernel
theorem dX9_executed_4 : decode cX9_executed 4 = .ok (.ifCond .eq 17, 3) := by decide +kernel
theorem dX9_executed_7 : decode cX9_executed 7 = .ok (.iload_n 2, 1) := by decide +kernel
theorem dX9_executed_8 : decode cX9_executed 8 = .ok (.ifCond .lt 13, 3) := by decide +kernel
theorem dX9_executed_11 : decode cX9_executed 11 = .ok (.iload_n 2, 1) := by decide +kernel
theorem dX9_executed_12 : decode cX9_executed 12 = .ok (.aload_n 0, 1) := by decide +kernel
theorem dX9_executed_13 : decode cX9_executed 13 = .ok (.getfield 25, 3) := by decide +kernel
theorem dX9_executed_16 : decode cX9_executed 16 = .ok (.iload_n 1, 1) := by decide +kernel
theorem dX9_executed_17 : decode cX9_executed 17 = .ok (.iaload, 1) := by decide +kernel
theorem dX9_executed_18 : decode cX9_executed 18 = .ok (.if_icmp .lt 7, 3) := by decide +kernel
theorem dX9_executed_21 : decode cX9_executed 21 = .ok (.iconst (-1), 1) := by decide +kernel
theorem dX9_executed_22 : decode cX9_executed 22 = .ok (.goto 15, 3) := by decide +kernel
theorem dX9_executed_25 : decode cX9_executed 25 = .ok (.aload_n 0, 1) := by decide +kernel
theorem dX9_executed_26 : decode cX9_executed 26 = .ok (.getfield 28, 3) := by decide +kernel
theorem dX9_executed_29 : decode cX9_executed 29 = .ok (.sipush 256, 3) := by decide +kernel
theorem dX9_executed_32 : decode cX9_executed 32 = .ok (.iload_n 1, 1) := by decide +kernel
theorem dX9_executed_33 : decode cX9_executed 33 = .ok (.imul, 1) := by decide +kernel
theorem dX9_executed_34 : decode cX9_executed 34 = .ok (.iload_n 2, 1) := by decide +kernel
theorem dX9_executed_35 : decode cX9_executed 35 = .ok (.iadd, 1) := by decide +kernel
theorem dX9_executed_36 : decode cX9_executed 36 = .ok (.iaload, 1) := by decide +kernel
theorem dX9_executed_37 : decode cX9_executed 37 = .ok (.ireturn, 1) := by decide +kernel
theorem dX9_file_0 : decode cX9_file 0 = .ok (.aload_n 0, 1) := by decide +kernel
theorem dX9_file_1 : decode cX9_file 1 = .ok (.iload_n 1, 1) := by decide +kernel
theorem dX9_file_2 : decode cX9_file 2 = .ok (.iload_n 2, 1) := by decide +kernel
theorem dX9_file_3 : decode cX9_file 3 = .ok (.invokevirtual 214, 3) := by decide +kernel
theorem dX9_file_6 : decode cX9_file 6 = .ok (.iconst (-1), 1) := by decide +kernel
theorem dX9_file_7 : decode cX9_file 7 = .ok (.if_icmp .eq 23, 3) := by decide +kernel
theorem dX9_file_10 : decode cX9_file 10 = .ok (.iload_n 3, 1) := by decide +kernel
theorem dX9_file_11 : decode cX9_file 11 = .ok (.ifCond .lt 19, 3) := by decide +kernel
theorem dX9_file_14 : decode cX9_file 14 = .ok (.iload_n 3, 1) := by decide +kernel
theorem dX9_file_15 : decode cX9_file 15 = .ok (.aload_n 0, 1) := by decide +kernel
theorem dX9_file_16 : decode cX9_file 16 = .ok (.getfield 31, 3) := by decide +kernel
theorem dX9_file_19 : decode cX9_file 19 = .ok (.sipush 256, 3) := by decide +kernel
theorem dX9_file_22 : decode cX9_file 22 = .ok (.iload_n 1, 1) := by decide +kernel
theorem dX9_file_23 : decode cX9_file 23 = .ok (.imul, 1) := by decide +kernel
theorem dX9_file_24 : decode cX9_file 24 = .ok (.iload_n 2, 1) := by decide +kernel
theorem dX9_file_25 : decode cX9_file 25 = .ok (.iadd, 1) := by decide +kernel
theorem dX9_file_26 : decode cX9_file 26 = .ok (.iaload, 1) := by decide +kernel
theorem dX9_file_27 : decode cX9_file 27 = .ok (.if_icmp .lt 7, 3) := by decide +kernel
theorem dX9_file_30 : decode cX9_file 30 = .ok (.iconst (-1), 1) := by decide +kernel
theorem dX9_file_31 : decode cX9_file 31 = .ok (.goto 20, 3) := by decide +kernel
theorem dX9_file_34 : decode cX9_file 34 = .ok (.aload_n 0, 1) := by decide +kernel
theorem dX9_file_35 : decode cX9_file 35 = .ok (.getfield 35, 3) := by decide +kernel
theorem dX9_file_38 : decode cX9_file 38 = .ok (.bipush 100, 2) := by decide +kernel
theorem dX9_file_40 : decode cX9_file 40 = .ok (.sipush 256, 3) := by decide +kernel
theorem dX9_file_43 : decode cX9_file 43 = .ok (.iload_n 1, 1) := by decide +kernel
theorem dX9_file_44 : decode cX9_file 44 = .ok (.imul, 1) := by decide +kernel
theorem dX9_file_45 : decode cX9_file 45 = .ok (.iload_n 2, 1) := by decide +kernel
theorem dX9_file_46 : decode cX9_file 46 = .ok (.iadd, 1) := by decide +kernel
theorem dX9_file_47 : decode cX9_file 47 = .ok (.imul, 1) := by decide +kernel
theorem dX9_file_48 : decode cX9_file 48 = .ok (.iload_n 3, 1) := by decide +kernel
theorem dX9_file_49 : decode cX9_file 49 = .ok (.iadd, 1) := by decide +kernel
theorem dX9_file_50 : decode cX9_file 50 = .ok (.iaload, 1) := by decide +kernel
theorem dX9_file_51 : decode cX9_file 51 = .ok (.ireturn, 1) := by decide +kernel
theorem dX9_times_0 : decode cX9_times 0 = .ok (.iload_n 1, 1) := by decide +kernel
theorem dX9_times_1 : decode cX9_times 1 = .ok (.invokestatic 121, 3) := by decide +kernel
theorem dX9_times_4 : decode cX9_times 4 = .ok (.ifCond .eq 17, 3) := by decide +kernel
theorem dX9_times_7 : decode cX9_times 7 = .ok (.iload_n 2, 1) := by decide +kernel
theorem dX9_times_8 : decode cX9_times 8 = .ok (.ifCond .lt 13, 3) := by decide +kernel
theorem dX9_times_11 : decode cX9_times 11 = .ok (.iload_n 2, 1) := by decide +kernel
theorem dX9_times_12 : decode cX9_times 12 = .ok (.aload_n 0, 1) := by decide +kernel
theorem dX9_times_13 : decode cX9_times 13 = .ok (.getfield 7, 3) := by decide +kernel
theorem dX9_times_16 : decode cX9_times 16 = .ok (.iload_n 1, 1) := by decide +kernel
theorem dX9_times_17 : decode cX9_times 17 = .ok (.iaload, 1) := by decide +kernel
theorem dX9_times_18 : decode cX9_times 18 = .ok (.if_icmp .lt 5, 3) := by decide +kernel
theorem dX9_times_21 : decode cX9_times 21 = .ok (.iconst (-1), 1) := by decide +kernel
theorem dX9_times_22 : decode cX9_times 22 = .ok (.ireturn, 1) := by decide +kernel
theorem dX9_times_23 : decode cX9_times 23 = .ok (.iconst 0, 1) := by decide +kernel
theorem dX9_times_24 : decode cX9_times 24 = .ok (.istore_n 3, 1) := by decide +kernel
theorem dX9_times_25 : decode cX9_times 25 = .ok (.iconst 0, 1) := by decide +kernel
theorem dX9_times_26 : decode cX9_times 26 = .ok (.istore 4, 2) := by decide +kernel
theorem dX9_times_28 : decode cX9_times 28 = .ok (.iload 4, 2) := by decide +kernel
theorem dX9_times_30 : decode cX9_times 30 = .ok (.aload_n 0, 1) := by decide +kernel
theorem dX9_times_31 : decode cX9_times 31 = .ok (.getfield 25, 3) := by decide +kernel
theorem dX9_times_34 : decode cX9_times 34 = .ok (.iconst 1, 1) := by decide +kernel
theorem dX9_times_35 : decode cX9_times 35 = .ok (.iload_n 1, 1) := by decide +kernel
theorem dX9_times_36 : decode cX9_times 36 = .ok (.isub, 1) := by decide +kernel
theorem dX9_times_37 : decode cX9_times 37 = .ok (.iaload, 1) := by decide +kernel
theorem dX9_times_38 : decode cX9_times 38 = .ok (.if_icmp .ge 36, 3) := by decide +kernel
theorem dX9_times_41 : decode cX9_times 41 = .ok (.iload_n 3, 1) := by decide +kernel
theorem dX9_times_42 : decode cX9_times 42 = .ok (.aload_n 0, 1) := by decide +kernel
theorem dX9_times_43 : decode cX9_times 43 = .ok (.getfield 28, 3) := by decide +kernel
theorem dX9_times_46 : decode cX9_times 46 = .ok (.sipush 256, 3) := by decide +kernel
theorem dX9_times_49 : decode cX9_times 49 = .ok (.iconst 1, 1) := by decide +kernel
theorem dX9_times_50 : decode cX9_times 50 = .ok (.iload_n 1, 1) := by decide +kernel
theorem dX9_times_51 : decode cX9_times 51 = .ok (.isub, 1) := by decide +kernel
theorem dX9_times_52 : decode cX9_times 52 = .ok (.imul, 1) := by decide +kernel
theorem dX9_times_53 : decode cX9_times 53 = .ok (.iload 4, 2) := by decide +kernel
theorem dX9_times_55 : decode cX9_times 55 = .ok (.iadd, 1) := by decide +kernel
theorem dX9_times_56 : decode cX9_times 56 = .ok (.iaload, 1) := by decide +kernel
theorem dX9_times_57 : decode cX9_times 57 = .ok (.iload_n 2, 1) := by decide +kernel
theorem dX9_times_58 : decode cX9_times 58 = .ok (.if_icmp .ne 7, 3) := by decide +kernel
theorem dX9_times_61 : decode cX9_times 61 = .ok (.iconst 1, 1) := by decide +kernel
theorem dX9_times_62 : decode cX9_times 62 = .ok (.goto 4, 3) := by decide +kernel
theorem dX9_times_65 : decode cX9_times 65 = .ok (.iconst 0, 1) := by decide +kernel
theorem dX9_times_66 : decode cX9_times 66 = .ok (.iadd, 1) := by decide +kernel
theorem dX9_times_67 : decode cX9_times 67 = .ok (.istore_n 3, 1) := by decide +kernel
theorem dX9_times_68 : decode cX9_times 68 = .ok (.iinc 4 1, 3) := by decide +kernel
theorem dX9_times_71 : decode cX9_times 71 = .ok (.goto (-43), 3) := by decide +kernel
theorem dX9_times_74 : decode cX9_times 74 = .ok (.iload_n 3, 1) := by decide +kernel
theorem dX9_times_75 : decode cX9_times 75 = .ok (.ireturn, 1) := by decide +kernel
