theorem dX4_init_0 : decode cX4_init 0 = .ok (.aload_n 0, 1) := by decide +kernel
theorem dX4_init_1 : decode cX4_init 1 = .ok (.invokespecial 1, 3) := by decide +kernel
theorem dX4_init_4 : decode cX4_init 4 = .ok (.aload_n 0, 1) := by decide +kernel
theorem dX4_init_5 : decode cX4_init 5 = .ok (.bipush 38, 2) := by decide +kernel
theorem dX4_init_7 : decode cX4_init 7 = .ok (.newarray .int, 2) := by decide +kernel
theorem dX4_init_9 : decode cX4_init 9 = .ok (.putfield 9, 3) := by decide +kernel
theorem dX4_init_12 : decode cX4_init 12 = .ok (.aload_n 0, 1) := by decide +kernel
theorem dX4_init_13 : decode cX4_init 13 = .ok (.iconst 0, 1) := by decide +kernel
theorem dX4_init_14 : decode cX4_init 14 = .ok (.putfield 13, 3) := by decide +kernel
theorem dX4_init_17 : decode cX4_init 17 = .ok (.return_, 1) := by decide +kernel
theorem dX4_fillControl_0 : decode cX4_fillControl 0 = .ok (.aload_n 0, 1) := by decide +kernel
theorem dX4_fillControl_1 : decode cX4_fillControl 1 = .ok (.bipush 6, 2) := by decide +kernel
theorem dX4_fillControl_3 : decode cX4_fillControl 3 = .ok (.putfield 13, 3) := by decide +kernel
theorem dX4_fillControl_6 : decode cX4_fillControl 6 = .ok (.bipush 8, 2) := by decide +kernel
theorem dX4_fillControl_8 : decode cX4_fillControl 8 = .ok (.iload_n 1, 1) := by decide +kernel
theorem dX4_fillControl_9 : decode cX4_fillControl 9 = .ok (.imul, 1) := by decide +kernel
theorem dX4_fillControl_10 : decode cX4_fillControl 10 = .ok (.iload_n 2, 1) := by decide +kernel
theorem dX4_fillControl_11 : decode cX4_fillControl 11 = .ok (.iadd, 1) := by decide +kernel
theorem dX4_fillControl_12 : decode cX4_fillControl 12 = .ok (.istore_n 3, 1) := by decide +kernel
theorem dX4_fillControl_13 : decode cX4_fillControl 13 = .ok (.aload_n 0, 1) := by decide +kernel
theorem dX4_fillControl_14 : decode cX4_fillControl 14 = .ok (.bipush 9, 2) := by decide +kernel
theorem dX4_fillControl_16 : decode cX4_fillControl 16 = .ok (.iload_n 3, 1) := by decide +kernel
theorem dX4_fillControl_17 : decode cX4_fillControl 17 = .ok (.ldc 17, 2) := by decide +kernel
theorem dX4_fillControl_19 : decode cX4_fillControl 19 = .ok (.iload_n 3, 1) := by decide +kernel
theorem dX4_fillControl_20 : decode cX4_fillControl 20 = .ok (.isub, 1) := by decide +kernel
theorem dX4_fillControl_21 : decode cX4_fillControl 21 = .ok (.invokevirtual 18, 3) := by decide +kernel
theorem dX4_fillControl_24 : decode cX4_fillControl 24 = .ok (.return_, 1) := by decide +kernel
theorem dX4_fillData_0 : decode cX4_fillData 0 = .ok (.aload_n 0, 1) := by decide +kernel
theorem dX4_fillData_1 : decode cX4_fillData 1 = .ok (.bipush 38, 2) := by decide +kernel
theorem dX4_fillData_3 : decode cX4_fillData 3 = .ok (.putfield 13, 3) := by decide +kernel
theorem dX4_fillData_6 : decode cX4_fillData 6 = .ok (.aload_n 0, 1) := by decide +kernel
theorem dX4_fillData_7 : decode cX4_fillData 7 = .ok (.getfield 9, 3) := by decide +kernel
theorem dX4_fillData_10 : decode cX4_fillData 10 = .ok (.bipush 6, 2) := by decide +kernel
theorem dX4_fillData_12 : decode cX4_fillData 12 = .ok (.aload_n 3, 1) := by decide +kernel
theorem dX4_fillData_13 : decode cX4_fillData 13 = .ok (.getfield 22, 3) := by decide +kernel
theorem dX4_fillData_16 : decode cX4_fillData 16 = .ok (.iastore, 1) := by decide +kernel
theorem dX4_fillData_17 : decode cX4_fillData 17 = .ok (.iconst 0, 1) := by decide +kernel
theorem dX4_fillData_18 : decode cX4_fillData 18 = .ok (.istore 4, 2) := by decide +kernel
theorem dX4_fillData_20 : decode cX4_fillData 20 = .ok (.iload 4, 2) := by decide +kernel
theorem dX4_fillData_22 : decode cX4_fillData 22 = .ok (.bipush 31, 2) := by decide +kernel
theorem dX4_fillData_24 : decode cX4_fillData 24 = .ok (.if_icmp .ge 39, 3) := by decide +kernel
theorem dX4_fillData_27 : decode cX4_fillData 27 = .ok (.aload_n 0, 1) := by decide +kernel
theorem dX4_fillData_28 : decode cX4_fillData 28 = .ok (.getfield 9, 3) := by decide +kernel
theorem dX4_fillData_31 : decode cX4_fillData 31 = .ok (.bipush 7, 2) := by decide +kernel
theorem dX4_fillData_33 : decode cX4_fillData 33 = .ok (.iload 4, 2) := by decide +kernel
theorem dX4_fillData_35 : decode cX4_fillData 35 = .ok (.iadd, 1) := by decide +kernel
theorem dX4_fillData_36 : decode cX4_fillData 36 = .ok (.iload 4, 2) := by decide +kernel
theorem dX4_fillData_38 : decode cX4_fillData 38 = .ok (.aload_n 3, 1) := by decide +kernel
theorem dX4_fillData_39 : decode cX4_fillData 39 = .ok (.getfield 22, 3) := by decide +kernel
theorem dX4_fillData_42 : decode cX4_fillData 42 = .ok (.if_icmp .ge 13, 3) := by decide +kernel
theorem dX4_fillData_45 : decode cX4_fillData 45 = .ok (.aload_n 3, 1) := by decide +kernel
theorem dX4_fillData_46 : decode cX4_fillData 46 = .ok (.getfield 25, 3) := by decide +kernel
theorem dX4_fillData_49 : decode cX4_fillData 49 = .ok (.iload 4, 2) := by decide +kernel
theorem dX4_fillData_51 : decode cX4_fillData 51 = .ok (.iaload, 1) := by decide +kernel
theorem dX4_fillData_52 : decode cX4_fillData 52 = .ok (.goto 4, 3) := by decide +kernel
theorem dX4_fillData_55 : decode cX4_fillData 55 = .ok (.iconst 0, 1) := by decide +kernel
theorem dX4_fillData_56 : decode cX4_fillData 56 = .ok (.iastore, 1) := by decide +kernel
theorem dX4_fillData_57 : decode cX4_fillData 57 = .ok (.iinc 4 1, 3) := by decide +kernel
theorem dX4_fillData_60 : decode cX4_fillData 60 = .ok (.goto (-40), 3) := by decide +kernel
theorem dX4_fillData_63 : decode cX4_fillData 63 = .ok (.sipush 128, 3) := by decide +kernel
theorem dX4_fillData_66 : decode cX4_fillData 66 = .ok (.bipush 8, 2) := by decide +kernel
theorem dX4_fillData_68 : decode cX4_fillData 68 = .ok (.iload_n 1, 1) := by decide +kernel
theorem dX4_fillData_69 : decode cX4_fillData 69 = .ok (.imul, 1) := by decide +kernel
theorem dX4_fillData_70 : decode cX4_fillData 70 = .ok (.iadd, 1) := by decide +kernel
theorem dX4_fillData_71 : decode cX4_fillData 71 = .ok (.iload_n 2, 1) := by decide +kernel
theorem dX4_fillData_72 : decode cX4_fillData 72 = .ok (.iadd, 1) := by decide +kernel
theorem dX4_fillData_73 : decode cX4_fillData 73 = .ok (.istore 4, 2) := by decide +kernel
theorem dX4_fillData_75 : decode cX4_fillData 75 = .ok (.aload_n 0, 1) := by decide +kernel
theorem dX4_fillData_76 : decode cX4_fillData 76 = .ok (.iconst 1, 1) := by decide +kernel
theorem dX4_fillData_77 : decode cX4_fillData 77 = .ok (.iload 4, 2) := by decide +kernel
theorem dX4_fillData_79 : decode cX4_fillData 79 = .ok (.ldc 17, 2) := by decide +kernel
theorem dX4_fillData_81 : decode cX4_fillData 81 = .ok (.aload_n 0, 1) := by decide +kernel
theorem dX4_fillData_82 : decode cX4_fillData 82 = .ok (.invokevirtual 26, 3) := by decide +kernel
theorem dX4_fillData_85 : decode cX4_fillData 85 = .ok (.iload 4, 2) := by decide +kernel
theorem dX4_fillData_87 : decode cX4_fillData 87 = .ok (.ixor, 1) := by decide +kernel
theorem dX4_fillData_88 : decode cX4_fillData 88 = .ok (.isub, 1) := by decide +kernel
theorem dX4_fillData_89 : decode cX4_fillData 89 = .ok (.invokevirtual 18, 3) := by decide +kernel
theorem dX4_fillData_92 : decode cX4_fillData 92 = .ok (.return_, 1) := by decide +kernel
theorem dX4_isData_0 : decode cX4_isData 0 = .ok (.aload_n 0, 1) := by decide +kernel
theorem dX4_isData_1 : decode cX4_isData 1 = .ok (.getfield 13, 3) := by decide +kernel
theorem dX4_isData_4 : decode cX4_isData 4 = .ok (.bipush 6, 2) := by decide +kernel
theorem dX4_isData_6 : decode cX4_isData 6 = .ok (.if_icmp .le 7, 3) := by decide +kernel
theorem dX4_isData_9 : decode cX4_isData 9 = .ok (.iconst 1, 1) := by decide +kernel
theorem dX4_isData_10 : decode cX4_isData 10 = .ok (.goto 4, 3) := by decide +kernel
theorem dX4_isData_13 : decode cX4_isData 13 = .ok (.iconst 0, 1) := by decide +kernel
theorem dX4_isData_14 : decode cX4_isData 14 = .ok (.ireturn, 1) := by decide +kernel
theorem dX4_x_0 : decode cX4_x 0 = .ok (.aload_n 0, 1) := by decide +kernel
theorem dX4_x_1 : decode cX4_x 1 = .ok (.getfield 9, 3) := by decide +kernel
theorem dX4_x_4 : decode cX4_x 4 = .ok (.iconst 4, 1) := by decide +kernel
theorem dX4_x_5 : decode cX4_x 5 = .ok (.iaload, 1) := by decide +kernel
theorem dX4_x_6 : decode cX4_x 6 = .ok (.iconst 3, 1) := by decide +kernel
theorem dX4_x_7 : decode cX4_x 7 = .ok (.ishr, 1) := by decide +kernel
theorem dX4_x_8 : decode cX4_x 8 = .ok (.bipush 7, 2) := by decide +kernel
theorem dX4_x_10 : decode cX4_x 10 = .ok (.iand, 1) := by decide +kernel
theorem dX4_x_11 : decode cX4_x 11 = .ok (.ireturn, 1) := by decide +kernel
theorem dX4_y_0 : decode cX4_y 0 = .ok (.aload_n 0, 1) := by decide +kernel
theorem dX4_y_1 : decode cX4_y 1 = .ok (.getfield 9, 3) := by decide +kernel
theorem dX4_y_4 : decode cX4_y 4 = .ok (.iconst 4, 1) := by decide +kernel
theorem dX4_y_5 : decode cX4_y 5 = .ok (.iaload, 1) := by decide +kernel
theorem dX4_y_6 : decode cX4_y 6 = .ok (.bipush 7, 2) := by decide +kernel
theorem dX4_y_8 : decode cX4_y 8 = .ok (.iand, 1) := by decide +kernel
theorem dX4_y_9 : decode cX4_y 9 = .ok (.ireturn, 1) := by decide +kernel
theorem dX4_messageLength_0 : decode cX4_messageLength 0 = .ok (.aload_n 0, 1) := by decide +kernel
theorem dX4_messageLength_1 : decode cX4_messageLength 1 = .ok (.getfield 9, 3) := by decide +kernel
theorem dX4_messageLength_4 : decode cX4_messageLength 4 = .ok (.bipush 6, 2) := by decide +kernel
theorem dX4_messageLength_6 : decode cX4_messageLength 6 = .ok (.iaload, 1) := by decide +kernel
theorem dX4_messageLength_7 : decode cX4_messageLength 7 = .ok (.ireturn, 1) := by decide +kernel
theorem dX4_messageByte_0 : decode cX4_messageByte 0 = .ok (.iload_n 1, 1) := by decide +kernel
theorem dX4_messageByte_1 : decode cX4_messageByte 1 = .ok (.ifCond .lt 21, 3) := by decide +kernel
theorem dX4_messageByte_4 : decode cX4_messageByte 4 = .ok (.iload_n 1, 1) := by decide +kernel
theorem dX4_messageByte_5 : decode cX4_messageByte 5 = .ok (.bipush 31, 2) := by decide +kernel
theorem dX4_messageByte_7 : decode cX4_messageByte 7 = .ok (.if_icmp .ge 15, 3) := by decide +kernel
theorem dX4_messageByte_10 : decode cX4_messageByte 10 = .ok (.aload_n 0, 1) := by decide +kernel
theorem dX4_messageByte_11 : decode cX4_messageByte 11 = .ok (.getfield 9, 3) := by decide +kernel
theorem dX4_messageByte_14 : decode cX4_messageByte 14 = .ok (.bipush 7, 2) := by decide +kernel
theorem dX4_messageByte_16 : decode cX4_messageByte 16 = .ok (.iload_n 1, 1) := by decide +kernel
theorem dX4_messageByte_17 : decode cX4_messageByte 17 = .ok (.iadd, 1) := by decide +kernel
theorem dX4_messageByte_18 : decode cX4_messageByte 18 = .ok (.iaload, 1) := by decide +kernel
theorem dX4_messageByte_19 : decode cX4_messageByte 19 = .ok (.goto 4, 3) := by decide +kernel
theorem dX4_messageByte_22 : decode cX4_messageByte 22 = .ok (.iconst 0, 1) := by decide +kernel
theorem dX4_messageByte_23 : decode cX4_messageByte 23 = .ok (.ireturn, 1) := by decide +kernel
theorem dX4_isGood_0 : decode cX4_isGood 0 = .ok (.aload_n 0, 1) := by decide +kernel
theorem dX4_isGood_1 : decode cX4_isGood 1 = .ok (.getfield 9, 3) := by decide +kernel
theorem dX4_isGood_4 : decode cX4_isGood 4 = .ok (.iconst 0, 1) := by decide +kernel
theorem dX4_isGood_5 : decode cX4_isGood 5 = .ok (.iaload, 1) := by decide +kernel
theorem dX4_isGood_6 : decode cX4_isGood 6 = .ok (.bipush 16, 2) := by decide +kernel
theorem dX4_isGood_8 : decode cX4_isGood 8 = .ok (.if_icmp .eq 5, 3) := by decide +kernel
theorem dX4_isGood_11 : decode cX4_isGood 11 = .ok (.iconst 0, 1) := by decide +kernel
theorem dX4_isGood_12 : decode cX4_isGood 12 = .ok (.ireturn, 1) := by decide +kernel
theorem dX4_isGood_13 : decode cX4_isGood 13 = .ok (.aload_n 0, 1) := by decide +kernel
theorem dX4_isGood_14 : decode cX4_isGood 14 = .ok (.getfield 9, 3) := by decide +kernel
theorem dX4_isGood_17 : decode cX4_isGood 17 = .ok (.iconst 4, 1) := by decide +kernel
theorem dX4_isGood_18 : decode cX4_isGood 18 = .ok (.iaload, 1) := by decide +kernel
theorem dX4_isGood_19 : decode cX4_isGood 19 = .ok (.istore_n 1, 1) := by decide +kernel
theorem dX4_isGood_20 : decode cX4_isGood 20 = .ok (.aload_n 0, 1) := by decide +kernel
theorem dX4_isGood_21 : decode cX4_isGood 21 = .ok (.invokevirtual 30, 3) := by decide +kernel
theorem dX4_isGood_24 : decode cX4_isGood 24 = .ok (.ifCond .eq 42, 3) := by decide +kernel
theorem dX4_isGood_27 : decode cX4_isGood 27 = .ok (.iload_n 1, 1) := by decide +kernel
theorem dX4_isGood_28 : decode cX4_isGood 28 = .ok (.bipush 6, 2) := by decide +kernel
theorem dX4_isGood_30 : decode cX4_isGood 30 = .ok (.ishr, 1) := by decide +kernel
theorem dX4_isGood_31 : decode cX4_isGood 31 = .ok (.iconst 2, 1) := by decide +kernel
theorem dX4_isGood_32 : decode cX4_isGood 32 = .ok (.if_icmp .ne 32, 3) := by decide +kernel
theorem dX4_isGood_35 : decode cX4_isGood 35 = .ok (.aload_n 0, 1) := by decide +kernel
theorem dX4_isGood_36 : decode cX4_isGood 36 = .ok (.invokevirtual 34, 3) := by decide +kernel
theorem dX4_isGood_39 : decode cX4_isGood 39 = .ok (.ifCond .eq 25, 3) := by decide +kernel
theorem dX4_isGood_42 : decode cX4_isGood 42 = .ok (.aload_n 0, 1) := by decide +kernel
theorem dX4_isGood_43 : decode cX4_isGood 43 = .ok (.iconst 1, 1) := by decide +kernel
theorem dX4_isGood_44 : decode cX4_isGood 44 = .ok (.iload_n 1, 1) := by decide +kernel
theorem dX4_isGood_45 : decode cX4_isGood 45 = .ok (.ldc 17, 2) := by decide +kernel
theorem dX4_isGood_47 : decode cX4_isGood 47 = .ok (.aload_n 0, 1) := by decide +kernel
theorem dX4_isGood_48 : decode cX4_isGood 48 = .ok (.invokevirtual 26, 3) := by decide +kernel
theorem dX4_isGood_51 : decode cX4_isGood 51 = .ok (.iload_n 1, 1) := by decide +kernel
theorem dX4_isGood_52 : decode cX4_isGood 52 = .ok (.ixor, 1) := by decide +kernel
theorem dX4_isGood_53 : decode cX4_isGood 53 = .ok (.isub, 1) := by decide +kernel
theorem dX4_isGood_54 : decode cX4_isGood 54 = .ok (.invokevirtual 37, 3) := by decide +kernel
theorem dX4_isGood_57 : decode cX4_isGood 57 = .ok (.ifCond .eq 7, 3) := by decide +kernel
theorem dX4_isGood_60 : decode cX4_isGood 60 = .ok (.iconst 1, 1) := by decide +kernel
theorem dX4_isGood_61 : decode cX4_isGood 61 = .ok (.goto 4, 3) := by decide +kernel
theorem dX4_isGood_64 : decode cX4_isGood 64 = .ok (.iconst 0, 1) := by decide +kernel
theorem dX4_isGood_65 : decode cX4_isGood 65 = .ok (.ireturn, 1) := by decide +kernel
theorem dX4_isGood_66 : decode cX4_isGood 66 = .ok (.iload_n 1, 1) := by decide +kernel
theorem dX4_isGood_67 : decode cX4_isGood 67 = .ok (.bipush 6, 2) := by decide +kernel
theorem dX4_isGood_69 : decode cX4_isGood 69 = .ok (.ishr, 1) := by decide +kernel
theorem dX4_isGood_70 : decode cX4_isGood 70 = .ok (.ifCond .ne 31, 3) := by decide +kernel
theorem dX4_isGood_73 : decode cX4_isGood 73 = .ok (.aload_n 0, 1) := by decide +kernel
theorem dX4_isGood_74 : decode cX4_isGood 74 = .ok (.invokevirtual 41, 3) := by decide +kernel
theorem dX4_isGood_77 : decode cX4_isGood 77 = .ok (.invokestatic 44, 3) := by decide +kernel
theorem dX4_isGood_80 : decode cX4_isGood 80 = .ok (.ifCond .eq 21, 3) := by decide +kernel
theorem dX4_isGood_83 : decode cX4_isGood 83 = .ok (.aload_n 0, 1) := by decide +kernel
theorem dX4_isGood_84 : decode cX4_isGood 84 = .ok (.bipush 9, 2) := by decide +kernel
theorem dX4_isGood_86 : decode cX4_isGood 86 = .ok (.iload_n 1, 1) := by decide +kernel
theorem dX4_isGood_87 : decode cX4_isGood 87 = .ok (.ldc 17, 2) := by decide +kernel
theorem dX4_isGood_89 : decode cX4_isGood 89 = .ok (.iload_n 1, 1) := by decide +kernel
theorem dX4_isGood_90 : decode cX4_isGood 90 = .ok (.isub, 1) := by decide +kernel
theorem dX4_isGood_91 : decode cX4_isGood 91 = .ok (.invokevirtual 37, 3) := by decide +kernel
theorem dX4_isGood_94 : decode cX4_isGood 94 = .ok (.ifCond .eq 7, 3) := by decide +kernel
theorem dX4_isGood_97 : decode cX4_isGood 97 = .ok (.iconst 1, 1) := by decide +kernel
theorem dX4_isGood_98 : decode cX4_isGood 98 = .ok (.goto 4, 3) := by decide +kernel
theorem dX4_isGood_101 : decode cX4_isGood 101 = .ok (.iconst 0, 1) := by decide +kernel
theorem dX4_isGood_102 : decode cX4_isGood 102 = .ok (.ireturn, 1) := by decide +kernel
theorem dX4_fillHead_0 : decode cX4_fillHead 0 = .ok (.iload_n 3, 1) := by decide +kernel
theorem dX4_fillHead_1 : decode cX4_fillHead 1 = .ok (.sipush 255, 3) := by decide +kernel
theorem dX4_fillHead_4 : decode cX4_fillHead 4 = .ok (.iand, 1) := by decide +kernel
theorem dX4_fillHead_5 : decode cX4_fillHead 5 = .ok (.istore 4, 2) := by decide +kernel
theorem dX4_fillHead_7 : decode cX4_fillHead 7 = .ok (.iload_n 3, 1) := by decide +kernel
theorem dX4_fillHead_8 : decode cX4_fillHead 8 = .ok (.bipush 8, 2) := by decide +kernel
theorem dX4_fillHead_10 : decode cX4_fillHead 10 = .ok (.ishr, 1) := by decide +kernel
theorem dX4_fillHead_11 : decode cX4_fillHead 11 = .ok (.sipush 255, 3) := by decide +kernel
theorem dX4_fillHead_14 : decode cX4_fillHead 14 = .ok (.iand, 1) := by decide +kernel
theorem dX4_fillHead_15 : decode cX4_fillHead 15 = .ok (.istore 5, 2) := by decide +kernel
theorem dX4_fillHead_17 : decode cX4_fillHead 17 = .ok (.aload_n 0, 1) := by decide +kernel
theorem dX4_fillHead_18 : decode cX4_fillHead 18 = .ok (.getfield 9, 3) := by decide +kernel
theorem dX4_fillHead_21 : decode cX4_fillHead 21 = .ok (.iconst 0, 1) := by decide +kernel
theorem dX4_fillHead_22 : decode cX4_fillHead 22 = .ok (.bipush 16, 2) := by decide +kernel
theorem dX4_fillHead_24 : decode cX4_fillHead 24 = .ok (.iastore, 1) := by decide +kernel
theorem dX4_fillHead_25 : decode cX4_fillHead 25 = .ok (.aload_n 0, 1) := by decide +kernel
theorem dX4_fillHead_26 : decode cX4_fillHead 26 = .ok (.getfield 9, 3) := by decide +kernel
theorem dX4_fillHead_29 : decode cX4_fillHead 29 = .ok (.iconst 1, 1) := by decide +kernel
theorem dX4_fillHead_30 : decode cX4_fillHead 30 = .ok (.iload_n 1, 1) := by decide +kernel
theorem dX4_fillHead_31 : decode cX4_fillHead 31 = .ok (.iastore, 1) := by decide +kernel
theorem dX4_fillHead_32 : decode cX4_fillHead 32 = .ok (.aload_n 0, 1) := by decide +kernel
theorem dX4_fillHead_33 : decode cX4_fillHead 33 = .ok (.getfield 9, 3) := by decide +kernel
theorem dX4_fillHead_36 : decode cX4_fillHead 36 = .ok (.iconst 2, 1) := by decide +kernel
theorem dX4_fillHead_37 : decode cX4_fillHead 37 = .ok (.iload 4, 2) := by decide +kernel
theorem dX4_fillHead_39 : decode cX4_fillHead 39 = .ok (.iastore, 1) := by decide +kernel
theorem dX4_fillHead_40 : decode cX4_fillHead 40 = .ok (.aload_n 0, 1) := by decide +kernel
theorem dX4_fillHead_41 : decode cX4_fillHead 41 = .ok (.getfield 9, 3) := by decide +kernel
theorem dX4_fillHead_44 : decode cX4_fillHead 44 = .ok (.iconst 3, 1) := by decide +kernel
theorem dX4_fillHead_45 : decode cX4_fillHead 45 = .ok (.iload 5, 2) := by decide +kernel
theorem dX4_fillHead_47 : decode cX4_fillHead 47 = .ok (.iastore, 1) := by decide +kernel
theorem dX4_fillHead_48 : decode cX4_fillHead 48 = .ok (.aload_n 0, 1) := by decide +kernel
theorem dX4_fillHead_49 : decode cX4_fillHead 49 = .ok (.getfield 9, 3) := by decide +kernel
theorem dX4_fillHead_52 : decode cX4_fillHead 52 = .ok (.iconst 4, 1) := by decide +kernel
theorem dX4_fillHead_53 : decode cX4_fillHead 53 = .ok (.iload_n 2, 1) := by decide +kernel
theorem dX4_fillHead_54 : decode cX4_fillHead 54 = .ok (.iastore, 1) := by decide +kernel
theorem dX4_fillHead_55 : decode cX4_fillHead 55 = .ok (.aload_n 0, 1) := by decide +kernel
theorem dX4_fillHead_56 : decode cX4_fillHead 56 = .ok (.getfield 9, 3) := by decide +kernel
theorem dX4_fillHead_59 : decode cX4_fillHead 59 = .ok (.iconst 5, 1) := by decide +kernel
theorem dX4_fillHead_60 : decode cX4_fillHead 60 = .ok (.iload_n 1, 1) := by decide +kernel
theorem dX4_fillHead_61 : decode cX4_fillHead 61 = .ok (.iload 4, 2) := by decide +kernel
theorem dX4_fillHead_63 : decode cX4_fillHead 63 = .ok (.ixor, 1) := by decide +kernel
theorem dX4_fillHead_64 : decode cX4_fillHead 64 = .ok (.iload 5, 2) := by decide +kernel
theorem dX4_fillHead_66 : decode cX4_fillHead 66 = .ok (.ixor, 1) := by decide +kernel
theorem dX4_fillHead_67 : decode cX4_fillHead 67 = .ok (.iload_n 2, 1) := by decide +kernel
theorem dX4_fillHead_68 : decode cX4_fillHead 68 = .ok (.ixor, 1) := by decide +kernel
theorem dX4_fillHead_69 : decode cX4_fillHead 69 = .ok (.iastore, 1) := by decide +kernel
theorem dX4_fillHead_70 : decode cX4_fillHead 70 = .ok (.return_, 1) := by decide +kernel
theorem dX4_hasHead_0 : decode cX4_hasHead 0 = .ok (.iload_n 3, 1) := by decide +kernel
theorem dX4_hasHead_1 : decode cX4_hasHead 1 = .ok (.sipush 255, 3) := by decide +kernel
theorem dX4_hasHead_4 : decode cX4_hasHead 4 = .ok (.iand, 1) := by decide +kernel
theorem dX4_hasHead_5 : decode cX4_hasHead 5 = .ok (.istore 4, 2) := by decide +kernel
theorem dX4_hasHead_7 : decode cX4_hasHead 7 = .ok (.iload_n 3, 1) := by decide +kernel
theorem dX4_hasHead_8 : decode cX4_hasHead 8 = .ok (.bipush 8, 2) := by decide +kernel
theorem dX4_hasHead_10 : decode cX4_hasHead 10 = .ok (.ishr, 1) := by decide +kernel
theorem dX4_hasHead_11 : decode cX4_hasHead 11 = .ok (.sipush 255, 3) := by decide +kernel
theorem dX4_hasHead_14 : decode cX4_hasHead 14 = .ok (.iand, 1) := by decide +kernel
theorem dX4_hasHead_15 : decode cX4_hasHead 15 = .ok (.istore 5, 2) := by decide +kernel
theorem dX4_hasHead_17 : decode cX4_hasHead 17 = .ok (.aload_n 0, 1) := by decide +kernel
theorem dX4_hasHead_18 : decode cX4_hasHead 18 = .ok (.getfield 9, 3) := by decide +kernel
theorem dX4_hasHead_21 : decode cX4_hasHead 21 = .ok (.iconst 1, 1) := by decide +kernel
theorem dX4_hasHead_22 : decode cX4_hasHead 22 = .ok (.iaload, 1) := by decide +kernel
theorem dX4_hasHead_23 : decode cX4_hasHead 23 = .ok (.iload_n 1, 1) := by decide +kernel
theorem dX4_hasHead_24 : decode cX4_hasHead 24 = .ok (.if_icmp .ne 47, 3) := by decide +kernel
theorem dX4_hasHead_27 : decode cX4_hasHead 27 = .ok (.aload_n 0, 1) := by decide +kernel
theorem dX4_hasHead_28 : decode cX4_hasHead 28 = .ok (.getfield 9, 3) := by decide +kernel
theorem dX4_hasHead_31 : decode cX4_hasHead 31 = .ok (.iconst 2, 1) := by decide +kernel
theorem dX4_hasHead_32 : decode cX4_hasHead 32 = .ok (.iaload, 1) := by decide +kernel
theorem dX4_hasHead_33 : decode cX4_hasHead 33 = .ok (.iload 4, 2) := by decide +kernel
theorem dX4_hasHead_35 : decode cX4_hasHead 35 = .ok (.if_icmp .ne 36, 3) := by decide +kernel
theorem dX4_hasHead_38 : decode cX4_hasHead 38 = .ok (.aload_n 0, 1) := by decide +kernel
theorem dX4_hasHead_39 : decode cX4_hasHead 39 = .ok (.getfield 9, 3) := by decide +kernel
theorem dX4_hasHead_42 : decode cX4_hasHead 42 = .ok (.iconst 3, 1) := by decide +kernel
theorem dX4_hasHead_43 : decode cX4_hasHead 43 = .ok (.iaload, 1) := by decide +kernel
theorem dX4_hasHead_44 : decode cX4_hasHead 44 = .ok (.iload 5, 2) := by decide +kernel
theorem dX4_hasHead_46 : decode cX4_hasHead 46 = .ok (.if_icmp .ne 25, 3) := by decide +kernel
theorem dX4_hasHead_49 : decode cX4_hasHead 49 = .ok (.aload_n 0, 1) := by decide +kernel
theorem dX4_hasHead_50 : decode cX4_hasHead 50 = .ok (.getfield 9, 3) := by decide +kernel
theorem dX4_hasHead_53 : decode cX4_hasHead 53 = .ok (.iconst 5, 1) := by decide +kernel
theorem dX4_hasHead_54 : decode cX4_hasHead 54 = .ok (.iaload, 1) := by decide +kernel
theorem dX4_hasHead_55 : decode cX4_hasHead 55 = .ok (.iload_n 1, 1) := by decide +kernel
theorem dX4_hasHead_56 : decode cX4_hasHead 56 = .ok (.iload 4, 2) := by decide +kernel
theorem dX4_hasHead_58 : decode cX4_hasHead 58 = .ok (.ixor, 1) := by decide +kernel
theorem dX4_hasHead_59 : decode cX4_hasHead 59 = .ok (.iload 5, 2) := by decide +kernel
theorem dX4_hasHead_61 : decode cX4_hasHead 61 = .ok (.ixor, 1) := by decide +kernel
theorem dX4_hasHead_62 : decode cX4_hasHead 62 = .ok (.iload_n 2, 1) := by decide +kernel
theorem dX4_hasHead_63 : decode cX4_hasHead 63 = .ok (.ixor, 1) := by decide +kernel
theorem dX4_hasHead_64 : decode cX4_hasHead 64 = .ok (.if_icmp .ne 7, 3) := by decide +kernel
theorem dX4_hasHead_67 : decode cX4_hasHead 67 = .ok (.iconst 1, 1) := by decide +kernel
theorem dX4_hasHead_68 : decode cX4_hasHead 68 = .ok (.goto 4, 3) := by decide +kernel
theorem dX4_hasHead_71 : decode cX4_hasHead 71 = .ok (.iconst 0, 1) := by decide +kernel
theorem dX4_hasHead_72 : decode cX4_hasHead 72 = .ok (.ireturn, 1) := by decide +kernel
theorem dX4_isControl_0 : decode cX4_isControl 0 = .ok (.iload_n 0, 1) := by decide +kernel
theorem dX4_isControl_1 : decode cX4_isControl 1 = .ok (.iconst 1, 1) := by decide +kernel
theorem dX4_isControl_2 : decode cX4_isControl 2 = .ok (.if_icmp .eq 24, 3) := by decide +kernel
theorem dX4_isControl_5 : decode cX4_isControl 5 = .ok (.iload_n 0, 1) := by decide +kernel
theorem dX4_isControl_6 : decode cX4_isControl 6 = .ok (.iconst 2, 1) := by decide +kernel
theorem dX4_isControl_7 : decode cX4_isControl 7 = .ok (.if_icmp .eq 19, 3) := by decide +kernel
theorem dX4_isControl_10 : decode cX4_isControl 10 = .ok (.iload_n 0, 1) := by decide +kernel
theorem dX4_isControl_11 : decode cX4_isControl 11 = .ok (.iconst 4, 1) := by decide +kernel
theorem dX4_isControl_12 : decode cX4_isControl 12 = .ok (.if_icmp .eq 14, 3) := by decide +kernel
theorem dX4_isControl_15 : decode cX4_isControl 15 = .ok (.iload_n 0, 1) := by decide +kernel
theorem dX4_isControl_16 : decode cX4_isControl 16 = .ok (.iconst 5, 1) := by decide +kernel
theorem dX4_isControl_17 : decode cX4_isControl 17 = .ok (.if_icmp .eq 9, 3) := by decide +kernel
theorem dX4_isControl_20 : decode cX4_isControl 20 = .ok (.iload_n 0, 1) := by decide +kernel
theorem dX4_isControl_21 : decode cX4_isControl 21 = .ok (.bipush 7, 2) := by decide +kernel
theorem dX4_isControl_23 : decode cX4_isControl 23 = .ok (.if_icmp .ne 7, 3) := by decide +kernel
theorem dX4_isControl_26 : decode cX4_isControl 26 = .ok (.iconst 1, 1) := by decide +kernel
theorem dX4_isControl_27 : decode cX4_isControl 27 = .ok (.goto 4, 3) := by decide +kernel
theorem dX4_isControl_30 : decode cX4_isControl 30 = .ok (.iconst 0, 1) := by decide +kernel
theorem dX4_isControl_31 : decode cX4_isControl 31 = .ok (.ireturn, 1) := by decide +kernel
theorem dX4_isMessageWellFormed_0 : decode cX4_isMessageWellFormed 0 = .ok (.aload_n 0, 1) := by decide +kernel
theorem dX4_isMessageWellFormed_1 : decode cX4_isMessageWellFormed 1 = .ok (.getfield 9, 3) := by decide +kernel
theorem dX4_isMessageWellFormed_4 : decode cX4_isMessageWellFormed 4 = .ok (.bipush 6, 2) := by decide +kernel
theorem dX4_isMessageWellFormed_6 : decode cX4_isMessageWellFormed 6 = .ok (.iaload, 1) := by decide +kernel
theorem dX4_isMessageWellFormed_7 : decode cX4_isMessageWellFormed 7 = .ok (.istore_n 1, 1) := by decide +kernel
theorem dX4_isMessageWellFormed_8 : decode cX4_isMessageWellFormed 8 = .ok (.iload_n 1, 1) := by decide +kernel
theorem dX4_isMessageWellFormed_9 : decode cX4_isMessageWellFormed 9 = .ok (.iconst 1, 1) := by decide +kernel
theorem dX4_isMessageWellFormed_10 : decode cX4_isMessageWellFormed 10 = .ok (.if_icmp .lt 9, 3) := by decide +kernel
theorem dX4_isMessageWellFormed_13 : decode cX4_isMessageWellFormed 13 = .ok (.iload_n 1, 1) := by decide +kernel
theorem dX4_isMessageWellFormed_14 : decode cX4_isMessageWellFormed 14 = .ok (.bipush 31, 2) := by decide +kernel
theorem dX4_isMessageWellFormed_16 : decode cX4_isMessageWellFormed 16 = .ok (.if_icmp .le 5, 3) := by decide +kernel
theorem dX4_isMessageWellFormed_19 : decode cX4_isMessageWellFormed 19 = .ok (.iconst 0, 1) := by decide +kernel
theorem dX4_isMessageWellFormed_20 : decode cX4_isMessageWellFormed 20 = .ok (.ireturn, 1) := by decide +kernel
theorem dX4_isMessageWellFormed_21 : decode cX4_isMessageWellFormed 21 = .ok (.bipush 7, 2) := by decide +kernel
theorem dX4_isMessageWellFormed_23 : decode cX4_isMessageWellFormed 23 = .ok (.iload_n 1, 1) := by decide +kernel
theorem dX4_isMessageWellFormed_24 : decode cX4_isMessageWellFormed 24 = .ok (.iadd, 1) := by decide +kernel
theorem dX4_isMessageWellFormed_25 : decode cX4_isMessageWellFormed 25 = .ok (.istore_n 2, 1) := by decide +kernel
theorem dX4_isMessageWellFormed_26 : decode cX4_isMessageWellFormed 26 = .ok (.iload_n 2, 1) := by decide +kernel
theorem dX4_isMessageWellFormed_27 : decode cX4_isMessageWellFormed 27 = .ok (.bipush 38, 2) := by decide +kernel
theorem dX4_isMessageWellFormed_29 : decode cX4_isMessageWellFormed 29 = .ok (.if_icmp .ge 20, 3) := by decide +kernel
theorem dX4_isMessageWellFormed_32 : decode cX4_isMessageWellFormed 32 = .ok (.aload_n 0, 1) := by decide +kernel
theorem dX4_isMessageWellFormed_33 : decode cX4_isMessageWellFormed 33 = .ok (.getfield 9, 3) := by decide +kernel
theorem dX4_isMessageWellFormed_36 : decode cX4_isMessageWellFormed 36 = .ok (.iload_n 2, 1) := by decide +kernel
theorem dX4_isMessageWellFormed_37 : decode cX4_isMessageWellFormed 37 = .ok (.iaload, 1) := by decide +kernel
theorem dX4_isMessageWellFormed_38 : decode cX4_isMessageWellFormed 38 = .ok (.ifCond .eq 5, 3) := by decide +kernel
theorem dX4_isMessageWellFormed_41 : decode cX4_isMessageWellFormed 41 = .ok (.iconst 0, 1) := by decide +kernel
theorem dX4_isMessageWellFormed_42 : decode cX4_isMessageWellFormed 42 = .ok (.ireturn, 1) := by decide +kernel
theorem dX4_isMessageWellFormed_43 : decode cX4_isMessageWellFormed 43 = .ok (.iinc 2 1, 3) := by decide +kernel
theorem dX4_isMessageWellFormed_46 : decode cX4_isMessageWellFormed 46 = .ok (.goto (-20), 3) := by decide +kernel
theorem dX4_isMessageWellFormed_49 : decode cX4_isMessageWellFormed 49 = .ok (.iconst 1, 1) := by decide +kernel
theorem dX4_isMessageWellFormed_50 : decode cX4_isMessageWellFormed 50 = .ok (.ireturn, 1) := by decide +kernel
theorem dX4_sum_0 : decode cX4_sum 0 = .ok (.ldc 48, 2) := by decide +kernel
theorem dX4_sum_2 : decode cX4_sum 2 = .ok (.istore_n 1, 1) := by decide +kernel
theorem dX4_sum_3 : decode cX4_sum 3 = .ok (.iconst 0, 1) := by decide +kernel
theorem dX4_sum_4 : decode cX4_sum 4 = .ok (.istore_n 2, 1) := by decide +kernel
theorem dX4_sum_5 : decode cX4_sum 5 = .ok (.bipush 32, 2) := by decide +kernel
theorem dX4_sum_7 : decode cX4_sum 7 = .ok (.istore_n 3, 1) := by decide +kernel
theorem dX4_sum_8 : decode cX4_sum 8 = .ok (.iload_n 3, 1) := by decide +kernel
theorem dX4_sum_9 : decode cX4_sum 9 = .ok (.ifCond .le 60, 3) := by decide +kernel
theorem dX4_sum_12 : decode cX4_sum 12 = .ok (.iload_n 1, 1) := by decide +kernel
theorem dX4_sum_13 : decode cX4_sum 13 = .ok (.istore 4, 2) := by decide +kernel
theorem dX4_sum_15 : decode cX4_sum 15 = .ok (.iload_n 1, 1) := by decide +kernel
theorem dX4_sum_16 : decode cX4_sum 16 = .ok (.iconst 1, 1) := by decide +kernel
theorem dX4_sum_17 : decode cX4_sum 17 = .ok (.ishl, 1) := by decide +kernel
theorem dX4_sum_18 : decode cX4_sum 18 = .ok (.iload_n 1, 1) := by decide +kernel
theorem dX4_sum_19 : decode cX4_sum 19 = .ok (.bipush 15, 2) := by decide +kernel
theorem dX4_sum_21 : decode cX4_sum 21 = .ok (.ishr, 1) := by decide +kernel
theorem dX4_sum_22 : decode cX4_sum 22 = .ok (.ior, 1) := by decide +kernel
theorem dX4_sum_23 : decode cX4_sum 23 = .ok (.ldc 48, 2) := by decide +kernel
theorem dX4_sum_25 : decode cX4_sum 25 = .ok (.iand, 1) := by decide +kernel
theorem dX4_sum_26 : decode cX4_sum 26 = .ok (.istore 5, 2) := by decide +kernel
theorem dX4_sum_28 : decode cX4_sum 28 = .ok (.iload 5, 2) := by decide +kernel
theorem dX4_sum_30 : decode cX4_sum 30 = .ok (.aload_n 0, 1) := by decide +kernel
theorem dX4_sum_31 : decode cX4_sum 31 = .ok (.getfield 9, 3) := by decide +kernel
theorem dX4_sum_34 : decode cX4_sum 34 = .ok (.bipush 38, 2) := by decide +kernel
theorem dX4_sum_36 : decode cX4_sum 36 = .ok (.iload_n 3, 1) := by decide +kernel
theorem dX4_sum_37 : decode cX4_sum 37 = .ok (.isub, 1) := by decide +kernel
theorem dX4_sum_38 : decode cX4_sum 38 = .ok (.iaload, 1) := by decide +kernel
theorem dX4_sum_39 : decode cX4_sum 39 = .ok (.iadd, 1) := by decide +kernel
theorem dX4_sum_40 : decode cX4_sum 40 = .ok (.ldc 48, 2) := by decide +kernel
theorem dX4_sum_42 : decode cX4_sum 42 = .ok (.iand, 1) := by decide +kernel
theorem dX4_sum_43 : decode cX4_sum 43 = .ok (.istore_n 1, 1) := by decide +kernel
theorem dX4_sum_44 : decode cX4_sum 44 = .ok (.iload_n 2, 1) := by decide +kernel
theorem dX4_sum_45 : decode cX4_sum 45 = .ok (.iload_n 1, 1) := by decide +kernel
theorem dX4_sum_46 : decode cX4_sum 46 = .ok (.iload_n 3, 1) := by decide +kernel
theorem dX4_sum_47 : decode cX4_sum 47 = .ok (.ixor, 1) := by decide +kernel
theorem dX4_sum_48 : decode cX4_sum 48 = .ok (.iadd, 1) := by decide +kernel
theorem dX4_sum_49 : decode cX4_sum 49 = .ok (.ldc 48, 2) := by decide +kernel
theorem dX4_sum_51 : decode cX4_sum 51 = .ok (.iand, 1) := by decide +kernel
theorem dX4_sum_52 : decode cX4_sum 52 = .ok (.istore_n 2, 1) := by decide +kernel
theorem dX4_sum_53 : decode cX4_sum 53 = .ok (.iload_n 1, 1) := by decide +kernel
theorem dX4_sum_54 : decode cX4_sum 54 = .ok (.iload 4, 2) := by decide +kernel
theorem dX4_sum_56 : decode cX4_sum 56 = .ok (.if_icmp .gt 7, 3) := by decide +kernel
theorem dX4_sum_59 : decode cX4_sum 59 = .ok (.iload_n 1, 1) := by decide +kernel
theorem dX4_sum_60 : decode cX4_sum 60 = .ok (.iload_n 2, 1) := by decide +kernel
theorem dX4_sum_61 : decode cX4_sum 61 = .ok (.ixor, 1) := by decide +kernel
theorem dX4_sum_62 : decode cX4_sum 62 = .ok (.istore_n 1, 1) := by decide +kernel
theorem dX4_sum_63 : decode cX4_sum 63 = .ok (.iinc 3 (-1), 3) := by decide +kernel
theorem dX4_sum_66 : decode cX4_sum 66 = .ok (.goto (-58), 3) := by decide +kernel
theorem dX4_sum_69 : decode cX4_sum 69 = .ok (.iload_n 1, 1) := by decide +kernel
theorem dX4_sum_70 : decode cX4_sum 70 = .ok (.ireturn, 1) := by decide +kernel
