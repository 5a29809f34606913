theorem dX8_init_0 : decode cX8_init 0 = .ok (.aload_n 0, 1) := by decide +kernel
theorem dX8_init_1 : decode cX8_init 1 = .ok (.invokespecial 1, 3) := by decide +kernel
theorem dX8_init_4 : decode cX8_init 4 = .ok (.aload_n 0, 1) := by decide +kernel
theorem dX8_init_5 : decode cX8_init 5 = .ok (.new 7, 3) := by decide +kernel
theorem dX8_init_8 : decode cX8_init 8 = .ok (.dup, 1) := by decide +kernel
theorem dX8_init_9 : decode cX8_init 9 = .ok (.invokespecial 9, 3) := by decide +kernel
theorem dX8_init_12 : decode cX8_init 12 = .ok (.putfield 10, 3) := by decide +kernel
theorem dX8_init_15 : decode cX8_init 15 = .ok (.aload_n 0, 1) := by decide +kernel
theorem dX8_init_16 : decode cX8_init 16 = .ok (.new 7, 3) := by decide +kernel
theorem dX8_init_19 : decode cX8_init 19 = .ok (.dup, 1) := by decide +kernel
theorem dX8_init_20 : decode cX8_init 20 = .ok (.invokespecial 9, 3) := by decide +kernel
theorem dX8_init_23 : decode cX8_init 23 = .ok (.putfield 16, 3) := by decide +kernel
theorem dX8_init_26 : decode cX8_init 26 = .ok (.aload_n 0, 1) := by decide +kernel
theorem dX8_init_27 : decode cX8_init 27 = .ok (.new 7, 3) := by decide +kernel
theorem dX8_init_30 : decode cX8_init 30 = .ok (.dup, 1) := by decide +kernel
theorem dX8_init_31 : decode cX8_init 31 = .ok (.invokespecial 9, 3) := by decide +kernel
theorem dX8_init_34 : decode cX8_init 34 = .ok (.putfield 19, 3) := by decide +kernel
theorem dX8_init_37 : decode cX8_init 37 = .ok (.aload_n 0, 1) := by decide +kernel
theorem dX8_init_38 : decode cX8_init 38 = .ok (.new 22, 3) := by decide +kernel
theorem dX8_init_41 : decode cX8_init 41 = .ok (.dup, 1) := by decide +kernel
theorem dX8_init_42 : decode cX8_init 42 = .ok (.invokespecial 24, 3) := by decide +kernel
theorem dX8_init_45 : decode cX8_init 45 = .ok (.putfield 25, 3) := by decide +kernel
theorem dX8_init_48 : decode cX8_init 48 = .ok (.aload_n 0, 1) := by decide +kernel
theorem dX8_init_49 : decode cX8_init 49 = .ok (.new 29, 3) := by decide +kernel
theorem dX8_init_52 : decode cX8_init 52 = .ok (.dup, 1) := by decide +kernel
theorem dX8_init_53 : decode cX8_init 53 = .ok (.invokespecial 31, 3) := by decide +kernel
theorem dX8_init_56 : decode cX8_init 56 = .ok (.putfield 32, 3) := by decide +kernel
theorem dX8_init_59 : decode cX8_init 59 = .ok (.aload_n 0, 1) := by decide +kernel
theorem dX8_init_60 : decode cX8_init 60 = .ok (.new 36, 3) := by decide +kernel
theorem dX8_init_63 : decode cX8_init 63 = .ok (.dup, 1) := by decide +kernel
theorem dX8_init_64 : decode cX8_init 64 = .ok (.aload_n 0, 1) := by decide +kernel
theorem dX8_init_65 : decode cX8_init 65 = .ok (.getfield 10, 3) := by decide +kernel
theorem dX8_init_68 : decode cX8_init 68 = .ok (.invokespecial 38, 3) := by decide +kernel
theorem dX8_init_71 : decode cX8_init 71 = .ok (.putfield 41, 3) := by decide +kernel
theorem dX8_init_74 : decode cX8_init 74 = .ok (.aload_n 0, 1) := by decide +kernel
theorem dX8_init_75 : decode cX8_init 75 = .ok (.new 45, 3) := by decide +kernel
theorem dX8_init_78 : decode cX8_init 78 = .ok (.dup, 1) := by decide +kernel
theorem dX8_init_79 : decode cX8_init 79 = .ok (.aload_n 0, 1) := by decide +kernel
theorem dX8_init_80 : decode cX8_init 80 = .ok (.getfield 10, 3) := by decide +kernel
theorem dX8_init_83 : decode cX8_init 83 = .ok (.aload_n 0, 1) := by decide +kernel
theorem dX8_init_84 : decode cX8_init 84 = .ok (.getfield 41, 3) := by decide +kernel
theorem dX8_init_87 : decode cX8_init 87 = .ok (.invokespecial 47, 3) := by decide +kernel
theorem dX8_init_90 : decode cX8_init 90 = .ok (.putfield 50, 3) := by decide +kernel
theorem dX8_init_93 : decode cX8_init 93 = .ok (.aload_n 0, 1) := by decide +kernel
theorem dX8_init_94 : decode cX8_init 94 = .ok (.new 54, 3) := by decide +kernel
theorem dX8_init_97 : decode cX8_init 97 = .ok (.dup, 1) := by decide +kernel
theorem dX8_init_98 : decode cX8_init 98 = .ok (.aload_n 0, 1) := by decide +kernel
theorem dX8_init_99 : decode cX8_init 99 = .ok (.getfield 25, 3) := by decide +kernel
theorem dX8_init_102 : decode cX8_init 102 = .ok (.aload_n 0, 1) := by decide +kernel
theorem dX8_init_103 : decode cX8_init 103 = .ok (.getfield 19, 3) := by decide +kernel
theorem dX8_init_106 : decode cX8_init 106 = .ok (.invokespecial 56, 3) := by decide +kernel
theorem dX8_init_109 : decode cX8_init 109 = .ok (.putfield 59, 3) := by decide +kernel
theorem dX8_init_112 : decode cX8_init 112 = .ok (.aload_n 0, 1) := by decide +kernel
theorem dX8_init_113 : decode cX8_init 113 = .ok (.new 63, 3) := by decide +kernel
theorem dX8_init_116 : decode cX8_init 116 = .ok (.dup, 1) := by decide +kernel
theorem dX8_init_117 : decode cX8_init 117 = .ok (.bipush 8, 2) := by decide +kernel
theorem dX8_init_119 : decode cX8_init 119 = .ok (.invokespecial 65, 3) := by decide +kernel
theorem dX8_init_122 : decode cX8_init 122 = .ok (.putfield 68, 3) := by decide +kernel
theorem dX8_init_125 : decode cX8_init 125 = .ok (.aload_n 0, 1) := by decide +kernel
theorem dX8_init_126 : decode cX8_init 126 = .ok (.iconst (-1), 1) := by decide +kernel
theorem dX8_init_127 : decode cX8_init 127 = .ok (.putfield 72, 3) := by decide +kernel
theorem dX8_init_130 : decode cX8_init 130 = .ok (.aload_n 0, 1) := by decide +kernel
theorem dX8_init_131 : decode cX8_init 131 = .ok (.iconst 0, 1) := by decide +kernel
theorem dX8_init_132 : decode cX8_init 132 = .ok (.putfield 76, 3) := by decide +kernel
theorem dX8_init_135 : decode cX8_init 135 = .ok (.return_, 1) := by decide +kernel
theorem dX8_refuse_0 : decode cX8_refuse 0 = .ok (.aload_n 0, 1) := by decide +kernel
theorem dX8_refuse_1 : decode cX8_refuse 1 = .ok (.getfield 68, 3) := by decide +kernel
theorem dX8_refuse_4 : decode cX8_refuse 4 = .ok (.iload_n 1, 1) := by decide +kernel
theorem dX8_refuse_5 : decode cX8_refuse 5 = .ok (.ineg, 1) := by decide +kernel
theorem dX8_refuse_6 : decode cX8_refuse 6 = .ok (.aload_n 0, 1) := by decide +kernel
theorem dX8_refuse_7 : decode cX8_refuse 7 = .ok (.getfield 68, 3) := by decide +kernel
theorem dX8_refuse_10 : decode cX8_refuse 10 = .ok (.iload_n 1, 1) := by decide +kernel
theorem dX8_refuse_11 : decode cX8_refuse 11 = .ok (.ineg, 1) := by decide +kernel
theorem dX8_refuse_12 : decode cX8_refuse 12 = .ok (.invokevirtual 80, 3) := by decide +kernel
theorem dX8_refuse_15 : decode cX8_refuse 15 = .ok (.iconst 1, 1) := by decide +kernel
theorem dX8_refuse_16 : decode cX8_refuse 16 = .ok (.iadd, 1) := by decide +kernel
theorem dX8_refuse_17 : decode cX8_refuse 17 = .ok (.invokevirtual 84, 3) := by decide +kernel
theorem dX8_refuse_20 : decode cX8_refuse 20 = .ok (.iload_n 1, 1) := by decide +kernel
theorem dX8_refuse_21 : decode cX8_refuse 21 = .ok (.ireturn, 1) := by decide +kernel
theorem dX8_refuseApart_0 : decode cX8_refuseApart 0 = .ok (.aload_n 0, 1) := by decide +kernel
theorem dX8_refuseApart_1 : decode cX8_refuseApart 1 = .ok (.iload_n 1, 1) := by decide +kernel
theorem dX8_refuseApart_2 : decode cX8_refuseApart 2 = .ok (.invokevirtual 88, 3) := by decide +kernel
theorem dX8_refuseApart_5 : decode cX8_refuseApart 5 = .ok (.bipush 10, 2) := by decide +kernel
theorem dX8_refuseApart_7 : decode cX8_refuseApart 7 = .ok (.isub, 1) := by decide +kernel
theorem dX8_refuseApart_8 : decode cX8_refuseApart 8 = .ok (.ireturn, 1) := by decide +kernel
theorem dX8_isCount_0 : decode cX8_isCount 0 = .ok (.iload_n 0, 1) := by decide +kernel
theorem dX8_isCount_1 : decode cX8_isCount 1 = .ok (.iload_n 1, 1) := by decide +kernel
theorem dX8_isCount_2 : decode cX8_isCount 2 = .ok (.if_icmp .lt 12, 3) := by decide +kernel
theorem dX8_isCount_5 : decode cX8_isCount 5 = .ok (.iload_n 0, 1) := by decide +kernel
theorem dX8_isCount_6 : decode cX8_isCount 6 = .ok (.iload_n 2, 1) := by decide +kernel
theorem dX8_isCount_7 : decode cX8_isCount 7 = .ok (.if_icmp .gt 7, 3) := by decide +kernel
theorem dX8_isCount_10 : decode cX8_isCount 10 = .ok (.iconst 1, 1) := by decide +kernel
theorem dX8_isCount_11 : decode cX8_isCount 11 = .ok (.goto 4, 3) := by decide +kernel
theorem dX8_isCount_14 : decode cX8_isCount 14 = .ok (.iconst 0, 1) := by decide +kernel
theorem dX8_isCount_15 : decode cX8_isCount 15 = .ok (.ireturn, 1) := by decide +kernel
theorem dX8_isSet_0 : decode cX8_isSet 0 = .ok (.iload_n 0, 1) := by decide +kernel
theorem dX8_isSet_1 : decode cX8_isSet 1 = .ok (.ifCond .lt 14, 3) := by decide +kernel
theorem dX8_isSet_4 : decode cX8_isSet 4 = .ok (.iload_n 0, 1) := by decide +kernel
theorem dX8_isSet_5 : decode cX8_isSet 5 = .ok (.sipush 255, 3) := by decide +kernel
theorem dX8_isSet_8 : decode cX8_isSet 8 = .ok (.if_icmp .gt 7, 3) := by decide +kernel
theorem dX8_isSet_11 : decode cX8_isSet 11 = .ok (.iconst 1, 1) := by decide +kernel
theorem dX8_isSet_12 : decode cX8_isSet 12 = .ok (.goto 4, 3) := by decide +kernel
theorem dX8_isSet_15 : decode cX8_isSet 15 = .ok (.iconst 0, 1) := by decide +kernel
theorem dX8_isSet_16 : decode cX8_isSet 16 = .ok (.ireturn, 1) := by decide +kernel
theorem dX8_isLag_0 : decode cX8_isLag 0 = .ok (.iload_n 0, 1) := by decide +kernel
theorem dX8_isLag_1 : decode cX8_isLag 1 = .ok (.iconst 1, 1) := by decide +kernel
theorem dX8_isLag_2 : decode cX8_isLag 2 = .ok (.iconst 3, 1) := by decide +kernel
theorem dX8_isLag_3 : decode cX8_isLag 3 = .ok (.invokestatic 91, 3) := by decide +kernel
theorem dX8_isLag_6 : decode cX8_isLag 6 = .ok (.ireturn, 1) := by decide +kernel
theorem dX8_troubleWithRoute_0 : decode cX8_troubleWithRoute 0 = .ok (.aload_n 0, 1) := by decide +kernel
theorem dX8_troubleWithRoute_1 : decode cX8_troubleWithRoute 1 = .ok (.getfield 25, 3) := by decide +kernel
theorem dX8_troubleWithRoute_4 : decode cX8_troubleWithRoute 4 = .ok (.iload_n 1, 1) := by decide +kernel
theorem dX8_troubleWithRoute_5 : decode cX8_troubleWithRoute 5 = .ok (.iload_n 2, 1) := by decide +kernel
theorem dX8_troubleWithRoute_6 : decode cX8_troubleWithRoute 6 = .ok (.invokevirtual 95, 3) := by decide +kernel
theorem dX8_troubleWithRoute_9 : decode cX8_troubleWithRoute 9 = .ok (.istore 4, 2) := by decide +kernel
theorem dX8_troubleWithRoute_11 : decode cX8_troubleWithRoute 11 = .ok (.iload 4, 2) := by decide +kernel
theorem dX8_troubleWithRoute_13 : decode cX8_troubleWithRoute 13 = .ok (.ifCond .eq 6, 3) := by decide +kernel
theorem dX8_troubleWithRoute_16 : decode cX8_troubleWithRoute 16 = .ok (.iload 4, 2) := by decide +kernel
theorem dX8_troubleWithRoute_18 : decode cX8_troubleWithRoute 18 = .ok (.ireturn, 1) := by decide +kernel
theorem dX8_troubleWithRoute_19 : decode cX8_troubleWithRoute 19 = .ok (.iload_n 2, 1) := by decide +kernel
theorem dX8_troubleWithRoute_20 : decode cX8_troubleWithRoute 20 = .ok (.iload_n 3, 1) := by decide +kernel
theorem dX8_troubleWithRoute_21 : decode cX8_troubleWithRoute 21 = .ok (.if_icmp .gt 13, 3) := by decide +kernel
theorem dX8_troubleWithRoute_24 : decode cX8_troubleWithRoute 24 = .ok (.aload_n 0, 1) := by decide +kernel
theorem dX8_troubleWithRoute_25 : decode cX8_troubleWithRoute 25 = .ok (.getfield 10, 3) := by decide +kernel
theorem dX8_troubleWithRoute_28 : decode cX8_troubleWithRoute 28 = .ok (.invokevirtual 99, 3) := by decide +kernel
theorem dX8_troubleWithRoute_31 : decode cX8_troubleWithRoute 31 = .ok (.ifCond .ne 8, 3) := by decide +kernel
theorem dX8_troubleWithRoute_34 : decode cX8_troubleWithRoute 34 = .ok (.bipush (-6), 2) := by decide +kernel
theorem dX8_troubleWithRoute_36 : decode cX8_troubleWithRoute 36 = .ok (.goto 4, 3) := by decide +kernel
theorem dX8_troubleWithRoute_39 : decode cX8_troubleWithRoute 39 = .ok (.iconst 0, 1) := by decide +kernel
theorem dX8_troubleWithRoute_40 : decode cX8_troubleWithRoute 40 = .ok (.ireturn, 1) := by decide +kernel
theorem dX8_troubleInThought_0 : decode cX8_troubleInThought 0 = .ok (.aload_n 0, 1) := by decide +kernel
theorem dX8_troubleInThought_1 : decode cX8_troubleInThought 1 = .ok (.getfield 10, 3) := by decide +kernel
theorem dX8_troubleInThought_4 : decode cX8_troubleInThought 4 = .ok (.iload_n 1, 1) := by decide +kernel
theorem dX8_troubleInThought_5 : decode cX8_troubleInThought 5 = .ok (.invokevirtual 103, 3) := by decide +kernel
theorem dX8_troubleInThought_8 : decode cX8_troubleInThought 8 = .ok (.ifCond .ne 5, 3) := by decide +kernel
theorem dX8_troubleInThought_11 : decode cX8_troubleInThought 11 = .ok (.iconst (-1), 1) := by decide +kernel
theorem dX8_troubleInThought_12 : decode cX8_troubleInThought 12 = .ok (.ireturn, 1) := by decide +kernel
theorem dX8_troubleInThought_13 : decode cX8_troubleInThought 13 = .ok (.iload_n 2, 1) := by decide +kernel
theorem dX8_troubleInThought_14 : decode cX8_troubleInThought 14 = .ok (.invokestatic 107, 3) := by decide +kernel
theorem dX8_troubleInThought_17 : decode cX8_troubleInThought 17 = .ok (.ifCond .eq 21, 3) := by decide +kernel
theorem dX8_troubleInThought_20 : decode cX8_troubleInThought 20 = .ok (.iload_n 3, 1) := by decide +kernel
theorem dX8_troubleInThought_21 : decode cX8_troubleInThought 21 = .ok (.ifCond .eq 17, 3) := by decide +kernel
theorem dX8_troubleInThought_24 : decode cX8_troubleInThought 24 = .ok (.aload_n 0, 1) := by decide +kernel
theorem dX8_troubleInThought_25 : decode cX8_troubleInThought 25 = .ok (.getfield 10, 3) := by decide +kernel
theorem dX8_troubleInThought_28 : decode cX8_troubleInThought 28 = .ok (.invokevirtual 99, 3) := by decide +kernel
theorem dX8_troubleInThought_31 : decode cX8_troubleInThought 31 = .ok (.ifCond .eq 7, 3) := by decide +kernel
theorem dX8_troubleInThought_34 : decode cX8_troubleInThought 34 = .ok (.iconst 0, 1) := by decide +kernel
theorem dX8_troubleInThought_35 : decode cX8_troubleInThought 35 = .ok (.goto 5, 3) := by decide +kernel
theorem dX8_troubleInThought_38 : decode cX8_troubleInThought 38 = .ok (.bipush (-6), 2) := by decide +kernel
theorem dX8_troubleInThought_40 : decode cX8_troubleInThought 40 = .ok (.ireturn, 1) := by decide +kernel
theorem dX8_row_0 : decode cX8_row 0 = .ok (.aload_n 0, 1) := by decide +kernel
theorem dX8_row_1 : decode cX8_row 1 = .ok (.getfield 25, 3) := by decide +kernel
theorem dX8_row_4 : decode cX8_row 4 = .ok (.iload_n 1, 1) := by decide +kernel
theorem dX8_row_5 : decode cX8_row 5 = .ok (.invokevirtual 110, 3) := by decide +kernel
theorem dX8_row_8 : decode cX8_row 8 = .ok (.ifCond .ne 9, 3) := by decide +kernel
theorem dX8_row_11 : decode cX8_row 11 = .ok (.aload_n 0, 1) := by decide +kernel
theorem dX8_row_12 : decode cX8_row 12 = .ok (.iconst (-1), 1) := by decide +kernel
theorem dX8_row_13 : decode cX8_row 13 = .ok (.invokevirtual 88, 3) := by decide +kernel
theorem dX8_row_16 : decode cX8_row 16 = .ok (.ireturn, 1) := by decide +kernel
theorem dX8_row_17 : decode cX8_row 17 = .ok (.iload_n 3, 1) := by decide +kernel
theorem dX8_row_18 : decode cX8_row 18 = .ok (.ifCond .ge 10, 3) := by decide +kernel
theorem dX8_row_21 : decode cX8_row 21 = .ok (.aload_n 0, 1) := by decide +kernel
theorem dX8_row_22 : decode cX8_row 22 = .ok (.bipush (-4), 2) := by decide +kernel
theorem dX8_row_24 : decode cX8_row 24 = .ok (.invokevirtual 88, 3) := by decide +kernel
theorem dX8_row_27 : decode cX8_row 27 = .ok (.ireturn, 1) := by decide +kernel
theorem dX8_row_28 : decode cX8_row 28 = .ok (.aload_n 0, 1) := by decide +kernel
theorem dX8_row_29 : decode cX8_row 29 = .ok (.getfield 25, 3) := by decide +kernel
theorem dX8_row_32 : decode cX8_row 32 = .ok (.iload_n 2, 1) := by decide +kernel
theorem dX8_row_33 : decode cX8_row 33 = .ok (.invokevirtual 113, 3) := by decide +kernel
theorem dX8_row_36 : decode cX8_row 36 = .ok (.ifCond .ne 10, 3) := by decide +kernel
theorem dX8_row_39 : decode cX8_row 39 = .ok (.aload_n 0, 1) := by decide +kernel
theorem dX8_row_40 : decode cX8_row 40 = .ok (.bipush (-6), 2) := by decide +kernel
theorem dX8_row_42 : decode cX8_row 42 = .ok (.invokevirtual 88, 3) := by decide +kernel
theorem dX8_row_45 : decode cX8_row 45 = .ok (.ireturn, 1) := by decide +kernel
theorem dX8_row_46 : decode cX8_row 46 = .ok (.iload_n 3, 1) := by decide +kernel
theorem dX8_row_47 : decode cX8_row 47 = .ok (.sipush 160, 3) := by decide +kernel
theorem dX8_row_50 : decode cX8_row 50 = .ok (.if_icmp .le 10, 3) := by decide +kernel
theorem dX8_row_53 : decode cX8_row 53 = .ok (.aload_n 0, 1) := by decide +kernel
theorem dX8_row_54 : decode cX8_row 54 = .ok (.bipush (-7), 2) := by decide +kernel
theorem dX8_row_56 : decode cX8_row 56 = .ok (.invokevirtual 88, 3) := by decide +kernel
theorem dX8_row_59 : decode cX8_row 59 = .ok (.ireturn, 1) := by decide +kernel
theorem dX8_row_60 : decode cX8_row 60 = .ok (.aload_n 0, 1) := by decide +kernel
theorem dX8_row_61 : decode cX8_row 61 = .ok (.getfield 25, 3) := by decide +kernel
theorem dX8_row_64 : decode cX8_row 64 = .ok (.iload_n 1, 1) := by decide +kernel
theorem dX8_row_65 : decode cX8_row 65 = .ok (.iload_n 2, 1) := by decide +kernel
theorem dX8_row_66 : decode cX8_row 66 = .ok (.iload_n 3, 1) := by decide +kernel
theorem dX8_row_67 : decode cX8_row 67 = .ok (.invokevirtual 116, 3) := by decide +kernel
theorem dX8_row_70 : decode cX8_row 70 = .ok (.iconst 1, 1) := by decide +kernel
theorem dX8_row_71 : decode cX8_row 71 = .ok (.ireturn, 1) := by decide +kernel
theorem dX8_set_0 : decode cX8_set 0 = .ok (.aload_n 0, 1) := by decide +kernel
theorem dX8_set_1 : decode cX8_set 1 = .ok (.getfield 25, 3) := by decide +kernel
theorem dX8_set_4 : decode cX8_set 4 = .ok (.iload_n 1, 1) := by decide +kernel
theorem dX8_set_5 : decode cX8_set 5 = .ok (.invokevirtual 120, 3) := by decide +kernel
theorem dX8_set_8 : decode cX8_set 8 = .ok (.istore 5, 2) := by decide +kernel
theorem dX8_set_10 : decode cX8_set 10 = .ok (.iload 5, 2) := by decide +kernel
theorem dX8_set_12 : decode cX8_set 12 = .ok (.ifCond .ne 19, 3) := by decide +kernel
theorem dX8_set_15 : decode cX8_set 15 = .ok (.aload_n 0, 1) := by decide +kernel
theorem dX8_set_16 : decode cX8_set 16 = .ok (.getfield 25, 3) := by decide +kernel
theorem dX8_set_19 : decode cX8_set 19 = .ok (.iload_n 1, 1) := by decide +kernel
theorem dX8_set_20 : decode cX8_set 20 = .ok (.iload_n 2, 1) := by decide +kernel
theorem dX8_set_21 : decode cX8_set 21 = .ok (.invokevirtual 123, 3) := by decide +kernel
theorem dX8_set_24 : decode cX8_set 24 = .ok (.ifCond .ne 7, 3) := by decide +kernel
theorem dX8_set_27 : decode cX8_set 27 = .ok (.bipush (-5), 2) := by decide +kernel
theorem dX8_set_29 : decode cX8_set 29 = .ok (.istore 5, 2) := by decide +kernel
theorem dX8_set_31 : decode cX8_set 31 = .ok (.iload 5, 2) := by decide +kernel
theorem dX8_set_33 : decode cX8_set 33 = .ok (.ifCond .eq 10, 3) := by decide +kernel
theorem dX8_set_36 : decode cX8_set 36 = .ok (.aload_n 0, 1) := by decide +kernel
theorem dX8_set_37 : decode cX8_set 37 = .ok (.iload 5, 2) := by decide +kernel
theorem dX8_set_39 : decode cX8_set 39 = .ok (.invokevirtual 88, 3) := by decide +kernel
theorem dX8_set_42 : decode cX8_set 42 = .ok (.ireturn, 1) := by decide +kernel
theorem dX8_set_43 : decode cX8_set 43 = .ok (.aload_n 0, 1) := by decide +kernel
theorem dX8_set_44 : decode cX8_set 44 = .ok (.getfield 25, 3) := by decide +kernel
theorem dX8_set_47 : decode cX8_set 47 = .ok (.iload_n 1, 1) := by decide +kernel
theorem dX8_set_48 : decode cX8_set 48 = .ok (.iload_n 2, 1) := by decide +kernel
theorem dX8_set_49 : decode cX8_set 49 = .ok (.lload_n 3, 1) := by decide +kernel
theorem dX8_set_50 : decode cX8_set 50 = .ok (.invokevirtual 127, 3) := by decide +kernel
theorem dX8_set_53 : decode cX8_set 53 = .ok (.iconst 1, 1) := by decide +kernel
theorem dX8_set_54 : decode cX8_set 54 = .ok (.ireturn, 1) := by decide +kernel
theorem dX8_house_0 : decode cX8_house 0 = .ok (.iload_n 1, 1) := by decide +kernel
theorem dX8_house_1 : decode cX8_house 1 = .ok (.invokestatic 151, 3) := by decide +kernel
theorem dX8_house_4 : decode cX8_house 4 = .ok (.ifCond .ne 9, 3) := by decide +kernel
theorem dX8_house_7 : decode cX8_house 7 = .ok (.aload_n 0, 1) := by decide +kernel
theorem dX8_house_8 : decode cX8_house 8 = .ok (.iconst (-1), 1) := by decide +kernel
theorem dX8_house_9 : decode cX8_house 9 = .ok (.invokevirtual 88, 3) := by decide +kernel
theorem dX8_house_12 : decode cX8_house 12 = .ok (.ireturn, 1) := by decide +kernel
theorem dX8_house_13 : decode cX8_house 13 = .ok (.iload_n 2, 1) := by decide +kernel
theorem dX8_house_14 : decode cX8_house 14 = .ok (.invokestatic 107, 3) := by decide +kernel
theorem dX8_house_17 : decode cX8_house 17 = .ok (.ifCond .eq 14, 3) := by decide +kernel
theorem dX8_house_20 : decode cX8_house 20 = .ok (.iload_n 3, 1) := by decide +kernel
theorem dX8_house_21 : decode cX8_house 21 = .ok (.ifCond .lt 10, 3) := by decide +kernel
theorem dX8_house_24 : decode cX8_house 24 = .ok (.iload_n 3, 1) := by decide +kernel
theorem dX8_house_25 : decode cX8_house 25 = .ok (.sipush 255, 3) := by decide +kernel
theorem dX8_house_28 : decode cX8_house 28 = .ok (.if_icmp .le 10, 3) := by decide +kernel
theorem dX8_house_31 : decode cX8_house 31 = .ok (.aload_n 0, 1) := by decide +kernel
theorem dX8_house_32 : decode cX8_house 32 = .ok (.bipush (-6), 2) := by decide +kernel
theorem dX8_house_34 : decode cX8_house 34 = .ok (.invokevirtual 88, 3) := by decide +kernel
theorem dX8_house_37 : decode cX8_house 37 = .ok (.ireturn, 1) := by decide +kernel
theorem dX8_house_38 : decode cX8_house 38 = .ok (.aload_n 0, 1) := by decide +kernel
theorem dX8_house_39 : decode cX8_house 39 = .ok (.getfield 10, 3) := by decide +kernel
theorem dX8_house_42 : decode cX8_house 42 = .ok (.invokevirtual 169, 3) := by decide +kernel
theorem dX8_house_45 : decode cX8_house 45 = .ok (.ifCond .eq 16, 3) := by decide +kernel
theorem dX8_house_48 : decode cX8_house 48 = .ok (.aload_n 0, 1) := by decide +kernel
theorem dX8_house_49 : decode cX8_house 49 = .ok (.getfield 10, 3) := by decide +kernel
theorem dX8_house_52 : decode cX8_house 52 = .ok (.iload_n 1, 1) := by decide +kernel
theorem dX8_house_53 : decode cX8_house 53 = .ok (.iload_n 2, 1) := by decide +kernel
theorem dX8_house_54 : decode cX8_house 54 = .ok (.iload_n 3, 1) := by decide +kernel
theorem dX8_house_55 : decode cX8_house 55 = .ok (.invokevirtual 172, 3) := by decide +kernel
theorem dX8_house_58 : decode cX8_house 58 = .ok (.goto 9, 3) := by decide +kernel
theorem dX8_house_61 : decode cX8_house 61 = .ok (.aload_n 0, 1) := by decide +kernel
theorem dX8_house_62 : decode cX8_house 62 = .ok (.bipush (-7), 2) := by decide +kernel
theorem dX8_house_64 : decode cX8_house 64 = .ok (.invokevirtual 88, 3) := by decide +kernel
theorem dX8_house_67 : decode cX8_house 67 = .ok (.ireturn, 1) := by decide +kernel
theorem dX8_troubleWithWay_0 : decode cX8_troubleWithWay 0 = .ok (.aload_n 0, 1) := by decide +kernel
theorem dX8_troubleWithWay_1 : decode cX8_troubleWithWay 1 = .ok (.getfield 10, 3) := by decide +kernel
theorem dX8_troubleWithWay_4 : decode cX8_troubleWithWay 4 = .ok (.iload_n 1, 1) := by decide +kernel
theorem dX8_troubleWithWay_5 : decode cX8_troubleWithWay 5 = .ok (.invokevirtual 103, 3) := by decide +kernel
theorem dX8_troubleWithWay_8 : decode cX8_troubleWithWay 8 = .ok (.ifCond .eq 14, 3) := by decide +kernel
theorem dX8_troubleWithWay_11 : decode cX8_troubleWithWay 11 = .ok (.aload_n 0, 1) := by decide +kernel
theorem dX8_troubleWithWay_12 : decode cX8_troubleWithWay 12 = .ok (.getfield 10, 3) := by decide +kernel
theorem dX8_troubleWithWay_15 : decode cX8_troubleWithWay 15 = .ok (.iload_n 2, 1) := by decide +kernel
theorem dX8_troubleWithWay_16 : decode cX8_troubleWithWay 16 = .ok (.invokevirtual 103, 3) := by decide +kernel
theorem dX8_troubleWithWay_19 : decode cX8_troubleWithWay 19 = .ok (.ifCond .ne 5, 3) := by decide +kernel
theorem dX8_troubleWithWay_22 : decode cX8_troubleWithWay 22 = .ok (.iconst (-1), 1) := by decide +kernel
theorem dX8_troubleWithWay_23 : decode cX8_troubleWithWay 23 = .ok (.ireturn, 1) := by decide +kernel
theorem dX8_troubleWithWay_24 : decode cX8_troubleWithWay 24 = .ok (.iload_n 1, 1) := by decide +kernel
theorem dX8_troubleWithWay_25 : decode cX8_troubleWithWay 25 = .ok (.iload_n 2, 1) := by decide +kernel
theorem dX8_troubleWithWay_26 : decode cX8_troubleWithWay 26 = .ok (.if_icmp .eq 14, 3) := by decide +kernel
theorem dX8_troubleWithWay_29 : decode cX8_troubleWithWay 29 = .ok (.iload_n 3, 1) := by decide +kernel
theorem dX8_troubleWithWay_30 : decode cX8_troubleWithWay 30 = .ok (.iconst 1, 1) := by decide +kernel
theorem dX8_troubleWithWay_31 : decode cX8_troubleWithWay 31 = .ok (.if_icmp .lt 9, 3) := by decide +kernel
theorem dX8_troubleWithWay_34 : decode cX8_troubleWithWay 34 = .ok (.iload_n 3, 1) := by decide +kernel
theorem dX8_troubleWithWay_35 : decode cX8_troubleWithWay 35 = .ok (.bipush 60, 2) := by decide +kernel
theorem dX8_troubleWithWay_37 : decode cX8_troubleWithWay 37 = .ok (.if_icmp .le 6, 3) := by decide +kernel
theorem dX8_troubleWithWay_40 : decode cX8_troubleWithWay 40 = .ok (.bipush (-6), 2) := by decide +kernel
theorem dX8_troubleWithWay_42 : decode cX8_troubleWithWay 42 = .ok (.ireturn, 1) := by decide +kernel
theorem dX8_troubleWithWay_43 : decode cX8_troubleWithWay 43 = .ok (.aload_n 0, 1) := by decide +kernel
theorem dX8_troubleWithWay_44 : decode cX8_troubleWithWay 44 = .ok (.getfield 10, 3) := by decide +kernel
theorem dX8_troubleWithWay_47 : decode cX8_troubleWithWay 47 = .ok (.invokevirtual 175, 3) := by decide +kernel
theorem dX8_troubleWithWay_50 : decode cX8_troubleWithWay 50 = .ok (.ifCond .eq 7, 3) := by decide +kernel
theorem dX8_troubleWithWay_53 : decode cX8_troubleWithWay 53 = .ok (.iconst 0, 1) := by decide +kernel
theorem dX8_troubleWithWay_54 : decode cX8_troubleWithWay 54 = .ok (.goto 5, 3) := by decide +kernel
theorem dX8_troubleWithWay_57 : decode cX8_troubleWithWay 57 = .ok (.bipush (-7), 2) := by decide +kernel
theorem dX8_troubleWithWay_59 : decode cX8_troubleWithWay 59 = .ok (.ireturn, 1) := by decide +kernel
theorem dX8_way_0 : decode cX8_way 0 = .ok (.aload_n 0, 1) := by decide +kernel
theorem dX8_way_1 : decode cX8_way 1 = .ok (.iload_n 1, 1) := by decide +kernel
theorem dX8_way_2 : decode cX8_way 2 = .ok (.iload_n 2, 1) := by decide +kernel
theorem dX8_way_3 : decode cX8_way 3 = .ok (.iload_n 3, 1) := by decide +kernel
theorem dX8_way_4 : decode cX8_way 4 = .ok (.invokevirtual 178, 3) := by decide +kernel
theorem dX8_way_7 : decode cX8_way 7 = .ok (.istore 4, 2) := by decide +kernel
theorem dX8_way_9 : decode cX8_way 9 = .ok (.iload 4, 2) := by decide +kernel
theorem dX8_way_11 : decode cX8_way 11 = .ok (.ifCond .ne 16, 3) := by decide +kernel
theorem dX8_way_14 : decode cX8_way 14 = .ok (.aload_n 0, 1) := by decide +kernel
theorem dX8_way_15 : decode cX8_way 15 = .ok (.getfield 10, 3) := by decide +kernel
theorem dX8_way_18 : decode cX8_way 18 = .ok (.iload_n 1, 1) := by decide +kernel
theorem dX8_way_19 : decode cX8_way 19 = .ok (.iload_n 2, 1) := by decide +kernel
theorem dX8_way_20 : decode cX8_way 20 = .ok (.iload_n 3, 1) := by decide +kernel
theorem dX8_way_21 : decode cX8_way 21 = .ok (.invokevirtual 181, 3) := by decide +kernel
theorem dX8_way_24 : decode cX8_way 24 = .ok (.goto 9, 3) := by decide +kernel
theorem dX8_way_27 : decode cX8_way 27 = .ok (.aload_n 0, 1) := by decide +kernel
theorem dX8_way_28 : decode cX8_way 28 = .ok (.iload 4, 2) := by decide +kernel
theorem dX8_way_30 : decode cX8_way 30 = .ok (.invokevirtual 88, 3) := by decide +kernel
theorem dX8_way_33 : decode cX8_way 33 = .ok (.ireturn, 1) := by decide +kernel
theorem dX8_shut_0 : decode cX8_shut 0 = .ok (.aload_n 0, 1) := by decide +kernel
theorem dX8_shut_1 : decode cX8_shut 1 = .ok (.getfield 10, 3) := by decide +kernel
theorem dX8_shut_4 : decode cX8_shut 4 = .ok (.iload_n 1, 1) := by decide +kernel
theorem dX8_shut_5 : decode cX8_shut 5 = .ok (.invokevirtual 190, 3) := by decide +kernel
theorem dX8_shut_8 : decode cX8_shut 8 = .ok (.ifCond .ne 9, 3) := by decide +kernel
theorem dX8_shut_11 : decode cX8_shut 11 = .ok (.aload_n 0, 1) := by decide +kernel
theorem dX8_shut_12 : decode cX8_shut 12 = .ok (.iconst (-1), 1) := by decide +kernel
theorem dX8_shut_13 : decode cX8_shut 13 = .ok (.invokevirtual 88, 3) := by decide +kernel
theorem dX8_shut_16 : decode cX8_shut 16 = .ok (.ireturn, 1) := by decide +kernel
theorem dX8_shut_17 : decode cX8_shut 17 = .ok (.aload_n 0, 1) := by decide +kernel
theorem dX8_shut_18 : decode cX8_shut 18 = .ok (.getfield 10, 3) := by decide +kernel
theorem dX8_shut_21 : decode cX8_shut 21 = .ok (.iload_n 1, 1) := by decide +kernel
theorem dX8_shut_22 : decode cX8_shut 22 = .ok (.iload_n 2, 1) := by decide +kernel
theorem dX8_shut_23 : decode cX8_shut 23 = .ok (.invokevirtual 193, 3) := by decide +kernel
theorem dX8_shut_26 : decode cX8_shut 26 = .ok (.ifCond .eq 7, 3) := by decide +kernel
theorem dX8_shut_29 : decode cX8_shut 29 = .ok (.iconst 1, 1) := by decide +kernel
theorem dX8_shut_30 : decode cX8_shut 30 = .ok (.goto 4, 3) := by decide +kernel
theorem dX8_shut_33 : decode cX8_shut 33 = .ok (.iconst 0, 1) := by decide +kernel
theorem dX8_shut_34 : decode cX8_shut 34 = .ok (.ireturn, 1) := by decide +kernel
theorem dX8_lag_0 : decode cX8_lag 0 = .ok (.iload_n 1, 1) := by decide +kernel
theorem dX8_lag_1 : decode cX8_lag 1 = .ok (.invokestatic 197, 3) := by decide +kernel
theorem dX8_lag_4 : decode cX8_lag 4 = .ok (.ifCond .ne 10, 3) := by decide +kernel
theorem dX8_lag_7 : decode cX8_lag 7 = .ok (.aload_n 0, 1) := by decide +kernel
theorem dX8_lag_8 : decode cX8_lag 8 = .ok (.bipush (-6), 2) := by decide +kernel
theorem dX8_lag_10 : decode cX8_lag 10 = .ok (.invokevirtual 88, 3) := by decide +kernel
theorem dX8_lag_13 : decode cX8_lag 13 = .ok (.ireturn, 1) := by decide +kernel
theorem dX8_lag_14 : decode cX8_lag 14 = .ok (.aload_n 0, 1) := by decide +kernel
theorem dX8_lag_15 : decode cX8_lag 15 = .ok (.getfield 10, 3) := by decide +kernel
theorem dX8_lag_18 : decode cX8_lag 18 = .ok (.invokevirtual 200, 3) := by decide +kernel
theorem dX8_lag_21 : decode cX8_lag 21 = .ok (.istore_n 2, 1) := by decide +kernel
theorem dX8_lag_22 : decode cX8_lag 22 = .ok (.aload_n 0, 1) := by decide +kernel
theorem dX8_lag_23 : decode cX8_lag 23 = .ok (.getfield 10, 3) := by decide +kernel
theorem dX8_lag_26 : decode cX8_lag 26 = .ok (.iload_n 1, 1) := by decide +kernel
theorem dX8_lag_27 : decode cX8_lag 27 = .ok (.invokevirtual 204, 3) := by decide +kernel
theorem dX8_lag_30 : decode cX8_lag 30 = .ok (.iload_n 2, 1) := by decide +kernel
theorem dX8_lag_31 : decode cX8_lag 31 = .ok (.ireturn, 1) := by decide +kernel
theorem dX8_houseOf_0 : decode cX8_houseOf 0 = .ok (.aload_n 0, 1) := by decide +kernel
theorem dX8_houseOf_1 : decode cX8_houseOf 1 = .ok (.getfield 10, 3) := by decide +kernel
theorem dX8_houseOf_4 : decode cX8_houseOf 4 = .ok (.iload_n 1, 1) := by decide +kernel
theorem dX8_houseOf_5 : decode cX8_houseOf 5 = .ok (.invokevirtual 103, 3) := by decide +kernel
theorem dX8_houseOf_8 : decode cX8_houseOf 8 = .ok (.ifCond .eq 16, 3) := by decide +kernel
theorem dX8_houseOf_11 : decode cX8_houseOf 11 = .ok (.iload_n 2, 1) := by decide +kernel
theorem dX8_houseOf_12 : decode cX8_houseOf 12 = .ok (.ifCond .lt 12, 3) := by decide +kernel
theorem dX8_houseOf_15 : decode cX8_houseOf 15 = .ok (.iload_n 2, 1) := by decide +kernel
theorem dX8_houseOf_16 : decode cX8_houseOf 16 = .ok (.iconst 5, 1) := by decide +kernel
theorem dX8_houseOf_17 : decode cX8_houseOf 17 = .ok (.if_icmp .ge 7, 3) := by decide +kernel
theorem dX8_houseOf_20 : decode cX8_houseOf 20 = .ok (.iconst 1, 1) := by decide +kernel
theorem dX8_houseOf_21 : decode cX8_houseOf 21 = .ok (.goto 4, 3) := by decide +kernel
theorem dX8_houseOf_24 : decode cX8_houseOf 24 = .ok (.iconst 0, 1) := by decide +kernel
theorem dX8_houseOf_25 : decode cX8_houseOf 25 = .ok (.istore_n 3, 1) := by decide +kernel
theorem dX8_houseOf_26 : decode cX8_houseOf 26 = .ok (.iload_n 3, 1) := by decide +kernel
theorem dX8_houseOf_27 : decode cX8_houseOf 27 = .ok (.ifCond .eq 15, 3) := by decide +kernel
theorem dX8_houseOf_30 : decode cX8_houseOf 30 = .ok (.aload_n 0, 1) := by decide +kernel
theorem dX8_houseOf_31 : decode cX8_houseOf 31 = .ok (.getfield 10, 3) := by decide +kernel
theorem dX8_houseOf_34 : decode cX8_houseOf 34 = .ok (.iload_n 1, 1) := by decide +kernel
theorem dX8_houseOf_35 : decode cX8_houseOf 35 = .ok (.iload_n 2, 1) := by decide +kernel
theorem dX8_houseOf_36 : decode cX8_houseOf 36 = .ok (.invokevirtual 159, 3) := by decide +kernel
theorem dX8_houseOf_39 : decode cX8_houseOf 39 = .ok (.goto 9, 3) := by decide +kernel
theorem dX8_houseOf_42 : decode cX8_houseOf 42 = .ok (.aload_n 0, 1) := by decide +kernel
theorem dX8_houseOf_43 : decode cX8_houseOf 43 = .ok (.bipush (-5), 2) := by decide +kernel
theorem dX8_houseOf_45 : decode cX8_houseOf 45 = .ok (.invokevirtual 88, 3) := by decide +kernel
theorem dX8_houseOf_48 : decode cX8_houseOf 48 = .ok (.ireturn, 1) := by decide +kernel
theorem dX8_put_0 : decode cX8_put 0 = .ok (.aload_n 0, 1) := by decide +kernel
theorem dX8_put_1 : decode cX8_put 1 = .ok (.getfield 10, 3) := by decide +kernel
theorem dX8_put_4 : decode cX8_put 4 = .ok (.iload_n 1, 1) := by decide +kernel
theorem dX8_put_5 : decode cX8_put 5 = .ok (.invokevirtual 103, 3) := by decide +kernel
theorem dX8_put_8 : decode cX8_put 8 = .ok (.ifCond .eq 14, 3) := by decide +kernel
theorem dX8_put_11 : decode cX8_put 11 = .ok (.aload_n 0, 1) := by decide +kernel
theorem dX8_put_12 : decode cX8_put 12 = .ok (.getfield 10, 3) := by decide +kernel
theorem dX8_put_15 : decode cX8_put 15 = .ok (.iload_n 1, 1) := by decide +kernel
theorem dX8_put_16 : decode cX8_put 16 = .ok (.invokevirtual 222, 3) := by decide +kernel
theorem dX8_put_19 : decode cX8_put 19 = .ok (.goto 8, 3) := by decide +kernel
theorem dX8_put_22 : decode cX8_put 22 = .ok (.aload_n 0, 1) := by decide +kernel
theorem dX8_put_23 : decode cX8_put 23 = .ok (.iconst (-1), 1) := by decide +kernel
theorem dX8_put_24 : decode cX8_put 24 = .ok (.invokevirtual 88, 3) := by decide +kernel
theorem dX8_put_27 : decode cX8_put 27 = .ok (.ireturn, 1) := by decide +kernel
theorem dX8_go_0 : decode cX8_go 0 = .ok (.aload_n 0, 1) := by decide +kernel
theorem dX8_go_1 : decode cX8_go 1 = .ok (.getfield 10, 3) := by decide +kernel
theorem dX8_go_4 : decode cX8_go 4 = .ok (.iload_n 1, 1) := by decide +kernel
theorem dX8_go_5 : decode cX8_go 5 = .ok (.invokevirtual 190, 3) := by decide +kernel
theorem dX8_go_8 : decode cX8_go 8 = .ok (.ifCond .ne 9, 3) := by decide +kernel
theorem dX8_go_11 : decode cX8_go 11 = .ok (.aload_n 0, 1) := by decide +kernel
theorem dX8_go_12 : decode cX8_go 12 = .ok (.iconst (-1), 1) := by decide +kernel
theorem dX8_go_13 : decode cX8_go 13 = .ok (.invokevirtual 88, 3) := by decide +kernel
theorem dX8_go_16 : decode cX8_go 16 = .ok (.ireturn, 1) := by decide +kernel
theorem dX8_go_17 : decode cX8_go 17 = .ok (.aload_n 0, 1) := by decide +kernel
theorem dX8_go_18 : decode cX8_go 18 = .ok (.getfield 10, 3) := by decide +kernel
theorem dX8_go_21 : decode cX8_go 21 = .ok (.iload_n 1, 1) := by decide +kernel
theorem dX8_go_22 : decode cX8_go 22 = .ok (.invokevirtual 225, 3) := by decide +kernel
theorem dX8_go_25 : decode cX8_go 25 = .ok (.ifCond .eq 14, 3) := by decide +kernel
theorem dX8_go_28 : decode cX8_go 28 = .ok (.aload_n 0, 1) := by decide +kernel
theorem dX8_go_29 : decode cX8_go 29 = .ok (.getfield 10, 3) := by decide +kernel
theorem dX8_go_32 : decode cX8_go 32 = .ok (.iload_n 1, 1) := by decide +kernel
theorem dX8_go_33 : decode cX8_go 33 = .ok (.invokevirtual 228, 3) := by decide +kernel
theorem dX8_go_36 : decode cX8_go 36 = .ok (.goto 9, 3) := by decide +kernel
theorem dX8_go_39 : decode cX8_go 39 = .ok (.aload_n 0, 1) := by decide +kernel
theorem dX8_go_40 : decode cX8_go 40 = .ok (.bipush (-6), 2) := by decide +kernel
theorem dX8_go_42 : decode cX8_go 42 = .ok (.invokevirtual 88, 3) := by decide +kernel
theorem dX8_go_45 : decode cX8_go 45 = .ok (.ireturn, 1) := by decide +kernel
theorem dX8_where_0 : decode cX8_where 0 = .ok (.aload_n 0, 1) := by decide +kernel
theorem dX8_where_1 : decode cX8_where 1 = .ok (.getfield 10, 3) := by decide +kernel
theorem dX8_where_4 : decode cX8_where 4 = .ok (.invokevirtual 231, 3) := by decide +kernel
theorem dX8_where_7 : decode cX8_where 7 = .ok (.ireturn, 1) := by decide +kernel
theorem dX8_answer_0 : decode cX8_answer 0 = .ok (.aload_n 0, 1) := by decide +kernel
theorem dX8_answer_1 : decode cX8_answer 1 = .ok (.getfield 10, 3) := by decide +kernel
theorem dX8_answer_4 : decode cX8_answer 4 = .ok (.iload_n 1, 1) := by decide +kernel
theorem dX8_answer_5 : decode cX8_answer 5 = .ok (.invokevirtual 103, 3) := by decide +kernel
theorem dX8_answer_8 : decode cX8_answer 8 = .ok (.ifCond .ne 9, 3) := by decide +kernel
theorem dX8_answer_11 : decode cX8_answer 11 = .ok (.aload_n 0, 1) := by decide +kernel
theorem dX8_answer_12 : decode cX8_answer 12 = .ok (.iconst (-1), 1) := by decide +kernel
theorem dX8_answer_13 : decode cX8_answer 13 = .ok (.invokevirtual 88, 3) := by decide +kernel
theorem dX8_answer_16 : decode cX8_answer 16 = .ok (.ireturn, 1) := by decide +kernel
theorem dX8_answer_17 : decode cX8_answer 17 = .ok (.iload_n 2, 1) := by decide +kernel
theorem dX8_answer_18 : decode cX8_answer 18 = .ok (.invokestatic 107, 3) := by decide +kernel
theorem dX8_answer_21 : decode cX8_answer 21 = .ok (.ifCond .eq 17, 3) := by decide +kernel
theorem dX8_answer_24 : decode cX8_answer 24 = .ok (.aload_n 0, 1) := by decide +kernel
theorem dX8_answer_25 : decode cX8_answer 25 = .ok (.getfield 10, 3) := by decide +kernel
theorem dX8_answer_28 : decode cX8_answer 28 = .ok (.iload_n 1, 1) := by decide +kernel
theorem dX8_answer_29 : decode cX8_answer 29 = .ok (.iload_n 2, 1) := by decide +kernel
theorem dX8_answer_30 : decode cX8_answer 30 = .ok (.iconst 0, 1) := by decide +kernel
theorem dX8_answer_31 : decode cX8_answer 31 = .ok (.iconst 0, 1) := by decide +kernel
theorem dX8_answer_32 : decode cX8_answer 32 = .ok (.invokevirtual 240, 3) := by decide +kernel
theorem dX8_answer_35 : decode cX8_answer 35 = .ok (.goto 9, 3) := by decide +kernel
theorem dX8_answer_38 : decode cX8_answer 38 = .ok (.aload_n 0, 1) := by decide +kernel
theorem dX8_answer_39 : decode cX8_answer 39 = .ok (.bipush (-6), 2) := by decide +kernel
theorem dX8_answer_41 : decode cX8_answer 41 = .ok (.invokevirtual 88, 3) := by decide +kernel
theorem dX8_answer_44 : decode cX8_answer 44 = .ok (.ireturn, 1) := by decide +kernel
theorem dX8_between_0 : decode cX8_between 0 = .ok (.aload_n 0, 1) := by decide +kernel
theorem dX8_between_1 : decode cX8_between 1 = .ok (.getfield 10, 3) := by decide +kernel
theorem dX8_between_4 : decode cX8_between 4 = .ok (.iload_n 1, 1) := by decide +kernel
theorem dX8_between_5 : decode cX8_between 5 = .ok (.invokevirtual 103, 3) := by decide +kernel
theorem dX8_between_8 : decode cX8_between 8 = .ok (.ifCond .eq 14, 3) := by decide +kernel
theorem dX8_between_11 : decode cX8_between 11 = .ok (.aload_n 0, 1) := by decide +kernel
theorem dX8_between_12 : decode cX8_between 12 = .ok (.getfield 10, 3) := by decide +kernel
theorem dX8_between_15 : decode cX8_between 15 = .ok (.iload_n 2, 1) := by decide +kernel
theorem dX8_between_16 : decode cX8_between 16 = .ok (.invokevirtual 103, 3) := by decide +kernel
theorem dX8_between_19 : decode cX8_between 19 = .ok (.ifCond .ne 9, 3) := by decide +kernel
theorem dX8_between_22 : decode cX8_between 22 = .ok (.aload_n 0, 1) := by decide +kernel
theorem dX8_between_23 : decode cX8_between 23 = .ok (.iconst (-1), 1) := by decide +kernel
theorem dX8_between_24 : decode cX8_between 24 = .ok (.invokevirtual 244, 3) := by decide +kernel
theorem dX8_between_27 : decode cX8_between 27 = .ok (.ireturn, 1) := by decide +kernel
theorem dX8_between_28 : decode cX8_between 28 = .ok (.aload_n 0, 1) := by decide +kernel
theorem dX8_between_29 : decode cX8_between 29 = .ok (.getfield 41, 3) := by decide +kernel
theorem dX8_between_32 : decode cX8_between 32 = .ok (.invokevirtual 247, 3) := by decide +kernel
theorem dX8_between_35 : decode cX8_between 35 = .ok (.aload_n 0, 1) := by decide +kernel
theorem dX8_between_36 : decode cX8_between 36 = .ok (.getfield 41, 3) := by decide +kernel
theorem dX8_between_39 : decode cX8_between 39 = .ok (.iload_n 1, 1) := by decide +kernel
theorem dX8_between_40 : decode cX8_between 40 = .ok (.iload_n 2, 1) := by decide +kernel
theorem dX8_between_41 : decode cX8_between 41 = .ok (.invokevirtual 250, 3) := by decide +kernel
theorem dX8_between_44 : decode cX8_between 44 = .ok (.ireturn, 1) := by decide +kernel
theorem dX8_walkTold_0 : decode cX8_walkTold 0 = .ok (.iconst 0, 1) := by decide +kernel
theorem dX8_walkTold_1 : decode cX8_walkTold 1 = .ok (.istore_n 3, 1) := by decide +kernel
theorem dX8_walkTold_2 : decode cX8_walkTold 2 = .ok (.iload_n 3, 1) := by decide +kernel
theorem dX8_walkTold_3 : decode cX8_walkTold 3 = .ok (.iload_n 2, 1) := by decide +kernel
theorem dX8_walkTold_4 : decode cX8_walkTold 4 = .ok (.if_icmp .ge 30, 3) := by decide +kernel
theorem dX8_walkTold_7 : decode cX8_walkTold 7 = .ok (.aload_n 0, 1) := by decide +kernel
theorem dX8_walkTold_8 : decode cX8_walkTold 8 = .ok (.getfield 41, 3) := by decide +kernel
theorem dX8_walkTold_11 : decode cX8_walkTold 11 = .ok (.aload_n 0, 1) := by decide +kernel
theorem dX8_walkTold_12 : decode cX8_walkTold 12 = .ok (.getfield 25, 3) := by decide +kernel
theorem dX8_walkTold_15 : decode cX8_walkTold 15 = .ok (.iload_n 1, 1) := by decide +kernel
theorem dX8_walkTold_16 : decode cX8_walkTold 16 = .ok (.iload_n 3, 1) := by decide +kernel
theorem dX8_walkTold_17 : decode cX8_walkTold 17 = .ok (.invokevirtual 187, 3) := by decide +kernel
theorem dX8_walkTold_20 : decode cX8_walkTold 20 = .ok (.invokevirtual 253, 3) := by decide +kernel
theorem dX8_walkTold_23 : decode cX8_walkTold 23 = .ok (.ifCond .ne 5, 3) := by decide +kernel
theorem dX8_walkTold_26 : decode cX8_walkTold 26 = .ok (.iload_n 3, 1) := by decide +kernel
theorem dX8_walkTold_27 : decode cX8_walkTold 27 = .ok (.ireturn, 1) := by decide +kernel
theorem dX8_walkTold_28 : decode cX8_walkTold 28 = .ok (.iinc 3 1, 3) := by decide +kernel
theorem dX8_walkTold_31 : decode cX8_walkTold 31 = .ok (.goto (-29), 3) := by decide +kernel
theorem dX8_walkTold_34 : decode cX8_walkTold 34 = .ok (.iconst (-1), 1) := by decide +kernel
theorem dX8_walkTold_35 : decode cX8_walkTold 35 = .ok (.ireturn, 1) := by decide +kernel
theorem dX8_judge_0 : decode cX8_judge 0 = .ok (.aload_n 0, 1) := by decide +kernel
theorem dX8_judge_1 : decode cX8_judge 1 = .ok (.iload_n 1, 1) := by decide +kernel
theorem dX8_judge_2 : decode cX8_judge 2 = .ok (.iload_n 2, 1) := by decide +kernel
theorem dX8_judge_3 : decode cX8_judge 3 = .ok (.bipush 40, 2) := by decide +kernel
theorem dX8_judge_5 : decode cX8_judge 5 = .ok (.invokevirtual 256, 3) := by decide +kernel
theorem dX8_judge_8 : decode cX8_judge 8 = .ok (.istore_n 3, 1) := by decide +kernel
theorem dX8_judge_9 : decode cX8_judge 9 = .ok (.iload_n 3, 1) := by decide +kernel
theorem dX8_judge_10 : decode cX8_judge 10 = .ok (.ifCond .eq 9, 3) := by decide +kernel
theorem dX8_judge_13 : decode cX8_judge 13 = .ok (.aload_n 0, 1) := by decide +kernel
theorem dX8_judge_14 : decode cX8_judge 14 = .ok (.iload_n 3, 1) := by decide +kernel
theorem dX8_judge_15 : decode cX8_judge 15 = .ok (.invokevirtual 88, 3) := by decide +kernel
theorem dX8_judge_18 : decode cX8_judge 18 = .ok (.ireturn, 1) := by decide +kernel
theorem dX8_judge_19 : decode cX8_judge 19 = .ok (.aload_n 0, 1) := by decide +kernel
theorem dX8_judge_20 : decode cX8_judge 20 = .ok (.getfield 41, 3) := by decide +kernel
theorem dX8_judge_23 : decode cX8_judge 23 = .ok (.invokevirtual 247, 3) := by decide +kernel
theorem dX8_judge_26 : decode cX8_judge 26 = .ok (.aload_n 0, 1) := by decide +kernel
theorem dX8_judge_27 : decode cX8_judge 27 = .ok (.iload_n 1, 1) := by decide +kernel
theorem dX8_judge_28 : decode cX8_judge 28 = .ok (.iload_n 2, 1) := by decide +kernel
theorem dX8_judge_29 : decode cX8_judge 29 = .ok (.invokevirtual 259, 3) := by decide +kernel
theorem dX8_judge_32 : decode cX8_judge 32 = .ok (.ireturn, 1) := by decide +kernel
theorem dX8_minutes_0 : decode cX8_minutes 0 = .ok (.aload_n 0, 1) := by decide +kernel
theorem dX8_minutes_1 : decode cX8_minutes 1 = .ok (.iload_n 1, 1) := by decide +kernel
theorem dX8_minutes_2 : decode cX8_minutes 2 = .ok (.iload_n 2, 1) := by decide +kernel
theorem dX8_minutes_3 : decode cX8_minutes 3 = .ok (.bipush 40, 2) := by decide +kernel
theorem dX8_minutes_5 : decode cX8_minutes 5 = .ok (.invokevirtual 256, 3) := by decide +kernel
theorem dX8_minutes_8 : decode cX8_minutes 8 = .ok (.istore_n 3, 1) := by decide +kernel
theorem dX8_minutes_9 : decode cX8_minutes 9 = .ok (.iload_n 3, 1) := by decide +kernel
theorem dX8_minutes_10 : decode cX8_minutes 10 = .ok (.ifCond .eq 9, 3) := by decide +kernel
theorem dX8_minutes_13 : decode cX8_minutes 13 = .ok (.aload_n 0, 1) := by decide +kernel
theorem dX8_minutes_14 : decode cX8_minutes 14 = .ok (.iload_n 3, 1) := by decide +kernel
theorem dX8_minutes_15 : decode cX8_minutes 15 = .ok (.invokevirtual 88, 3) := by decide +kernel
theorem dX8_minutes_18 : decode cX8_minutes 18 = .ok (.ireturn, 1) := by decide +kernel
theorem dX8_minutes_19 : decode cX8_minutes 19 = .ok (.aload_n 0, 1) := by decide +kernel
theorem dX8_minutes_20 : decode cX8_minutes 20 = .ok (.getfield 41, 3) := by decide +kernel
theorem dX8_minutes_23 : decode cX8_minutes 23 = .ok (.invokevirtual 247, 3) := by decide +kernel
theorem dX8_minutes_26 : decode cX8_minutes 26 = .ok (.aload_n 0, 1) := by decide +kernel
theorem dX8_minutes_27 : decode cX8_minutes 27 = .ok (.iload_n 1, 1) := by decide +kernel
theorem dX8_minutes_28 : decode cX8_minutes 28 = .ok (.iload_n 2, 1) := by decide +kernel
theorem dX8_minutes_29 : decode cX8_minutes 29 = .ok (.invokevirtual 259, 3) := by decide +kernel
theorem dX8_minutes_32 : decode cX8_minutes 32 = .ok (.iconst (-1), 1) := by decide +kernel
theorem dX8_minutes_33 : decode cX8_minutes 33 = .ok (.if_icmp .ne 13, 3) := by decide +kernel
theorem dX8_minutes_36 : decode cX8_minutes 36 = .ok (.aload_n 0, 1) := by decide +kernel
theorem dX8_minutes_37 : decode cX8_minutes 37 = .ok (.getfield 41, 3) := by decide +kernel
theorem dX8_minutes_40 : decode cX8_minutes 40 = .ok (.invokevirtual 262, 3) := by decide +kernel
theorem dX8_minutes_43 : decode cX8_minutes 43 = .ok (.goto 9, 3) := by decide +kernel
theorem dX8_minutes_46 : decode cX8_minutes 46 = .ok (.aload_n 0, 1) := by decide +kernel
theorem dX8_minutes_47 : decode cX8_minutes 47 = .ok (.bipush (-6), 2) := by decide +kernel
theorem dX8_minutes_49 : decode cX8_minutes 49 = .ok (.invokevirtual 88, 3) := by decide +kernel
theorem dX8_minutes_52 : decode cX8_minutes 52 = .ok (.ireturn, 1) := by decide +kernel
theorem dX8_hears_0 : decode cX8_hears 0 = .ok (.aload_n 0, 1) := by decide +kernel
theorem dX8_hears_1 : decode cX8_hears 1 = .ok (.getfield 10, 3) := by decide +kernel
theorem dX8_hears_4 : decode cX8_hears 4 = .ok (.iload_n 3, 1) := by decide +kernel
theorem dX8_hears_5 : decode cX8_hears 5 = .ok (.invokevirtual 103, 3) := by decide +kernel
theorem dX8_hears_8 : decode cX8_hears 8 = .ok (.ifCond .eq 14, 3) := by decide +kernel
theorem dX8_hears_11 : decode cX8_hears 11 = .ok (.aload_n 0, 1) := by decide +kernel
theorem dX8_hears_12 : decode cX8_hears 12 = .ok (.iload_n 1, 1) := by decide +kernel
theorem dX8_hears_13 : decode cX8_hears 13 = .ok (.iload_n 2, 1) := by decide +kernel
theorem dX8_hears_14 : decode cX8_hears 14 = .ok (.bipush 40, 2) := by decide +kernel
theorem dX8_hears_16 : decode cX8_hears 16 = .ok (.invokevirtual 256, 3) := by decide +kernel
theorem dX8_hears_19 : decode cX8_hears 19 = .ok (.goto 4, 3) := by decide +kernel
theorem dX8_hears_22 : decode cX8_hears 22 = .ok (.iconst (-1), 1) := by decide +kernel
theorem dX8_hears_23 : decode cX8_hears 23 = .ok (.istore 4, 2) := by decide +kernel
theorem dX8_hears_25 : decode cX8_hears 25 = .ok (.iload 4, 2) := by decide +kernel
theorem dX8_hears_27 : decode cX8_hears 27 = .ok (.ifCond .eq 10, 3) := by decide +kernel
theorem dX8_hears_30 : decode cX8_hears 30 = .ok (.aload_n 0, 1) := by decide +kernel
theorem dX8_hears_31 : decode cX8_hears 31 = .ok (.iload 4, 2) := by decide +kernel
theorem dX8_hears_33 : decode cX8_hears 33 = .ok (.invokevirtual 88, 3) := by decide +kernel
theorem dX8_hears_36 : decode cX8_hears 36 = .ok (.ireturn, 1) := by decide +kernel
theorem dX8_hears_37 : decode cX8_hears 37 = .ok (.aload_n 0, 1) := by decide +kernel
theorem dX8_hears_38 : decode cX8_hears 38 = .ok (.getfield 41, 3) := by decide +kernel
theorem dX8_hears_41 : decode cX8_hears 41 = .ok (.invokevirtual 247, 3) := by decide +kernel
theorem dX8_hears_44 : decode cX8_hears 44 = .ok (.aload_n 0, 1) := by decide +kernel
theorem dX8_hears_45 : decode cX8_hears 45 = .ok (.iload_n 1, 1) := by decide +kernel
theorem dX8_hears_46 : decode cX8_hears 46 = .ok (.iload_n 2, 1) := by decide +kernel
theorem dX8_hears_47 : decode cX8_hears 47 = .ok (.invokevirtual 259, 3) := by decide +kernel
theorem dX8_hears_50 : decode cX8_hears 50 = .ok (.iconst (-1), 1) := by decide +kernel
theorem dX8_hears_51 : decode cX8_hears 51 = .ok (.if_icmp .ne 14, 3) := by decide +kernel
theorem dX8_hears_54 : decode cX8_hears 54 = .ok (.aload_n 0, 1) := by decide +kernel
theorem dX8_hears_55 : decode cX8_hears 55 = .ok (.getfield 41, 3) := by decide +kernel
theorem dX8_hears_58 : decode cX8_hears 58 = .ok (.iload_n 3, 1) := by decide +kernel
theorem dX8_hears_59 : decode cX8_hears 59 = .ok (.invokevirtual 265, 3) := by decide +kernel
theorem dX8_hears_62 : decode cX8_hears 62 = .ok (.goto 9, 3) := by decide +kernel
theorem dX8_hears_65 : decode cX8_hears 65 = .ok (.aload_n 0, 1) := by decide +kernel
theorem dX8_hears_66 : decode cX8_hears 66 = .ok (.bipush (-6), 2) := by decide +kernel
theorem dX8_hears_68 : decode cX8_hears 68 = .ok (.invokevirtual 88, 3) := by decide +kernel
theorem dX8_hears_71 : decode cX8_hears 71 = .ok (.ireturn, 1) := by decide +kernel
theorem dX8_aim_0 : decode cX8_aim 0 = .ok (.aload_n 0, 1) := by decide +kernel
theorem dX8_aim_1 : decode cX8_aim 1 = .ok (.getfield 10, 3) := by decide +kernel
theorem dX8_aim_4 : decode cX8_aim 4 = .ok (.iload_n 1, 1) := by decide +kernel
theorem dX8_aim_5 : decode cX8_aim 5 = .ok (.invokevirtual 103, 3) := by decide +kernel
theorem dX8_aim_8 : decode cX8_aim 8 = .ok (.ifCond .eq 14, 3) := by decide +kernel
theorem dX8_aim_11 : decode cX8_aim 11 = .ok (.aload_n 0, 1) := by decide +kernel
theorem dX8_aim_12 : decode cX8_aim 12 = .ok (.getfield 10, 3) := by decide +kernel
theorem dX8_aim_15 : decode cX8_aim 15 = .ok (.iload_n 2, 1) := by decide +kernel
theorem dX8_aim_16 : decode cX8_aim 16 = .ok (.invokevirtual 103, 3) := by decide +kernel
theorem dX8_aim_19 : decode cX8_aim 19 = .ok (.ifCond .ne 9, 3) := by decide +kernel
theorem dX8_aim_22 : decode cX8_aim 22 = .ok (.aload_n 0, 1) := by decide +kernel
theorem dX8_aim_23 : decode cX8_aim 23 = .ok (.iconst (-1), 1) := by decide +kernel
theorem dX8_aim_24 : decode cX8_aim 24 = .ok (.invokevirtual 244, 3) := by decide +kernel
theorem dX8_aim_27 : decode cX8_aim 27 = .ok (.ireturn, 1) := by decide +kernel
theorem dX8_aim_28 : decode cX8_aim 28 = .ok (.aload_n 0, 1) := by decide +kernel
theorem dX8_aim_29 : decode cX8_aim 29 = .ok (.iload_n 3, 1) := by decide +kernel
theorem dX8_aim_30 : decode cX8_aim 30 = .ok (.iload 4, 2) := by decide +kernel
theorem dX8_aim_32 : decode cX8_aim 32 = .ok (.iload 5, 2) := by decide +kernel
theorem dX8_aim_34 : decode cX8_aim 34 = .ok (.invokevirtual 274, 3) := by decide +kernel
theorem dX8_aim_37 : decode cX8_aim 37 = .ok (.istore 6, 2) := by decide +kernel
theorem dX8_aim_39 : decode cX8_aim 39 = .ok (.iload 6, 2) := by decide +kernel
theorem dX8_aim_41 : decode cX8_aim 41 = .ok (.ifCond .ne 28, 3) := by decide +kernel
theorem dX8_aim_44 : decode cX8_aim 44 = .ok (.aload_n 0, 1) := by decide +kernel
theorem dX8_aim_45 : decode cX8_aim 45 = .ok (.getfield 50, 3) := by decide +kernel
theorem dX8_aim_48 : decode cX8_aim 48 = .ok (.iconst 1, 1) := by decide +kernel
theorem dX8_aim_49 : decode cX8_aim 49 = .ok (.iload_n 1, 1) := by decide +kernel
theorem dX8_aim_50 : decode cX8_aim 50 = .ok (.ishl, 1) := by decide +kernel
theorem dX8_aim_51 : decode cX8_aim 51 = .ok (.iconst 1, 1) := by decide +kernel
theorem dX8_aim_52 : decode cX8_aim 52 = .ok (.iload_n 2, 1) := by decide +kernel
theorem dX8_aim_53 : decode cX8_aim 53 = .ok (.ishl, 1) := by decide +kernel
theorem dX8_aim_54 : decode cX8_aim 54 = .ok (.iload_n 3, 1) := by decide +kernel
theorem dX8_aim_55 : decode cX8_aim 55 = .ok (.iload 4, 2) := by decide +kernel
theorem dX8_aim_57 : decode cX8_aim 57 = .ok (.iconst 0, 1) := by decide +kernel
theorem dX8_aim_58 : decode cX8_aim 58 = .ok (.invokevirtual 277, 3) := by decide +kernel
theorem dX8_aim_61 : decode cX8_aim 61 = .ok (.iload 5, 2) := by decide +kernel
theorem dX8_aim_63 : decode cX8_aim 63 = .ok (.invokevirtual 281, 3) := by decide +kernel
theorem dX8_aim_66 : decode cX8_aim 66 = .ok (.goto 9, 3) := by decide +kernel
theorem dX8_aim_69 : decode cX8_aim 69 = .ok (.aload_n 0, 1) := by decide +kernel
theorem dX8_aim_70 : decode cX8_aim 70 = .ok (.iload 6, 2) := by decide +kernel
theorem dX8_aim_72 : decode cX8_aim 72 = .ok (.invokevirtual 244, 3) := by decide +kernel
theorem dX8_aim_75 : decode cX8_aim 75 = .ok (.ireturn, 1) := by decide +kernel
theorem dX8_troubleInSeeking_0 : decode cX8_troubleInSeeking 0 = .ok (.iload_n 3, 1) := by decide +kernel
theorem dX8_troubleInSeeking_1 : decode cX8_troubleInSeeking 1 = .ok (.ifCond .ge 6, 3) := by decide +kernel
theorem dX8_troubleInSeeking_4 : decode cX8_troubleInSeeking 4 = .ok (.bipush (-5), 2) := by decide +kernel
theorem dX8_troubleInSeeking_6 : decode cX8_troubleInSeeking 6 = .ok (.ireturn, 1) := by decide +kernel
theorem dX8_troubleInSeeking_7 : decode cX8_troubleInSeeking 7 = .ok (.iload_n 1, 1) := by decide +kernel
theorem dX8_troubleInSeeking_8 : decode cX8_troubleInSeeking 8 = .ok (.invokestatic 107, 3) := by decide +kernel
theorem dX8_troubleInSeeking_11 : decode cX8_troubleInSeeking 11 = .ok (.ifCond .eq 27, 3) := by decide +kernel
theorem dX8_troubleInSeeking_14 : decode cX8_troubleInSeeking 14 = .ok (.iload_n 2, 1) := by decide +kernel
theorem dX8_troubleInSeeking_15 : decode cX8_troubleInSeeking 15 = .ok (.iconst 1, 1) := by decide +kernel
theorem dX8_troubleInSeeking_16 : decode cX8_troubleInSeeking 16 = .ok (.bipush 6, 2) := by decide +kernel
theorem dX8_troubleInSeeking_18 : decode cX8_troubleInSeeking 18 = .ok (.invokestatic 91, 3) := by decide +kernel
theorem dX8_troubleInSeeking_21 : decode cX8_troubleInSeeking 21 = .ok (.ifCond .eq 17, 3) := by decide +kernel
theorem dX8_troubleInSeeking_24 : decode cX8_troubleInSeeking 24 = .ok (.aload_n 0, 1) := by decide +kernel
theorem dX8_troubleInSeeking_25 : decode cX8_troubleInSeeking 25 = .ok (.getfield 10, 3) := by decide +kernel
theorem dX8_troubleInSeeking_28 : decode cX8_troubleInSeeking 28 = .ok (.invokevirtual 99, 3) := by decide +kernel
theorem dX8_troubleInSeeking_31 : decode cX8_troubleInSeeking 31 = .ok (.ifCond .eq 7, 3) := by decide +kernel
theorem dX8_troubleInSeeking_34 : decode cX8_troubleInSeeking 34 = .ok (.iconst 0, 1) := by decide +kernel
theorem dX8_troubleInSeeking_35 : decode cX8_troubleInSeeking 35 = .ok (.goto 5, 3) := by decide +kernel
theorem dX8_troubleInSeeking_38 : decode cX8_troubleInSeeking 38 = .ok (.bipush (-6), 2) := by decide +kernel
theorem dX8_troubleInSeeking_40 : decode cX8_troubleInSeeking 40 = .ok (.ireturn, 1) := by decide +kernel
theorem dX8_odds_0 : decode cX8_odds 0 = .ok (.aload_n 0, 1) := by decide +kernel
theorem dX8_odds_1 : decode cX8_odds 1 = .ok (.iload_n 1, 1) := by decide +kernel
theorem dX8_odds_2 : decode cX8_odds 2 = .ok (.iload_n 2, 1) := by decide +kernel
theorem dX8_odds_3 : decode cX8_odds 3 = .ok (.iload_n 3, 1) := by decide +kernel
theorem dX8_odds_4 : decode cX8_odds 4 = .ok (.iconst 1, 1) := by decide +kernel
theorem dX8_odds_5 : decode cX8_odds 5 = .ok (.iconst 4, 1) := by decide +kernel
theorem dX8_odds_6 : decode cX8_odds 6 = .ok (.invokestatic 91, 3) := by decide +kernel
theorem dX8_odds_9 : decode cX8_odds 9 = .ok (.invokevirtual 300, 3) := by decide +kernel
theorem dX8_odds_12 : decode cX8_odds 12 = .ok (.istore 4, 2) := by decide +kernel
theorem dX8_odds_14 : decode cX8_odds 14 = .ok (.iload 4, 2) := by decide +kernel
theorem dX8_odds_16 : decode cX8_odds 16 = .ok (.ifCond .ne 16, 3) := by decide +kernel
theorem dX8_odds_19 : decode cX8_odds 19 = .ok (.aload_n 0, 1) := by decide +kernel
theorem dX8_odds_20 : decode cX8_odds 20 = .ok (.getfield 50, 3) := by decide +kernel
theorem dX8_odds_23 : decode cX8_odds 23 = .ok (.iload_n 1, 1) := by decide +kernel
theorem dX8_odds_24 : decode cX8_odds 24 = .ok (.iload_n 2, 1) := by decide +kernel
theorem dX8_odds_25 : decode cX8_odds 25 = .ok (.iload_n 3, 1) := by decide +kernel
theorem dX8_odds_26 : decode cX8_odds 26 = .ok (.invokevirtual 304, 3) := by decide +kernel
theorem dX8_odds_29 : decode cX8_odds 29 = .ok (.goto 10, 3) := by decide +kernel
theorem dX8_odds_32 : decode cX8_odds 32 = .ok (.aload_n 0, 1) := by decide +kernel
theorem dX8_odds_33 : decode cX8_odds 33 = .ok (.iload 4, 2) := by decide +kernel
theorem dX8_odds_35 : decode cX8_odds 35 = .ok (.invokevirtual 88, 3) := by decide +kernel
theorem dX8_odds_38 : decode cX8_odds 38 = .ok (.i2l, 1) := by decide +kernel
theorem dX8_odds_39 : decode cX8_odds 39 = .ok (.lreturn, 1) := by decide +kernel
theorem dX8_shuts_0 : decode cX8_shuts 0 = .ok (.aload_n 0, 1) := by decide +kernel
theorem dX8_shuts_1 : decode cX8_shuts 1 = .ok (.iload_n 1, 1) := by decide +kernel
theorem dX8_shuts_2 : decode cX8_shuts 2 = .ok (.iload_n 2, 1) := by decide +kernel
theorem dX8_shuts_3 : decode cX8_shuts 3 = .ok (.iload_n 3, 1) := by decide +kernel
theorem dX8_shuts_4 : decode cX8_shuts 4 = .ok (.iconst 1, 1) := by decide +kernel
theorem dX8_shuts_5 : decode cX8_shuts 5 = .ok (.iconst 4, 1) := by decide +kernel
theorem dX8_shuts_6 : decode cX8_shuts 6 = .ok (.invokestatic 91, 3) := by decide +kernel
theorem dX8_shuts_9 : decode cX8_shuts 9 = .ok (.invokevirtual 300, 3) := by decide +kernel
theorem dX8_shuts_12 : decode cX8_shuts 12 = .ok (.istore 4, 2) := by decide +kernel
theorem dX8_shuts_14 : decode cX8_shuts 14 = .ok (.iload 4, 2) := by decide +kernel
theorem dX8_shuts_16 : decode cX8_shuts 16 = .ok (.ifCond .ne 16, 3) := by decide +kernel
theorem dX8_shuts_19 : decode cX8_shuts 19 = .ok (.aload_n 0, 1) := by decide +kernel
theorem dX8_shuts_20 : decode cX8_shuts 20 = .ok (.getfield 50, 3) := by decide +kernel
theorem dX8_shuts_23 : decode cX8_shuts 23 = .ok (.iload_n 1, 1) := by decide +kernel
theorem dX8_shuts_24 : decode cX8_shuts 24 = .ok (.iload_n 2, 1) := by decide +kernel
theorem dX8_shuts_25 : decode cX8_shuts 25 = .ok (.iload_n 3, 1) := by decide +kernel
theorem dX8_shuts_26 : decode cX8_shuts 26 = .ok (.invokevirtual 308, 3) := by decide +kernel
theorem dX8_shuts_29 : decode cX8_shuts 29 = .ok (.goto 9, 3) := by decide +kernel
theorem dX8_shuts_32 : decode cX8_shuts 32 = .ok (.aload_n 0, 1) := by decide +kernel
theorem dX8_shuts_33 : decode cX8_shuts 33 = .ok (.iload 4, 2) := by decide +kernel
theorem dX8_shuts_35 : decode cX8_shuts 35 = .ok (.invokevirtual 88, 3) := by decide +kernel
theorem dX8_shuts_38 : decode cX8_shuts 38 = .ok (.ireturn, 1) := by decide +kernel
theorem dX8_reach_0 : decode cX8_reach 0 = .ok (.aload_n 0, 1) := by decide +kernel
theorem dX8_reach_1 : decode cX8_reach 1 = .ok (.iload_n 1, 1) := by decide +kernel
theorem dX8_reach_2 : decode cX8_reach 2 = .ok (.iconst 0, 1) := by decide +kernel
theorem dX8_reach_3 : decode cX8_reach 3 = .ok (.iload_n 2, 1) := by decide +kernel
theorem dX8_reach_4 : decode cX8_reach 4 = .ok (.iconst 0, 1) := by decide +kernel
theorem dX8_reach_5 : decode cX8_reach 5 = .ok (.bipush 6, 2) := by decide +kernel
theorem dX8_reach_7 : decode cX8_reach 7 = .ok (.invokestatic 91, 3) := by decide +kernel
theorem dX8_reach_10 : decode cX8_reach 10 = .ok (.invokevirtual 300, 3) := by decide +kernel
theorem dX8_reach_13 : decode cX8_reach 13 = .ok (.istore_n 3, 1) := by decide +kernel
theorem dX8_reach_14 : decode cX8_reach 14 = .ok (.iload_n 3, 1) := by decide +kernel
theorem dX8_reach_15 : decode cX8_reach 15 = .ok (.ifCond .ne 15, 3) := by decide +kernel
theorem dX8_reach_18 : decode cX8_reach 18 = .ok (.aload_n 0, 1) := by decide +kernel
theorem dX8_reach_19 : decode cX8_reach 19 = .ok (.getfield 50, 3) := by decide +kernel
theorem dX8_reach_22 : decode cX8_reach 22 = .ok (.iload_n 1, 1) := by decide +kernel
theorem dX8_reach_23 : decode cX8_reach 23 = .ok (.iload_n 2, 1) := by decide +kernel
theorem dX8_reach_24 : decode cX8_reach 24 = .ok (.invokevirtual 311, 3) := by decide +kernel
theorem dX8_reach_27 : decode cX8_reach 27 = .ok (.goto 8, 3) := by decide +kernel
theorem dX8_reach_30 : decode cX8_reach 30 = .ok (.aload_n 0, 1) := by decide +kernel
theorem dX8_reach_31 : decode cX8_reach 31 = .ok (.iload_n 3, 1) := by decide +kernel
theorem dX8_reach_32 : decode cX8_reach 32 = .ok (.invokevirtual 88, 3) := by decide +kernel
theorem dX8_reach_35 : decode cX8_reach 35 = .ok (.ireturn, 1) := by decide +kernel
theorem dX8_first_0 : decode cX8_first 0 = .ok (.aload_n 0, 1) := by decide +kernel
theorem dX8_first_1 : decode cX8_first 1 = .ok (.iload_n 1, 1) := by decide +kernel
theorem dX8_first_2 : decode cX8_first 2 = .ok (.iload_n 2, 1) := by decide +kernel
theorem dX8_first_3 : decode cX8_first 3 = .ok (.iconst 1, 1) := by decide +kernel
theorem dX8_first_4 : decode cX8_first 4 = .ok (.invokevirtual 300, 3) := by decide +kernel
theorem dX8_first_7 : decode cX8_first 7 = .ok (.istore_n 3, 1) := by decide +kernel
theorem dX8_first_8 : decode cX8_first 8 = .ok (.iload_n 3, 1) := by decide +kernel
theorem dX8_first_9 : decode cX8_first 9 = .ok (.ifCond .ne 17, 3) := by decide +kernel
theorem dX8_first_12 : decode cX8_first 12 = .ok (.aload_n 0, 1) := by decide +kernel
theorem dX8_first_13 : decode cX8_first 13 = .ok (.getfield 50, 3) := by decide +kernel
theorem dX8_first_16 : decode cX8_first 16 = .ok (.iload_n 1, 1) := by decide +kernel
theorem dX8_first_17 : decode cX8_first 17 = .ok (.iload_n 2, 1) := by decide +kernel
theorem dX8_first_18 : decode cX8_first 18 = .ok (.bipush 6, 2) := by decide +kernel
theorem dX8_first_20 : decode cX8_first 20 = .ok (.invokevirtual 314, 3) := by decide +kernel
theorem dX8_first_23 : decode cX8_first 23 = .ok (.goto 8, 3) := by decide +kernel
theorem dX8_first_26 : decode cX8_first 26 = .ok (.aload_n 0, 1) := by decide +kernel
theorem dX8_first_27 : decode cX8_first 27 = .ok (.iload_n 3, 1) := by decide +kernel
theorem dX8_first_28 : decode cX8_first 28 = .ok (.invokevirtual 244, 3) := by decide +kernel
theorem dX8_first_31 : decode cX8_first 31 = .ok (.ireturn, 1) := by decide +kernel
theorem dX8_status_0 : decode cX8_status 0 = .ok (.iload_n 1, 1) := by decide +kernel
theorem dX8_status_1 : decode cX8_status 1 = .ok (.bipush 10, 2) := by decide +kernel
theorem dX8_status_3 : decode cX8_status 3 = .ok (.if_icmp .le 21, 3) := by decide +kernel
theorem dX8_status_6 : decode cX8_status 6 = .ok (.iload_n 1, 1) := by decide +kernel
theorem dX8_status_7 : decode cX8_status 7 = .ok (.bipush 17, 2) := by decide +kernel
theorem dX8_status_9 : decode cX8_status 9 = .ok (.if_icmp .gt 15, 3) := by decide +kernel
theorem dX8_status_12 : decode cX8_status 12 = .ok (.aload_n 0, 1) := by decide +kernel
theorem dX8_status_13 : decode cX8_status 13 = .ok (.getfield 68, 3) := by decide +kernel
theorem dX8_status_16 : decode cX8_status 16 = .ok (.iload_n 1, 1) := by decide +kernel
theorem dX8_status_17 : decode cX8_status 17 = .ok (.bipush 10, 2) := by decide +kernel
theorem dX8_status_19 : decode cX8_status 19 = .ok (.isub, 1) := by decide +kernel
theorem dX8_status_20 : decode cX8_status 20 = .ok (.invokevirtual 80, 3) := by decide +kernel
theorem dX8_status_23 : decode cX8_status 23 = .ok (.ireturn, 1) := by decide +kernel
theorem dX8_status_24 : decode cX8_status 24 = .ok (.iload_n 1, 1) := by decide +kernel
theorem dX8_status_25 : decode cX8_status 25 = .ok (.bipush 7, 2) := by decide +kernel
theorem dX8_status_27 : decode cX8_status 27 = .ok (.if_icmp .ne 13, 3) := by decide +kernel
theorem dX8_status_30 : decode cX8_status 30 = .ok (.aload_n 0, 1) := by decide +kernel
theorem dX8_status_31 : decode cX8_status 31 = .ok (.getfield 32, 3) := by decide +kernel
theorem dX8_status_34 : decode cX8_status 34 = .ok (.invokevirtual 348, 3) := by decide +kernel
theorem dX8_status_37 : decode cX8_status 37 = .ok (.goto 11, 3) := by decide +kernel
theorem dX8_status_40 : decode cX8_status 40 = .ok (.aload_n 0, 1) := by decide +kernel
theorem dX8_status_41 : decode cX8_status 41 = .ok (.getfield 10, 3) := by decide +kernel
theorem dX8_status_44 : decode cX8_status 44 = .ok (.iload_n 1, 1) := by decide +kernel
theorem dX8_status_45 : decode cX8_status 45 = .ok (.invokevirtual 351, 3) := by decide +kernel
theorem dX8_status_48 : decode cX8_status 48 = .ok (.ireturn, 1) := by decide +kernel
theorem dL_cell_0 : decode cL_cell 0 = .ok (.iload_n 1, 1) := by decide +kernel
theorem dL_cell_1 : decode cL_cell 1 = .ok (.aload_n 0, 1) := by decide +kernel
theorem dL_cell_2 : decode cL_cell 2 = .ok (.arraylength, 1) := by decide +kernel
theorem dL_cell_3 : decode cL_cell 3 = .ok (.if_icmp .ge 9, 3) := by decide +kernel
theorem dL_cell_6 : decode cL_cell 6 = .ok (.aload_n 0, 1) := by decide +kernel
theorem dL_cell_7 : decode cL_cell 7 = .ok (.iload_n 1, 1) := by decide +kernel
theorem dL_cell_8 : decode cL_cell 8 = .ok (.iaload, 1) := by decide +kernel
theorem dL_cell_9 : decode cL_cell 9 = .ok (.goto 11, 3) := by decide +kernel
theorem dL_cell_12 : decode cL_cell 12 = .ok (.sipush 7919, 3) := by decide +kernel
theorem dL_cell_15 : decode cL_cell 15 = .ok (.iload_n 1, 1) := by decide +kernel
theorem dL_cell_16 : decode cL_cell 16 = .ok (.imul, 1) := by decide +kernel
theorem dL_cell_17 : decode cL_cell 17 = .ok (.bipush 12, 2) := by decide +kernel
theorem dL_cell_19 : decode cL_cell 19 = .ok (.iadd, 1) := by decide +kernel
theorem dL_cell_20 : decode cL_cell 20 = .ok (.ireturn, 1) := by decide +kernel
theorem dL_pick_0 : decode cL_pick 0 = .ok (.iload_n 0, 1) := by decide +kernel
theorem dL_pick_1 : decode cL_pick 1 = .ok (.ldc 7, 2) := by decide +kernel
theorem dL_pick_3 : decode cL_pick 3 = .ok (.iand, 1) := by decide +kernel
theorem dL_pick_4 : decode cL_pick 4 = .ok (.iload_n 1, 1) := by decide +kernel
theorem dL_pick_5 : decode cL_pick 5 = .ok (.irem, 1) := by decide +kernel
theorem dL_pick_6 : decode cL_pick 6 = .ok (.ireturn, 1) := by decide +kernel
theorem dL_street_0 : decode cL_street 0 = .ok (.iconst 2, 1) := by decide +kernel
theorem dL_street_1 : decode cL_street 1 = .ok (.aload_n 1, 1) := by decide +kernel
theorem dL_street_2 : decode cL_street 2 = .ok (.iconst 0, 1) := by decide +kernel
theorem dL_street_3 : decode cL_street 3 = .ok (.invokestatic 8, 3) := by decide +kernel
theorem dL_street_6 : decode cL_street 6 = .ok (.iload_n 2, 1) := by decide +kernel
theorem dL_street_7 : decode cL_street 7 = .ok (.iconst 1, 1) := by decide +kernel
theorem dL_street_8 : decode cL_street 8 = .ok (.isub, 1) := by decide +kernel
theorem dL_street_9 : decode cL_street 9 = .ok (.invokestatic 14, 3) := by decide +kernel
theorem dL_street_12 : decode cL_street 12 = .ok (.iadd, 1) := by decide +kernel
theorem dL_street_13 : decode cL_street 13 = .ok (.istore_n 3, 1) := by decide +kernel
theorem dL_street_14 : decode cL_street 14 = .ok (.iconst 0, 1) := by decide +kernel
theorem dL_street_15 : decode cL_street 15 = .ok (.istore 4, 2) := by decide +kernel
theorem dL_street_17 : decode cL_street 17 = .ok (.iload 4, 2) := by decide +kernel
theorem dL_street_19 : decode cL_street 19 = .ok (.iload_n 3, 1) := by decide +kernel
theorem dL_street_20 : decode cL_street 20 = .ok (.if_icmp .ge 70, 3) := by decide +kernel
theorem dL_street_23 : decode cL_street 23 = .ok (.aload_n 1, 1) := by decide +kernel
theorem dL_street_24 : decode cL_street 24 = .ok (.iconst 1, 1) := by decide +kernel
theorem dL_street_25 : decode cL_street 25 = .ok (.iload 4, 2) := by decide +kernel
theorem dL_street_27 : decode cL_street 27 = .ok (.iadd, 1) := by decide +kernel
theorem dL_street_28 : decode cL_street 28 = .ok (.invokestatic 8, 3) := by decide +kernel
theorem dL_street_31 : decode cL_street 31 = .ok (.istore 5, 2) := by decide +kernel
theorem dL_street_33 : decode cL_street 33 = .ok (.iload 5, 2) := by decide +kernel
theorem dL_street_35 : decode cL_street 35 = .ok (.bipush 7, 2) := by decide +kernel
theorem dL_street_37 : decode cL_street 37 = .ok (.invokestatic 14, 3) := by decide +kernel
theorem dL_street_40 : decode cL_street 40 = .ok (.istore 6, 2) := by decide +kernel
theorem dL_street_42 : decode cL_street 42 = .ok (.aload_n 0, 1) := by decide +kernel
theorem dL_street_43 : decode cL_street 43 = .ok (.iload 6, 2) := by decide +kernel
theorem dL_street_45 : decode cL_street 45 = .ok (.iload 5, 2) := by decide +kernel
theorem dL_street_47 : decode cL_street 47 = .ok (.iconst 4, 1) := by decide +kernel
theorem dL_street_48 : decode cL_street 48 = .ok (.ishr, 1) := by decide +kernel
theorem dL_street_49 : decode cL_street 49 = .ok (.bipush 15, 2) := by decide +kernel
theorem dL_street_51 : decode cL_street 51 = .ok (.iand, 1) := by decide +kernel
theorem dL_street_52 : decode cL_street 52 = .ok (.iload 6, 2) := by decide +kernel
theorem dL_street_54 : decode cL_street 54 = .ok (.bipush 6, 2) := by decide +kernel
theorem dL_street_56 : decode cL_street 56 = .ok (.if_icmp .ne 15, 3) := by decide +kernel
theorem dL_street_59 : decode cL_street 59 = .ok (.iload 5, 2) := by decide +kernel
theorem dL_street_61 : decode cL_street 61 = .ok (.bipush 9, 2) := by decide +kernel
theorem dL_street_63 : decode cL_street 63 = .ok (.ishr, 1) := by decide +kernel
theorem dL_street_64 : decode cL_street 64 = .ok (.iconst 3, 1) := by decide +kernel
theorem dL_street_65 : decode cL_street 65 = .ok (.invokestatic 14, 3) := by decide +kernel
theorem dL_street_68 : decode cL_street 68 = .ok (.goto 12, 3) := by decide +kernel
theorem dL_street_71 : decode cL_street 71 = .ok (.iload 5, 2) := by decide +kernel
theorem dL_street_73 : decode cL_street 73 = .ok (.bipush 9, 2) := by decide +kernel
theorem dL_street_75 : decode cL_street 75 = .ok (.ishr, 1) := by decide +kernel
theorem dL_street_76 : decode cL_street 76 = .ok (.sipush 255, 3) := by decide +kernel
theorem dL_street_79 : decode cL_street 79 = .ok (.iand, 1) := by decide +kernel
theorem dL_street_80 : decode cL_street 80 = .ok (.invokevirtual 18, 3) := by decide +kernel
theorem dL_street_83 : decode cL_street 83 = .ok (.pop, 1) := by decide +kernel
theorem dL_street_84 : decode cL_street 84 = .ok (.iinc 4 1, 3) := by decide +kernel
theorem dL_street_87 : decode cL_street 87 = .ok (.goto (-70), 3) := by decide +kernel
theorem dL_street_90 : decode cL_street 90 = .ok (.iconst 0, 1) := by decide +kernel
theorem dL_street_91 : decode cL_street 91 = .ok (.istore 4, 2) := by decide +kernel
theorem dL_street_93 : decode cL_street 93 = .ok (.iload 4, 2) := by decide +kernel
theorem dL_street_95 : decode cL_street 95 = .ok (.bipush 7, 2) := by decide +kernel
theorem dL_street_97 : decode cL_street 97 = .ok (.if_icmp .ge 91, 3) := by decide +kernel
theorem dL_street_100 : decode cL_street 100 = .ok (.aload_n 1, 1) := by decide +kernel
theorem dL_street_101 : decode cL_street 101 = .ok (.bipush 9, 2) := by decide +kernel
theorem dL_street_103 : decode cL_street 103 = .ok (.iload 4, 2) := by decide +kernel
theorem dL_street_105 : decode cL_street 105 = .ok (.iadd, 1) := by decide +kernel
theorem dL_street_106 : decode cL_street 106 = .ok (.invokestatic 8, 3) := by decide +kernel
theorem dL_street_109 : decode cL_street 109 = .ok (.istore 5, 2) := by decide +kernel
theorem dL_street_111 : decode cL_street 111 = .ok (.aload_n 0, 1) := by decide +kernel
theorem dL_street_112 : decode cL_street 112 = .ok (.iload 5, 2) := by decide +kernel
theorem dL_street_114 : decode cL_street 114 = .ok (.iload_n 3, 1) := by decide +kernel
theorem dL_street_115 : decode cL_street 115 = .ok (.invokestatic 14, 3) := by decide +kernel
theorem dL_street_118 : decode cL_street 118 = .ok (.iload 5, 2) := by decide +kernel
theorem dL_street_120 : decode cL_street 120 = .ok (.iconst 3, 1) := by decide +kernel
theorem dL_street_121 : decode cL_street 121 = .ok (.ishr, 1) := by decide +kernel
theorem dL_street_122 : decode cL_street 122 = .ok (.iload_n 3, 1) := by decide +kernel
theorem dL_street_123 : decode cL_street 123 = .ok (.invokestatic 14, 3) := by decide +kernel
theorem dL_street_126 : decode cL_street 126 = .ok (.iconst 1, 1) := by decide +kernel
theorem dL_street_127 : decode cL_street 127 = .ok (.iload 5, 2) := by decide +kernel
theorem dL_street_129 : decode cL_street 129 = .ok (.bipush 6, 2) := by decide +kernel
theorem dL_street_131 : decode cL_street 131 = .ok (.ishr, 1) := by decide +kernel
theorem dL_street_132 : decode cL_street 132 = .ok (.bipush 12, 2) := by decide +kernel
theorem dL_street_134 : decode cL_street 134 = .ok (.invokestatic 14, 3) := by decide +kernel
theorem dL_street_137 : decode cL_street 137 = .ok (.iadd, 1) := by decide +kernel
theorem dL_street_138 : decode cL_street 138 = .ok (.invokevirtual 24, 3) := by decide +kernel
theorem dL_street_141 : decode cL_street 141 = .ok (.pop, 1) := by decide +kernel
theorem dL_street_142 : decode cL_street 142 = .ok (.iload 5, 2) := by decide +kernel
theorem dL_street_144 : decode cL_street 144 = .ok (.bipush 12, 2) := by decide +kernel
theorem dL_street_146 : decode cL_street 146 = .ok (.ishr, 1) := by decide +kernel
theorem dL_street_147 : decode cL_street 147 = .ok (.bipush 8, 2) := by decide +kernel
theorem dL_street_149 : decode cL_street 149 = .ok (.invokestatic 14, 3) := by decide +kernel
theorem dL_street_152 : decode cL_street 152 = .ok (.ifCond .ne 30, 3) := by decide +kernel
theorem dL_street_155 : decode cL_street 155 = .ok (.aload_n 0, 1) := by decide +kernel
theorem dL_street_156 : decode cL_street 156 = .ok (.iconst 1, 1) := by decide +kernel
theorem dL_street_157 : decode cL_street 157 = .ok (.invokevirtual 27, 3) := by decide +kernel
theorem dL_street_160 : decode cL_street 160 = .ok (.ifCond .le 22, 3) := by decide +kernel
theorem dL_street_163 : decode cL_street 163 = .ok (.aload_n 0, 1) := by decide +kernel
theorem dL_street_164 : decode cL_street 164 = .ok (.iload 5, 2) := by decide +kernel
theorem dL_street_166 : decode cL_street 166 = .ok (.bipush 15, 2) := by decide +kernel
theorem dL_street_168 : decode cL_street 168 = .ok (.ishr, 1) := by decide +kernel
theorem dL_street_169 : decode cL_street 169 = .ok (.aload_n 0, 1) := by decide +kernel
theorem dL_street_170 : decode cL_street 170 = .ok (.iconst 1, 1) := by decide +kernel
theorem dL_street_171 : decode cL_street 171 = .ok (.invokevirtual 27, 3) := by decide +kernel
theorem dL_street_174 : decode cL_street 174 = .ok (.invokestatic 14, 3) := by decide +kernel
theorem dL_street_177 : decode cL_street 177 = .ok (.iconst 1, 1) := by decide +kernel
theorem dL_street_178 : decode cL_street 178 = .ok (.invokevirtual 31, 3) := by decide +kernel
theorem dL_street_181 : decode cL_street 181 = .ok (.pop, 1) := by decide +kernel
theorem dL_street_182 : decode cL_street 182 = .ok (.iinc 4 1, 3) := by decide +kernel
theorem dL_street_185 : decode cL_street 185 = .ok (.goto (-92), 3) := by decide +kernel
theorem dL_street_188 : decode cL_street 188 = .ok (.aload_n 0, 1) := by decide +kernel
theorem dL_street_189 : decode cL_street 189 = .ok (.iconst 1, 1) := by decide +kernel
theorem dL_street_190 : decode cL_street 190 = .ok (.aload_n 1, 1) := by decide +kernel
theorem dL_street_191 : decode cL_street 191 = .ok (.bipush 16, 2) := by decide +kernel
theorem dL_street_193 : decode cL_street 193 = .ok (.invokestatic 8, 3) := by decide +kernel
theorem dL_street_196 : decode cL_street 196 = .ok (.iconst 3, 1) := by decide +kernel
theorem dL_street_197 : decode cL_street 197 = .ok (.invokestatic 14, 3) := by decide +kernel
theorem dL_street_200 : decode cL_street 200 = .ok (.iadd, 1) := by decide +kernel
theorem dL_street_201 : decode cL_street 201 = .ok (.invokevirtual 35, 3) := by decide +kernel
theorem dL_street_204 : decode cL_street 204 = .ok (.pop, 1) := by decide +kernel
theorem dL_street_205 : decode cL_street 205 = .ok (.aload_n 0, 1) := by decide +kernel
theorem dL_street_206 : decode cL_street 206 = .ok (.aload_n 1, 1) := by decide +kernel
theorem dL_street_207 : decode cL_street 207 = .ok (.bipush 17, 2) := by decide +kernel
theorem dL_street_209 : decode cL_street 209 = .ok (.invokestatic 8, 3) := by decide +kernel
theorem dL_street_212 : decode cL_street 212 = .ok (.iload_n 3, 1) := by decide +kernel
theorem dL_street_213 : decode cL_street 213 = .ok (.invokestatic 14, 3) := by decide +kernel
theorem dL_street_216 : decode cL_street 216 = .ok (.invokevirtual 38, 3) := by decide +kernel
theorem dL_street_219 : decode cL_street 219 = .ok (.pop, 1) := by decide +kernel
theorem dL_street_220 : decode cL_street 220 = .ok (.iconst 0, 1) := by decide +kernel
theorem dL_street_221 : decode cL_street 221 = .ok (.istore 4, 2) := by decide +kernel
theorem dL_street_223 : decode cL_street 223 = .ok (.iload 4, 2) := by decide +kernel
theorem dL_street_225 : decode cL_street 225 = .ok (.aload_n 1, 1) := by decide +kernel
theorem dL_street_226 : decode cL_street 226 = .ok (.bipush 18, 2) := by decide +kernel
theorem dL_street_228 : decode cL_street 228 = .ok (.invokestatic 8, 3) := by decide +kernel
theorem dL_street_231 : decode cL_street 231 = .ok (.iconst 4, 1) := by decide +kernel
theorem dL_street_232 : decode cL_street 232 = .ok (.invokestatic 14, 3) := by decide +kernel
theorem dL_street_235 : decode cL_street 235 = .ok (.if_icmp .ge 39, 3) := by decide +kernel
theorem dL_street_238 : decode cL_street 238 = .ok (.aload_n 0, 1) := by decide +kernel
theorem dL_street_239 : decode cL_street 239 = .ok (.iconst 1, 1) := by decide +kernel
theorem dL_street_240 : decode cL_street 240 = .ok (.invokevirtual 27, 3) := by decide +kernel
theorem dL_street_243 : decode cL_street 243 = .ok (.ifCond .le 25, 3) := by decide +kernel
theorem dL_street_246 : decode cL_street 246 = .ok (.aload_n 0, 1) := by decide +kernel
theorem dL_street_247 : decode cL_street 247 = .ok (.aload_n 1, 1) := by decide +kernel
theorem dL_street_248 : decode cL_street 248 = .ok (.bipush 19, 2) := by decide +kernel
theorem dL_street_250 : decode cL_street 250 = .ok (.iload 4, 2) := by decide +kernel
theorem dL_street_252 : decode cL_street 252 = .ok (.iadd, 1) := by decide +kernel
theorem dL_street_253 : decode cL_street 253 = .ok (.invokestatic 8, 3) := by decide +kernel
theorem dL_street_256 : decode cL_street 256 = .ok (.aload_n 0, 1) := by decide +kernel
theorem dL_street_257 : decode cL_street 257 = .ok (.iconst 1, 1) := by decide +kernel
theorem dL_street_258 : decode cL_street 258 = .ok (.invokevirtual 27, 3) := by decide +kernel
theorem dL_street_261 : decode cL_street 261 = .ok (.invokestatic 14, 3) := by decide +kernel
theorem dL_street_264 : decode cL_street 264 = .ok (.invokevirtual 41, 3) := by decide +kernel
theorem dL_street_267 : decode cL_street 267 = .ok (.pop, 1) := by decide +kernel
theorem dL_street_268 : decode cL_street 268 = .ok (.iinc 4 1, 3) := by decide +kernel
theorem dL_street_271 : decode cL_street 271 = .ok (.goto (-48), 3) := by decide +kernel
theorem dL_street_274 : decode cL_street 274 = .ok (.iload_n 3, 1) := by decide +kernel
theorem dL_street_275 : decode cL_street 275 = .ok (.ireturn, 1) := by decide +kernel
theorem dL_list_0 : decode cL_list 0 = .ok (.aload_n 0, 1) := by decide +kernel
theorem dL_list_1 : decode cL_list 1 = .ok (.iload_n 1, 1) := by decide +kernel
theorem dL_list_2 : decode cL_list 2 = .ok (.iconst 2, 1) := by decide +kernel
theorem dL_list_3 : decode cL_list 3 = .ok (.aload_n 2, 1) := by decide +kernel
theorem dL_list_4 : decode cL_list 4 = .ok (.arraylength, 1) := by decide +kernel
theorem dL_list_5 : decode cL_list 5 = .ok (.invokevirtual 44, 3) := by decide +kernel
theorem dL_list_8 : decode cL_list 8 = .ok (.pop, 1) := by decide +kernel
theorem dL_list_9 : decode cL_list 9 = .ok (.iconst 0, 1) := by decide +kernel
theorem dL_list_10 : decode cL_list 10 = .ok (.istore_n 3, 1) := by decide +kernel
theorem dL_list_11 : decode cL_list 11 = .ok (.iload_n 3, 1) := by decide +kernel
theorem dL_list_12 : decode cL_list 12 = .ok (.aload_n 2, 1) := by decide +kernel
theorem dL_list_13 : decode cL_list 13 = .ok (.arraylength, 1) := by decide +kernel
theorem dL_list_14 : decode cL_list 14 = .ok (.if_icmp .ge 20, 3) := by decide +kernel
theorem dL_list_17 : decode cL_list 17 = .ok (.aload_n 0, 1) := by decide +kernel
theorem dL_list_18 : decode cL_list 18 = .ok (.iload_n 1, 1) := by decide +kernel
theorem dL_list_19 : decode cL_list 19 = .ok (.iload_n 3, 1) := by decide +kernel
theorem dL_list_20 : decode cL_list 20 = .ok (.aload_n 2, 1) := by decide +kernel
theorem dL_list_21 : decode cL_list 21 = .ok (.iload_n 3, 1) := by decide +kernel
theorem dL_list_22 : decode cL_list 22 = .ok (.iaload, 1) := by decide +kernel
theorem dL_list_23 : decode cL_list 23 = .ok (.i2l, 1) := by decide +kernel
theorem dL_list_24 : decode cL_list 24 = .ok (.invokevirtual 47, 3) := by decide +kernel
theorem dL_list_27 : decode cL_list 27 = .ok (.pop, 1) := by decide +kernel
theorem dL_list_28 : decode cL_list 28 = .ok (.iinc 3 1, 3) := by decide +kernel
theorem dL_list_31 : decode cL_list 31 = .ok (.goto (-20), 3) := by decide +kernel
theorem dL_list_34 : decode cL_list 34 = .ok (.return_, 1) := by decide +kernel
