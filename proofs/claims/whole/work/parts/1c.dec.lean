theorem dX8_init_0 : decode cX8_init 0 = .ok (.aload_n 0, 1) := by decide +kernel
theorem dX8_init_1 : decode cX8_init 1 = .ok (.invokespecial 1, 3) := by decide +kernel
theorem dX8_init_4 : decode cX8_init 4 = .ok (.aload_n 0, 1) := by decide +kernel
theorem dX8_init_5 : decode cX8_init 5 = .ok (.new 7, 3) := by decide +kernel
theorem dX8_init_8 : decode cX8_init 8 = .ok (.dup, 1) := by decide +kernel
theorem dX8_init_9 : decode cX8_init 9 = .ok (.invokespecial 9, 3) := by decide +kernel
theorem dX8_init_12 : decode cX8_init 12 = .ok (.putfield 10, 3) := by decide +kernel
theorem dX8_init_15 : decode cX8_init 15 = .ok (.aload_n 0, 1) := by decide +kernel
theorem dX8_init_16 : decode cX8_init 16 = .ok (.new 7, 3) := by decide +kernel
theorem dX8_init_19 : decode cX8_init 19 = .ok (.dup, 1) := by decide +kernel
theorem dX8_init_20 : decode cX8_init 20 = .ok (.invokespecial 9, 3) := by decide +kernel
theorem dX8_init_23 : decode cX8_init 23 = .ok (.putfield 16, 3) := by decide +kernel
theorem dX8_init_26 : decode cX8_init 26 = .ok (.aload_n 0, 1) := by decide +kernel
theorem dX8_init_27 : decode cX8_init 27 = .ok (.new 7, 3) := by decide +kernel
theorem dX8_init_30 : decode cX8_init 30 = .ok (.dup, 1) := by decide +kernel
theorem dX8_init_31 : decode cX8_init 31 = .ok (.invokespecial 9, 3) := by decide +kernel
theorem dX8_init_34 : decode cX8_init 34 = .ok (.putfield 19, 3) := by decide +kernel
theorem dX8_init_37 : decode cX8_init 37 = .ok (.aload_n 0, 1) := by decide +kernel
theorem dX8_init_38 : decode cX8_init 38 = .ok (.new 22, 3) := by decide +kernel
theorem dX8_init_41 : decode cX8_init 41 = .ok (.dup, 1) := by decide +kernel
theorem dX8_init_42 : decode cX8_init 42 = .ok (.invokespecial 24, 3) := by decide +kernel
theorem dX8_init_45 : decode cX8_init 45 = .ok (.putfield 25, 3) := by decide +kernel
theorem dX8_init_48 : decode cX8_init 48 = .ok (.aload_n 0, 1) := by decide +kernel
theorem dX8_init_49 : decode cX8_init 49 = .ok (.new 29, 3) := by decide +kernel
theorem dX8_init_52 : decode cX8_init 52 = .ok (.dup, 1) := by decide +kernel
theorem dX8_init_53 : decode cX8_init 53 = .ok (.invokespecial 31, 3) := by decide +kernel
theorem dX8_init_56 : decode cX8_init 56 = .ok (.putfield 32, 3) := by decide +kernel
theorem dX8_init_59 : decode cX8_init 59 = .ok (.aload_n 0, 1) := by decide +kernel
theorem dX8_init_60 : decode cX8_init 60 = .ok (.new 36, 3) := by decide +kernel
theorem dX8_init_63 : decode cX8_init 63 = .ok (.dup, 1) := by decide +kernel
theorem dX8_init_64 : decode cX8_init 64 = .ok (.aload_n 0, 1) := by decide +kernel
theorem dX8_init_65 : decode cX8_init 65 = .ok (.getfield 10, 3) := by decide +kernel
theorem dX8_init_68 : decode cX8_init 68 = .ok (.invokespecial 38, 3) := by decide +kernel
theorem dX8_init_71 : decode cX8_init 71 = .ok (.putfield 41, 3) := by decide +kernel
theorem dX8_init_74 : decode cX8_init 74 = .ok (.aload_n 0, 1) := by decide +kernel
theorem dX8_init_75 : decode cX8_init 75 = .ok (.new 45, 3) := by decide +kernel
theorem dX8_init_78 : decode cX8_init 78 = .ok (.dup, 1) := by decide +kernel
theorem dX8_init_79 : decode cX8_init 79 = .ok (.aload_n 0, 1) := by decide +kernel
theorem dX8_init_80 : decode cX8_init 80 = .ok (.getfield 10, 3) := by decide +kernel
theorem dX8_init_83 : decode cX8_init 83 = .ok (.aload_n 0, 1) := by decide +kernel
theorem dX8_init_84 : decode cX8_init 84 = .ok (.getfield 41, 3) := by decide +kernel
theorem dX8_init_87 : decode cX8_init 87 = .ok (.invokespecial 47, 3) := by decide +kernel
theorem dX8_init_90 : decode cX8_init 90 = .ok (.putfield 50, 3) := by decide +kernel
theorem dX8_init_93 : decode cX8_init 93 = .ok (.aload_n 0, 1) := by decide +kernel
theorem dX8_init_94 : decode cX8_init 94 = .ok (.new 54, 3) := by decide +kernel
theorem dX8_init_97 : decode cX8_init 97 = .ok (.dup, 1) := by decide +kernel
theorem dX8_init_98 : decode cX8_init 98 = .ok (.aload_n 0, 1) := by decide +kernel
theorem dX8_init_99 : decode cX8_init 99 = .ok (.getfield 25, 3) := by decide +kernel
theorem dX8_init_102 : decode cX8_init 102 = .ok (.aload_n 0, 1) := by decide +kernel
theorem dX8_init_103 : decode cX8_init 103 = .ok (.getfield 19, 3) := by decide +kernel
theorem dX8_init_106 : decode cX8_init 106 = .ok (.invokespecial 56, 3) := by decide +kernel
theorem dX8_init_109 : decode cX8_init 109 = .ok (.putfield 59, 3) := by decide +kernel
theorem dX8_init_112 : decode cX8_init 112 = .ok (.aload_n 0, 1) := by decide +kernel
theorem dX8_init_113 : decode cX8_init 113 = .ok (.new 63, 3) := by decide +kernel
theorem dX8_init_116 : decode cX8_init 116 = .ok (.dup, 1) := by decide +kernel
theorem dX8_init_117 : decode cX8_init 117 = .ok (.bipush 8, 2) := by decide +kernel
theorem dX8_init_119 : decode cX8_init 119 = .ok (.invokespecial 65, 3) := by decide +kernel
theorem dX8_init_122 : decode cX8_init 122 = .ok (.putfield 68, 3) := by decide +kernel
theorem dX8_init_125 : decode cX8_init 125 = .ok (.aload_n 0, 1) := by decide +kernel
theorem dX8_init_126 : decode cX8_init 126 = .ok (.iconst (-1), 1) := by decide +kernel
theorem dX8_init_127 : decode cX8_init 127 = .ok (.putfield 72, 3) := by decide +kernel
theorem dX8_init_130 : decode cX8_init 130 = .ok (.aload_n 0, 1) := by decide +kernel
theorem dX8_init_131 : decode cX8_init 131 = .ok (.iconst 0, 1) := by decide +kernel
theorem dX8_init_132 : decode cX8_init 132 = .ok (.putfield 76, 3) := by decide +kernel
theorem dX8_init_135 : decode cX8_init 135 = .ok (.return_, 1) := by decide +kernel
theorem dX8_refuse_0 : decode cX8_refuse 0 = .ok (.aload_n 0, 1) := by decide +kernel
theorem dX8_refuse_1 : decode cX8_refuse 1 = .ok (.getfield 68, 3) := by decide +kernel
theorem dX8_refuse_4 : decode cX8_refuse 4 = .ok (.iload_n 1, 1) := by decide +kernel
theorem dX8_refuse_5 : decode cX8_refuse 5 = .ok (.ineg, 1) := by decide +kernel
theorem dX8_refuse_6 : decode cX8_refuse 6 = .ok (.aload_n 0, 1) := by decide +kernel
theorem dX8_refuse_7 : decode cX8_refuse 7 = .ok (.getfield 68, 3) := by decide +kernel
theorem dX8_refuse_10 : decode cX8_refuse 10 = .ok (.iload_n 1, 1) := by decide +kernel
theorem dX8_refuse_11 : decode cX8_refuse 11 = .ok (.ineg, 1) := by decide +kernel
theorem dX8_refuse_12 : decode cX8_refuse 12 = .ok (.invokevirtual 80, 3) := by decide +kernel
theorem dX8_refuse_15 : decode cX8_refuse 15 = .ok (.iconst 1, 1) := by decide +kernel
theorem dX8_refuse_16 : decode cX8_refuse 16 = .ok (.iadd, 1) := by decide +kernel
theorem dX8_refuse_17 : decode cX8_refuse 17 = .ok (.invokevirtual 84, 3) := by decide +kernel
theorem dX8_refuse_20 : decode cX8_refuse 20 = .ok (.iload_n 1, 1) := by decide +kernel
theorem dX8_refuse_21 : decode cX8_refuse 21 = .ok (.ireturn, 1) := by decide +kernel
theorem dX8_refuseApart_0 : decode cX8_refuseApart 0 = .ok (.aload_n 0, 1) := by decide +kernel
theorem dX8_refuseApart_1 : decode cX8_refuseApart 1 = .ok (.iload_n 1, 1) := by decide +kernel
theorem dX8_refuseApart_2 : decode cX8_refuseApart 2 = .ok (.invokevirtual 88, 3) := by decide +kernel
theorem dX8_refuseApart_5 : decode cX8_refuseApart 5 = .ok (.bipush 10, 2) := by decide +kernel
theorem dX8_refuseApart_7 : decode cX8_refuseApart 7 = .ok (.isub, 1) := by decide +kernel
theorem dX8_refuseApart_8 : decode cX8_refuseApart 8 = .ok (.ireturn, 1) := by decide +kernel
theorem dX8_isCount_0 : decode cX8_isCount 0 = .ok (.iload_n 0, 1) := by decide +kernel
theorem dX8_isCount_1 : decode cX8_isCount 1 = .ok (.iload_n 1, 1) := by decide +kernel
theorem dX8_isCount_2 : decode cX8_isCount 2 = .ok (.if_icmp .lt 12, 3) := by decide +kernel
theorem dX8_isCount_5 : decode cX8_isCount 5 = .ok (.iload_n 0, 1) := by decide +kernel
theorem dX8_isCount_6 : decode cX8_isCount 6 = .ok (.iload_n 2, 1) := by decide +kernel
theorem dX8_isCount_7 : decode cX8_isCount 7 = .ok (.if_icmp .gt 7, 3) := by decide +kernel
theorem dX8_isCount_10 : decode cX8_isCount 10 = .ok (.iconst 1, 1) := by decide +kernel
theorem dX8_isCount_11 : decode cX8_isCount 11 = .ok (.goto 4, 3) := by decide +kernel
theorem dX8_isCount_14 : decode cX8_isCount 14 = .ok (.iconst 0, 1) := by decide +kernel
theorem dX8_isCount_15 : decode cX8_isCount 15 = .ok (.ireturn, 1) := by decide +kernel
theorem dX8_isSet_0 : decode cX8_isSet 0 = .ok (.iload_n 0, 1) := by decide +kernel
theorem dX8_isSet_1 : decode cX8_isSet 1 = .ok (.ifCond .lt 14, 3) := by decide +kernel
theorem dX8_isSet_4 : decode cX8_isSet 4 = .ok (.iload_n 0, 1) := by decide +kernel
theorem dX8_isSet_5 : decode cX8_isSet 5 = .ok (.sipush 255, 3) := by decide +kernel
theorem dX8_isSet_8 : decode cX8_isSet 8 = .ok (.if_icmp .gt 7, 3) := by decide +kernel
theorem dX8_isSet_11 : decode cX8_isSet 11 = .ok (.iconst 1, 1) := by decide +kernel
theorem dX8_isSet_12 : decode cX8_isSet 12 = .ok (.goto 4, 3) := by decide +kernel
theorem dX8_isSet_15 : decode cX8_isSet 15 = .ok (.iconst 0, 1) := by decide +kernel
theorem dX8_isSet_16 : decode cX8_isSet 16 = .ok (.ireturn, 1) := by decide +kernel
theorem dX8_isLag_0 : decode cX8_isLag 0 = .ok (.iload_n 0, 1) := by decide +kernel
theorem dX8_isLag_1 : decode cX8_isLag 1 = .ok (.iconst 1, 1) := by decide +kernel
theorem dX8_isLag_2 : decode cX8_isLag 2 = .ok (.iconst 3, 1) := by decide +kernel
theorem dX8_isLag_3 : decode cX8_isLag 3 = .ok (.invokestatic 91, 3) := by decide +kernel
theorem dX8_isLag_6 : decode cX8_isLag 6 = .ok (.ireturn, 1) := by decide +kernel
theorem dX8_troubleWithRoute_0 : decode cX8_troubleWithRoute 0 = .ok (.aload_n 0, 1) := by decide +kernel
theorem dX8_troubleWithRoute_1 : decode cX8_troubleWithRoute 1 = .ok (.getfield 25, 3) := by decide +kernel
theorem dX8_troubleWithRoute_4 : decode cX8_troubleWithRoute 4 = .ok (.iload_n 1, 1) := by decide +kernel
theorem dX8_troubleWithRoute_5 : decode cX8_troubleWithRoute 5 = .ok (.iload_n 2, 1) := by decide +kernel
theorem dX8_troubleWithRoute_6 : decode cX8_troubleWithRoute 6 = .ok (.invokevirtual 95, 3) := by decide +kernel
theorem dX8_troubleWithRoute_9 : decode cX8_troubleWithRoute 9 = .ok (.istore 4, 2) := by decide +kernel
theorem dX8_troubleWithRoute_11 : decode cX8_troubleWithRoute 11 = .ok (.iload 4, 2) := by decide +kernel
theorem dX8_troubleWithRoute_13 : decode cX8_troubleWithRoute 13 = .ok (.ifCond .eq 6, 3) := by decide +kernel
theorem dX8_troubleWithRoute_16 : decode cX8_troubleWithRoute 16 = .ok (.iload 4, 2) := by decide +kernel
theorem dX8_troubleWithRoute_18 : decode cX8_troubleWithRoute 18 = .ok (.ireturn, 1) := by decide +kernel
theorem dX8_troubleWithRoute_19 : decode cX8_troubleWithRoute 19 = .ok (.iload_n 2, 1) := by decide +kernel
theorem dX8_troubleWithRoute_20 : decode cX8_troubleWithRoute 20 = .ok (.iload_n 3, 1) := by decide +kernel
theorem dX8_troubleWithRoute_21 : decode cX8_troubleWithRoute 21 = .ok (.if_icmp .gt 13, 3) := by decide +kernel
theorem dX8_troubleWithRoute_24 : decode cX8_troubleWithRoute 24 = .ok (.aload_n 0, 1) := by decide +kernel
theorem dX8_troubleWithRoute_25 : decode cX8_troubleWithRoute 25 = .ok (.getfield 10, 3) := by decide +kernel
theorem dX8_troubleWithRoute_28 : decode cX8_troubleWithRoute 28 = .ok (.invokevirtual 99, 3) := by decide +kernel
theorem dX8_troubleWithRoute_31 : decode cX8_troubleWithRoute 31 = .ok (.ifCond .ne 8, 3) := by decide +kernel
theorem dX8_troubleWithRoute_34 : decode cX8_troubleWithRoute 34 = .ok (.bipush (-6), 2) := by decide +kernel
theorem dX8_troubleWithRoute_36 : decode cX8_troubleWithRoute 36 = .ok (.goto 4, 3) := by decide +kernel
theorem dX8_troubleWithRoute_39 : decode cX8_troubleWithRoute 39 = .ok (.iconst 0, 1) := by decide +kernel
theorem dX8_troubleWithRoute_40 : decode cX8_troubleWithRoute 40 = .ok (.ireturn, 1) := by decide +kernel
theorem dX8_troubleInThought_0 : decode cX8_troubleInThought 0 = .ok (.aload_n 0, 1) := by decide +kernel
theorem dX8_troubleInThought_1 : decode cX8_troubleInThought 1 = .ok (.getfield 10, 3) := by decide +kernel
theorem dX8_troubleInThought_4 : decode cX8_troubleInThought 4 = .ok (.iload_n 1, 1) := by decide +kernel
theorem dX8_troubleInThought_5 : decode cX8_troubleInThought 5 = .ok (.invokevirtual 103, 3) := by decide +kernel
theorem dX8_troubleInThought_8 : decode cX8_troubleInThought 8 = .ok (.ifCond .ne 5, 3) := by decide +kernel
theorem dX8_troubleInThought_11 : decode cX8_troubleInThought 11 = .ok (.iconst (-1), 1) := by decide +kernel
theorem dX8_troubleInThought_12 : decode cX8_troubleInThought 12 = .ok (.ireturn, 1) := by decide +kernel
theorem dX8_troubleInThought_13 : decode cX8_troubleInThought 13 = .ok (.iload_n 2, 1) := by decide +kernel
theorem dX8_troubleInThought_14 : decode cX8_troubleInThought 14 = .ok (.invokestatic 107, 3) := by decide +kernel
theorem dX8_troubleInThought_17 : decode cX8_troubleInThought 17 = .ok (.ifCond .eq 21, 3) := by decide +kernel
theorem dX8_troubleInThought_20 : decode cX8_troubleInThought 20 = .ok (.iload_n 3, 1) := by decide +kernel
theorem dX8_troubleInThought_21 : decode cX8_troubleInThought 21 = .ok (.ifCond .eq 17, 3) := by decide +kernel
theorem dX8_troubleInThought_24 : decode cX8_troubleInThought 24 = .ok (.aload_n 0, 1) := by decide +kernel
theorem dX8_troubleInThought_25 : decode cX8_troubleInThought 25 = .ok (.getfield 10, 3) := by decide +kernel
theorem dX8_troubleInThought_28 : decode cX8_troubleInThought 28 = .ok (.invokevirtual 99, 3) := by decide +kernel
theorem dX8_troubleInThought_31 : decode cX8_troubleInThought 31 = .ok (.ifCond .eq 7, 3) := by decide +kernel
theorem dX8_troubleInThought_34 : decode cX8_troubleInThought 34 = .ok (.iconst 0, 1) := by decide +kernel
theorem dX8_troubleInThought_35 : decode cX8_troubleInThought 35 = .ok (.goto 5, 3) := by decide +kernel
theorem dX8_troubleInThought_38 : decode cX8_troubleInThought 38 = .ok (.bipush (-6), 2) := by decide +kernel
theorem dX8_troubleInThought_40 : decode cX8_troubleInThought 40 = .ok (.ireturn, 1) := by decide +kernel
theorem dX8_row_0 : decode cX8_row 0 = .ok (.aload_n 0, 1) := by decide +kernel
theorem dX8_row_1 : decode cX8_row 1 = .ok (.getfield 25, 3) := by decide +kernel
theorem dX8_row_4 : decode cX8_row 4 = .ok (.iload_n 1, 1) := by decide +kernel
theorem dX8_row_5 : decode cX8_row 5 = .ok (.invokevirtual 110, 3) := by decide +kernel
theorem dX8_row_8 : decode cX8_row 8 = .ok (.ifCond .ne 9, 3) := by decide +kernel
theorem dX8_row_11 : decode cX8_row 11 = .ok (.aload_n 0, 1) := by decide +kernel
theorem dX8_row_12 : decode cX8_row 12 = .ok (.iconst (-1), 1) := by decide +kernel
theorem dX8_row_13 : decode cX8_row 13 = .ok (.invokevirtual 88, 3) := by decide +kernel
theorem dX8_row_16 : decode cX8_row 16 = .ok (.ireturn, 1) := by decide +kernel
theorem dX8_row_17 : decode cX8_row 17 = .ok (.iload_n 3, 1) := by decide +kernel
theorem dX8_row_18 : decode cX8_row 18 = .ok (.ifCond .ge 10, 3) := by decide +kernel
theorem dX8_row_21 : decode cX8_row 21 = .ok (.aload_n 0, 1) := by decide +kernel
theorem dX8_row_22 : decode cX8_row 22 = .ok (.bipush (-4), 2) := by decide +kernel
theorem dX8_row_24 : decode cX8_row 24 = .ok (.invokevirtual 88, 3) := by decide +kernel
theorem dX8_row_27 : decode cX8_row 27 = .ok (.ireturn, 1) := by decide +kernel
theorem dX8_row_28 : decode cX8_row 28 = .ok (.aload_n 0, 1) := by decide +kernel
theorem dX8_row_29 : decode cX8_row 29 = .ok (.getfield 25, 3) := by decide +kernel
theorem dX8_row_32 : decode cX8_row 32 = .ok (.iload_n 2, 1) := by decide +kernel
theorem dX8_row_33 : decode cX8_row 33 = .ok (.invokevirtual 113, 3) := by decide +kernel
theorem dX8_row_36 : decode cX8_row 36 = .ok (.ifCond .ne 10, 3) := by decide +kernel
theorem dX8_row_39 : decode cX8_row 39 = .ok (.aload_n 0, 1) := by decide +kernel
theorem dX8_row_40 : decode cX8_row 40 = .ok (.bipush (-6), 2) := by decide +kernel
theorem dX8_row_42 : decode cX8_row 42 = .ok (.invokevirtual 88, 3) := by decide +kernel
theorem dX8_row_45 : decode cX8_row 45 = .ok (.ireturn, 1) := by decide +kernel
theorem dX8_row_46 : decode cX8_row 46 = .ok (.iload_n 3, 1) := by decide +kernel
theorem dX8_row_47 : decode cX8_row 47 = .ok (.sipush 160, 3) := by decide +kernel
theorem dX8_row_50 : decode cX8_row 50 = .ok (.if_icmp .le 10, 3) := by decide +kernel
theorem dX8_row_53 : decode cX8_row 53 = .ok (.aload_n 0, 1) := by decide +kernel
theorem dX8_row_54 : decode cX8_row 54 = .ok (.bipush (-7), 2) := by decide +kernel
theorem dX8_row_56 : decode cX8_row 56 = .ok (.invokevirtual 88, 3) := by decide +kernel
theorem dX8_row_59 : decode cX8_row 59 = .ok (.ireturn, 1) := by decide +kernel
theorem dX8_row_60 : decode cX8_row 60 = .ok (.aload_n 0, 1) := by decide +kernel
theorem dX8_row_61 : decode cX8_row 61 = .ok (.getfield 25, 3) := by decide +kernel
theorem dX8_row_64 : decode cX8_row 64 = .ok (.iload_n 1, 1) := by decide +kernel
theorem dX8_row_65 : decode cX8_row 65 = .ok (.iload_n 2, 1) := by decide +kernel
theorem dX8_row_66 : decode cX8_row 66 = .ok (.iload_n 3, 1) := by decide +kernel
theorem dX8_row_67 : decode cX8_row 67 = .ok (.invokevirtual 116, 3) := by decide +kernel
theorem dX8_row_70 : decode cX8_row 70 = .ok (.iconst 1, 1) := by decide +kernel
theorem dX8_row_71 : decode cX8_row 71 = .ok (.ireturn, 1) := by decide +kernel
theorem dX8_set_0 : decode cX8_set 0 = .ok (.aload_n 0, 1) := by decide +kernel
theorem dX8_set_1 : decode cX8_set 1 = .ok (.getfield 25, 3) := by decide +kernel
theorem dX8_set_4 : decode cX8_set 4 = .ok (.iload_n 1, 1) := by decide +kernel
theorem dX8_set_5 : decode cX8_set 5 = .ok (.invokevirtual 120, 3) := by decide +kernel
theorem dX8_set_8 : decode cX8_set 8 = .ok (.istore 5, 2) := by decide +kernel
theorem dX8_set_10 : decode cX8_set 10 = .ok (.iload 5, 2) := by decide +kernel
theorem dX8_set_12 : decode cX8_set 12 = .ok (.ifCond .ne 19, 3) := by decide +kernel
theorem dX8_set_15 : decode cX8_set 15 = .ok (.aload_n 0, 1) := by decide +kernel
theorem dX8_set_16 : decode cX8_set 16 = .ok (.getfield 25, 3) := by decide +kernel
theorem dX8_set_19 : decode cX8_set 19 = .ok (.iload_n 1, 1) := by decide +kernel
theorem dX8_set_20 : decode cX8_set 20 = .ok (.iload_n 2, 1) := by decide +kernel
theorem dX8_set_21 : decode cX8_set 21 = .ok (.invokevirtual 123, 3) := by decide +kernel
theorem dX8_set_24 : decode cX8_set 24 = .ok (.ifCond .ne 7, 3) := by decide +kernel
theorem dX8_set_27 : decode cX8_set 27 = .ok (.bipush (-5), 2) := by decide +kernel
theorem dX8_set_29 : decode cX8_set 29 = .ok (.istore 5, 2) := by decide +kernel
theorem dX8_set_31 : decode cX8_set 31 = .ok (.iload 5, 2) := by decide +kernel
theorem dX8_set_33 : decode cX8_set 33 = .ok (.ifCond .eq 10, 3) := by decide +kernel
theorem dX8_set_36 : decode cX8_set 36 = .ok (.aload_n 0, 1) := by decide +kernel
theorem dX8_set_37 : decode cX8_set 37 = .ok (.iload 5, 2) := by decide +kernel
theorem dX8_set_39 : decode cX8_set 39 = .ok (.invokevirtual 88, 3) := by decide +kernel
theorem dX8_set_42 : decode cX8_set 42 = .ok (.ireturn, 1) := by decide +kernel
theorem dX8_set_43 : decode cX8_set 43 = .ok (.aload_n 0, 1) := by decide +kernel
theorem dX8_set_44 : decode cX8_set 44 = .ok (.getfield 25, 3) := by decide +kernel
theorem dX8_set_47 : decode cX8_set 47 = .ok (.iload_n 1, 1) := by decide +kernel
theorem dX8_set_48 : decode cX8_set 48 = .ok (.iload_n 2, 1) := by decide +kernel
theorem dX8_set_49 : decode cX8_set 49 = .ok (.lload_n 3, 1) := by decide +kernel
theorem dX8_set_50 : decode cX8_set 50 = .ok (.invokevirtual 127, 3) := by decide +kernel
theorem dX8_set_53 : decode cX8_set 53 = .ok (.iconst 1, 1) := by decide +kernel
theorem dX8_set_54 : decode cX8_set 54 = .ok (.ireturn, 1) := by decide +kernel
theorem dX8_copy_0 : decode cX8_copy 0 = .ok (.aload_n 0, 1) := by decide +kernel
theorem dX8_copy_1 : decode cX8_copy 1 = .ok (.getfield 25, 3) := by decide +kernel
theorem dX8_copy_4 : decode cX8_copy 4 = .ok (.iload_n 1, 1) := by decide +kernel
theorem dX8_copy_5 : decode cX8_copy 5 = .ok (.iload_n 2, 1) := by decide +kernel
theorem dX8_copy_6 : decode cX8_copy 6 = .ok (.invokevirtual 131, 3) := by decide +kernel
theorem dX8_copy_9 : decode cX8_copy 9 = .ok (.istore 6, 2) := by decide +kernel
theorem dX8_copy_11 : decode cX8_copy 11 = .ok (.iload 6, 2) := by decide +kernel
theorem dX8_copy_13 : decode cX8_copy 13 = .ok (.ifCond .ne 12, 3) := by decide +kernel
theorem dX8_copy_16 : decode cX8_copy 16 = .ok (.iload 5, 2) := by decide +kernel
theorem dX8_copy_18 : decode cX8_copy 18 = .ok (.ifCond .ge 7, 3) := by decide +kernel
theorem dX8_copy_21 : decode cX8_copy 21 = .ok (.bipush (-4), 2) := by decide +kernel
theorem dX8_copy_23 : decode cX8_copy 23 = .ok (.istore 6, 2) := by decide +kernel
theorem dX8_copy_25 : decode cX8_copy 25 = .ok (.iload 6, 2) := by decide +kernel
theorem dX8_copy_27 : decode cX8_copy 27 = .ok (.ifCond .ne 36, 3) := by decide +kernel
theorem dX8_copy_30 : decode cX8_copy 30 = .ok (.aload_n 0, 1) := by decide +kernel
theorem dX8_copy_31 : decode cX8_copy 31 = .ok (.getfield 25, 3) := by decide +kernel
theorem dX8_copy_34 : decode cX8_copy 34 = .ok (.iload_n 1, 1) := by decide +kernel
theorem dX8_copy_35 : decode cX8_copy 35 = .ok (.iload_n 3, 1) := by decide +kernel
theorem dX8_copy_36 : decode cX8_copy 36 = .ok (.iload 5, 2) := by decide +kernel
theorem dX8_copy_38 : decode cX8_copy 38 = .ok (.invokevirtual 134, 3) := by decide +kernel
theorem dX8_copy_41 : decode cX8_copy 41 = .ok (.ifCond .eq 18, 3) := by decide +kernel
theorem dX8_copy_44 : decode cX8_copy 44 = .ok (.aload_n 0, 1) := by decide +kernel
theorem dX8_copy_45 : decode cX8_copy 45 = .ok (.getfield 25, 3) := by decide +kernel
theorem dX8_copy_48 : decode cX8_copy 48 = .ok (.iload_n 2, 1) := by decide +kernel
theorem dX8_copy_49 : decode cX8_copy 49 = .ok (.iload 4, 2) := by decide +kernel
theorem dX8_copy_51 : decode cX8_copy 51 = .ok (.iload 5, 2) := by decide +kernel
theorem dX8_copy_53 : decode cX8_copy 53 = .ok (.invokevirtual 134, 3) := by decide +kernel
theorem dX8_copy_56 : decode cX8_copy 56 = .ok (.ifCond .ne 7, 3) := by decide +kernel
theorem dX8_copy_59 : decode cX8_copy 59 = .ok (.bipush (-5), 2) := by decide +kernel
theorem dX8_copy_61 : decode cX8_copy 61 = .ok (.istore 6, 2) := by decide +kernel
theorem dX8_copy_63 : decode cX8_copy 63 = .ok (.iload 6, 2) := by decide +kernel
theorem dX8_copy_65 : decode cX8_copy 65 = .ok (.ifCond .eq 10, 3) := by decide +kernel
theorem dX8_copy_68 : decode cX8_copy 68 = .ok (.aload_n 0, 1) := by decide +kernel
theorem dX8_copy_69 : decode cX8_copy 69 = .ok (.iload 6, 2) := by decide +kernel
theorem dX8_copy_71 : decode cX8_copy 71 = .ok (.invokevirtual 88, 3) := by decide +kernel
theorem dX8_copy_74 : decode cX8_copy 74 = .ok (.ireturn, 1) := by decide +kernel
theorem dX8_copy_75 : decode cX8_copy 75 = .ok (.aload_n 0, 1) := by decide +kernel
theorem dX8_copy_76 : decode cX8_copy 76 = .ok (.getfield 25, 3) := by decide +kernel
theorem dX8_copy_79 : decode cX8_copy 79 = .ok (.iload_n 1, 1) := by decide +kernel
theorem dX8_copy_80 : decode cX8_copy 80 = .ok (.iload_n 2, 1) := by decide +kernel
theorem dX8_copy_81 : decode cX8_copy 81 = .ok (.iload_n 3, 1) := by decide +kernel
theorem dX8_copy_82 : decode cX8_copy 82 = .ok (.iload 4, 2) := by decide +kernel
theorem dX8_copy_84 : decode cX8_copy 84 = .ok (.iload 5, 2) := by decide +kernel
theorem dX8_copy_86 : decode cX8_copy 86 = .ok (.invokevirtual 137, 3) := by decide +kernel
theorem dX8_copy_89 : decode cX8_copy 89 = .ok (.iconst 1, 1) := by decide +kernel
theorem dX8_copy_90 : decode cX8_copy 90 = .ok (.ireturn, 1) := by decide +kernel
theorem dX8_element_0 : decode cX8_element 0 = .ok (.aload_n 0, 1) := by decide +kernel
theorem dX8_element_1 : decode cX8_element 1 = .ok (.getfield 25, 3) := by decide +kernel
theorem dX8_element_4 : decode cX8_element 4 = .ok (.iload_n 1, 1) := by decide +kernel
theorem dX8_element_5 : decode cX8_element 5 = .ok (.iload_n 2, 1) := by decide +kernel
theorem dX8_element_6 : decode cX8_element 6 = .ok (.invokevirtual 141, 3) := by decide +kernel
theorem dX8_element_9 : decode cX8_element 9 = .ok (.lreturn, 1) := by decide +kernel
theorem dX8_show_0 : decode cX8_show 0 = .ok (.aload_n 0, 1) := by decide +kernel
theorem dX8_show_1 : decode cX8_show 1 = .ok (.getfield 25, 3) := by decide +kernel
theorem dX8_show_4 : decode cX8_show 4 = .ok (.iload_n 1, 1) := by decide +kernel
theorem dX8_show_5 : decode cX8_show 5 = .ok (.invokevirtual 110, 3) := by decide +kernel
theorem dX8_show_8 : decode cX8_show 8 = .ok (.ifCond .eq 19, 3) := by decide +kernel
theorem dX8_show_11 : decode cX8_show 11 = .ok (.iload_n 2, 1) := by decide +kernel
theorem dX8_show_12 : decode cX8_show 12 = .ok (.iconst (-1), 1) := by decide +kernel
theorem dX8_show_13 : decode cX8_show 13 = .ok (.if_icmp .eq 20, 3) := by decide +kernel
theorem dX8_show_16 : decode cX8_show 16 = .ok (.aload_n 0, 1) := by decide +kernel
theorem dX8_show_17 : decode cX8_show 17 = .ok (.getfield 10, 3) := by decide +kernel
theorem dX8_show_20 : decode cX8_show 20 = .ok (.iload_n 2, 1) := by decide +kernel
theorem dX8_show_21 : decode cX8_show 21 = .ok (.invokevirtual 103, 3) := by decide +kernel
theorem dX8_show_24 : decode cX8_show 24 = .ok (.ifCond .ne 9, 3) := by decide +kernel
theorem dX8_show_27 : decode cX8_show 27 = .ok (.aload_n 0, 1) := by decide +kernel
theorem dX8_show_28 : decode cX8_show 28 = .ok (.iconst (-1), 1) := by decide +kernel
theorem dX8_show_29 : decode cX8_show 29 = .ok (.invokevirtual 88, 3) := by decide +kernel
theorem dX8_show_32 : decode cX8_show 32 = .ok (.ireturn, 1) := by decide +kernel
theorem dX8_show_33 : decode cX8_show 33 = .ok (.aload_n 0, 1) := by decide +kernel
theorem dX8_show_34 : decode cX8_show 34 = .ok (.getfield 25, 3) := by decide +kernel
theorem dX8_show_37 : decode cX8_show 37 = .ok (.iload_n 1, 1) := by decide +kernel
theorem dX8_show_38 : decode cX8_show 38 = .ok (.iload_n 2, 1) := by decide +kernel
theorem dX8_show_39 : decode cX8_show 39 = .ok (.invokevirtual 145, 3) := by decide +kernel
theorem dX8_show_42 : decode cX8_show 42 = .ok (.iload_n 2, 1) := by decide +kernel
theorem dX8_show_43 : decode cX8_show 43 = .ok (.iconst (-1), 1) := by decide +kernel
theorem dX8_show_44 : decode cX8_show 44 = .ok (.if_icmp .ne 7, 3) := by decide +kernel
theorem dX8_show_47 : decode cX8_show 47 = .ok (.iconst 0, 1) := by decide +kernel
theorem dX8_show_48 : decode cX8_show 48 = .ok (.goto 4, 3) := by decide +kernel
theorem dX8_show_51 : decode cX8_show 51 = .ok (.iconst 1, 1) := by decide +kernel
theorem dX8_show_52 : decode cX8_show 52 = .ok (.ireturn, 1) := by decide +kernel
theorem dX8_holds_0 : decode cX8_holds 0 = .ok (.aload_n 0, 1) := by decide +kernel
theorem dX8_holds_1 : decode cX8_holds 1 = .ok (.getfield 25, 3) := by decide +kernel
theorem dX8_holds_4 : decode cX8_holds 4 = .ok (.iload_n 1, 1) := by decide +kernel
theorem dX8_holds_5 : decode cX8_holds 5 = .ok (.invokevirtual 148, 3) := by decide +kernel
theorem dX8_holds_8 : decode cX8_holds 8 = .ok (.ireturn, 1) := by decide +kernel
theorem dX8_says_0 : decode cX8_says 0 = .ok (.iload_n 2, 1) := by decide +kernel
theorem dX8_says_1 : decode cX8_says 1 = .ok (.invokestatic 151, 3) := by decide +kernel
theorem dX8_says_4 : decode cX8_says 4 = .ok (.ifCond .eq 14, 3) := by decide +kernel
theorem dX8_says_7 : decode cX8_says 7 = .ok (.aload_n 0, 1) := by decide +kernel
theorem dX8_says_8 : decode cX8_says 8 = .ok (.getfield 25, 3) := by decide +kernel
theorem dX8_says_11 : decode cX8_says 11 = .ok (.iload_n 1, 1) := by decide +kernel
theorem dX8_says_12 : decode cX8_says 12 = .ok (.invokevirtual 156, 3) := by decide +kernel
theorem dX8_says_15 : decode cX8_says 15 = .ok (.goto 4, 3) := by decide +kernel
theorem dX8_says_18 : decode cX8_says 18 = .ok (.iconst (-1), 1) := by decide +kernel
theorem dX8_says_19 : decode cX8_says 19 = .ok (.istore_n 3, 1) := by decide +kernel
theorem dX8_says_20 : decode cX8_says 20 = .ok (.aload_n 0, 1) := by decide +kernel
theorem dX8_says_21 : decode cX8_says 21 = .ok (.getfield 25, 3) := by decide +kernel
theorem dX8_says_24 : decode cX8_says 24 = .ok (.iload_n 1, 1) := by decide +kernel
theorem dX8_says_25 : decode cX8_says 25 = .ok (.invokevirtual 148, 3) := by decide +kernel
theorem dX8_says_28 : decode cX8_says 28 = .ok (.istore 4, 2) := by decide +kernel
theorem dX8_says_30 : decode cX8_says 30 = .ok (.iload_n 3, 1) := by decide +kernel
theorem dX8_says_31 : decode cX8_says 31 = .ok (.ifCond .ne 23, 3) := by decide +kernel
theorem dX8_says_34 : decode cX8_says 34 = .ok (.aload_n 0, 1) := by decide +kernel
theorem dX8_says_35 : decode cX8_says 35 = .ok (.getfield 10, 3) := by decide +kernel
theorem dX8_says_38 : decode cX8_says 38 = .ok (.iload 4, 2) := by decide +kernel
theorem dX8_says_40 : decode cX8_says 40 = .ok (.iconst 0, 1) := by decide +kernel
theorem dX8_says_41 : decode cX8_says 41 = .ok (.invokevirtual 159, 3) := by decide +kernel
theorem dX8_says_44 : decode cX8_says 44 = .ok (.iload_n 2, 1) := by decide +kernel
theorem dX8_says_45 : decode cX8_says 45 = .ok (.invokestatic 162, 3) := by decide +kernel
theorem dX8_says_48 : decode cX8_says 48 = .ok (.ifCond .ne 6, 3) := by decide +kernel
theorem dX8_says_51 : decode cX8_says 51 = .ok (.bipush (-2), 2) := by decide +kernel
theorem dX8_says_53 : decode cX8_says 53 = .ok (.istore_n 3, 1) := by decide +kernel
theorem dX8_says_54 : decode cX8_says 54 = .ok (.iload_n 3, 1) := by decide +kernel
theorem dX8_says_55 : decode cX8_says 55 = .ok (.ifCond .ne 17, 3) := by decide +kernel
theorem dX8_says_58 : decode cX8_says 58 = .ok (.aload_n 0, 1) := by decide +kernel
theorem dX8_says_59 : decode cX8_says 59 = .ok (.getfield 10, 3) := by decide +kernel
theorem dX8_says_62 : decode cX8_says 62 = .ok (.iload 4, 2) := by decide +kernel
theorem dX8_says_64 : decode cX8_says 64 = .ok (.iload_n 2, 1) := by decide +kernel
theorem dX8_says_65 : decode cX8_says 65 = .ok (.iconst 3, 1) := by decide +kernel
theorem dX8_says_66 : decode cX8_says 66 = .ok (.invokevirtual 165, 3) := by decide +kernel
theorem dX8_says_69 : decode cX8_says 69 = .ok (.goto 8, 3) := by decide +kernel
theorem dX8_says_72 : decode cX8_says 72 = .ok (.aload_n 0, 1) := by decide +kernel
theorem dX8_says_73 : decode cX8_says 73 = .ok (.iload_n 3, 1) := by decide +kernel
theorem dX8_says_74 : decode cX8_says 74 = .ok (.invokevirtual 88, 3) := by decide +kernel
theorem dX8_says_77 : decode cX8_says 77 = .ok (.ireturn, 1) := by decide +kernel
theorem dX8_house_0 : decode cX8_house 0 = .ok (.iload_n 1, 1) := by decide +kernel
theorem dX8_house_1 : decode cX8_house 1 = .ok (.invokestatic 151, 3) := by decide +kernel
theorem dX8_house_4 : decode cX8_house 4 = .ok (.ifCond .ne 9, 3) := by decide +kernel
theorem dX8_house_7 : decode cX8_house 7 = .ok (.aload_n 0, 1) := by decide +kernel
theorem dX8_house_8 : decode cX8_house 8 = .ok (.iconst (-1), 1) := by decide +kernel
theorem dX8_house_9 : decode cX8_house 9 = .ok (.invokevirtual 88, 3) := by decide +kernel
theorem dX8_house_12 : decode cX8_house 12 = .ok (.ireturn, 1) := by decide +kernel
theorem dX8_house_13 : decode cX8_house 13 = .ok (.iload_n 2, 1) := by decide +kernel
theorem dX8_house_14 : decode cX8_house 14 = .ok (.invokestatic 107, 3) := by decide +kernel
theorem dX8_house_17 : decode cX8_house 17 = .ok (.ifCond .eq 14, 3) := by decide +kernel
theorem dX8_house_20 : decode cX8_house 20 = .ok (.iload_n 3, 1) := by decide +kernel
theorem dX8_house_21 : decode cX8_house 21 = .ok (.ifCond .lt 10, 3) := by decide +kernel
theorem dX8_house_24 : decode cX8_house 24 = .ok (.iload_n 3, 1) := by decide +kernel
theorem dX8_house_25 : decode cX8_house 25 = .ok (.sipush 255, 3) := by decide +kernel
theorem dX8_house_28 : decode cX8_house 28 = .ok (.if_icmp .le 10, 3) := by decide +kernel
theorem dX8_house_31 : decode cX8_house 31 = .ok (.aload_n 0, 1) := by decide +kernel
theorem dX8_house_32 : decode cX8_house 32 = .ok (.bipush (-6), 2) := by decide +kernel
theorem dX8_house_34 : decode cX8_house 34 = .ok (.invokevirtual 88, 3) := by decide +kernel
theorem dX8_house_37 : decode cX8_house 37 = .ok (.ireturn, 1) := by decide +kernel
theorem dX8_house_38 : decode cX8_house 38 = .ok (.aload_n 0, 1) := by decide +kernel
theorem dX8_house_39 : decode cX8_house 39 = .ok (.getfield 10, 3) := by decide +kernel
theorem dX8_house_42 : decode cX8_house 42 = .ok (.invokevirtual 169, 3) := by decide +kernel
theorem dX8_house_45 : decode cX8_house 45 = .ok (.ifCond .eq 16, 3) := by decide +kernel
theorem dX8_house_48 : decode cX8_house 48 = .ok (.aload_n 0, 1) := by decide +kernel
theorem dX8_house_49 : decode cX8_house 49 = .ok (.getfield 10, 3) := by decide +kernel
theorem dX8_house_52 : decode cX8_house 52 = .ok (.iload_n 1, 1) := by decide +kernel
theorem dX8_house_53 : decode cX8_house 53 = .ok (.iload_n 2, 1) := by decide +kernel
theorem dX8_house_54 : decode cX8_house 54 = .ok (.iload_n 3, 1) := by decide +kernel
theorem dX8_house_55 : decode cX8_house 55 = .ok (.invokevirtual 172, 3) := by decide +kernel
theorem dX8_house_58 : decode cX8_house 58 = .ok (.goto 9, 3) := by decide +kernel
theorem dX8_house_61 : decode cX8_house 61 = .ok (.aload_n 0, 1) := by decide +kernel
theorem dX8_house_62 : decode cX8_house 62 = .ok (.bipush (-7), 2) := by decide +kernel
theorem dX8_house_64 : decode cX8_house 64 = .ok (.invokevirtual 88, 3) := by decide +kernel
theorem dX8_house_67 : decode cX8_house 67 = .ok (.ireturn, 1) := by decide +kernel
theorem dX8_troubleWithWay_0 : decode cX8_troubleWithWay 0 = .ok (.aload_n 0, 1) := by decide +kernel
theorem dX8_troubleWithWay_1 : decode cX8_troubleWithWay 1 = .ok (.getfield 10, 3) := by decide +kernel
theorem dX8_troubleWithWay_4 : decode cX8_troubleWithWay 4 = .ok (.iload_n 1, 1) := by decide +kernel
theorem dX8_troubleWithWay_5 : decode cX8_troubleWithWay 5 = .ok (.invokevirtual 103, 3) := by decide +kernel
theorem dX8_troubleWithWay_8 : decode cX8_troubleWithWay 8 = .ok (.ifCond .eq 14, 3) := by decide +kernel
theorem dX8_troubleWithWay_11 : decode cX8_troubleWithWay 11 = .ok (.aload_n 0, 1) := by decide +kernel
theorem dX8_troubleWithWay_12 : decode cX8_troubleWithWay 12 = .ok (.getfield 10, 3) := by decide +kernel
theorem dX8_troubleWithWay_15 : decode cX8_troubleWithWay 15 = .ok (.iload_n 2, 1) := by decide +kernel
theorem dX8_troubleWithWay_16 : decode cX8_troubleWithWay 16 = .ok (.invokevirtual 103, 3) := by decide +kernel
theorem dX8_troubleWithWay_19 : decode cX8_troubleWithWay 19 = .ok (.ifCond .ne 5, 3) := by decide +kernel
theorem dX8_troubleWithWay_22 : decode cX8_troubleWithWay 22 = .ok (.iconst (-1), 1) := by decide +kernel
theorem dX8_troubleWithWay_23 : decode cX8_troubleWithWay 23 = .ok (.ireturn, 1) := by decide +kernel
theorem dX8_troubleWithWay_24 : decode cX8_troubleWithWay 24 = .ok (.iload_n 1, 1) := by decide +kernel
theorem dX8_troubleWithWay_25 : decode cX8_troubleWithWay 25 = .ok (.iload_n 2, 1) := by decide +kernel
theorem dX8_troubleWithWay_26 : decode cX8_troubleWithWay 26 = .ok (.if_icmp .eq 14, 3) := by decide +kernel
theorem dX8_troubleWithWay_29 : decode cX8_troubleWithWay 29 = .ok (.iload_n 3, 1) := by decide +kernel
theorem dX8_troubleWithWay_30 : decode cX8_troubleWithWay 30 = .ok (.iconst 1, 1) := by decide +kernel
theorem dX8_troubleWithWay_31 : decode cX8_troubleWithWay 31 = .ok (.if_icmp .lt 9, 3) := by decide +kernel
theorem dX8_troubleWithWay_34 : decode cX8_troubleWithWay 34 = .ok (.iload_n 3, 1) := by decide +kernel
theorem dX8_troubleWithWay_35 : decode cX8_troubleWithWay 35 = .ok (.bipush 60, 2) := by decide +kernel
theorem dX8_troubleWithWay_37 : decode cX8_troubleWithWay 37 = .ok (.if_icmp .le 6, 3) := by decide +kernel
theorem dX8_troubleWithWay_40 : decode cX8_troubleWithWay 40 = .ok (.bipush (-6), 2) := by decide +kernel
theorem dX8_troubleWithWay_42 : decode cX8_troubleWithWay 42 = .ok (.ireturn, 1) := by decide +kernel
theorem dX8_troubleWithWay_43 : decode cX8_troubleWithWay 43 = .ok (.aload_n 0, 1) := by decide +kernel
theorem dX8_troubleWithWay_44 : decode cX8_troubleWithWay 44 = .ok (.getfield 10, 3) := by decide +kernel
theorem dX8_troubleWithWay_47 : decode cX8_troubleWithWay 47 = .ok (.invokevirtual 175, 3) := by decide +kernel
theorem dX8_troubleWithWay_50 : decode cX8_troubleWithWay 50 = .ok (.ifCond .eq 7, 3) := by decide +kernel
theorem dX8_troubleWithWay_53 : decode cX8_troubleWithWay 53 = .ok (.iconst 0, 1) := by decide +kernel
theorem dX8_troubleWithWay_54 : decode cX8_troubleWithWay 54 = .ok (.goto 5, 3) := by decide +kernel
theorem dX8_troubleWithWay_57 : decode cX8_troubleWithWay 57 = .ok (.bipush (-7), 2) := by decide +kernel
theorem dX8_troubleWithWay_59 : decode cX8_troubleWithWay 59 = .ok (.ireturn, 1) := by decide +kernel
theorem dX8_way_0 : decode cX8_way 0 = .ok (.aload_n 0, 1) := by decide +kernel
theorem dX8_way_1 : decode cX8_way 1 = .ok (.iload_n 1, 1) := by decide +kernel
theorem dX8_way_2 : decode cX8_way 2 = .ok (.iload_n 2, 1) := by decide +kernel
theorem dX8_way_3 : decode cX8_way 3 = .ok (.iload_n 3, 1) := by decide +kernel
theorem dX8_way_4 : decode cX8_way 4 = .ok (.invokevirtual 178, 3) := by decide +kernel
theorem dX8_way_7 : decode cX8_way 7 = .ok (.istore 4, 2) := by decide +kernel
theorem dX8_way_9 : decode cX8_way 9 = .ok (.iload 4, 2) := by decide +kernel
theorem dX8_way_11 : decode cX8_way 11 = .ok (.ifCond .ne 16, 3) := by decide +kernel
theorem dX8_way_14 : decode cX8_way 14 = .ok (.aload_n 0, 1) := by decide +kernel
theorem dX8_way_15 : decode cX8_way 15 = .ok (.getfield 10, 3) := by decide +kernel
theorem dX8_way_18 : decode cX8_way 18 = .ok (.iload_n 1, 1) := by decide +kernel
theorem dX8_way_19 : decode cX8_way 19 = .ok (.iload_n 2, 1) := by decide +kernel
theorem dX8_way_20 : decode cX8_way 20 = .ok (.iload_n 3, 1) := by decide +kernel
theorem dX8_way_21 : decode cX8_way 21 = .ok (.invokevirtual 181, 3) := by decide +kernel
theorem dX8_way_24 : decode cX8_way 24 = .ok (.goto 9, 3) := by decide +kernel
theorem dX8_way_27 : decode cX8_way 27 = .ok (.aload_n 0, 1) := by decide +kernel
theorem dX8_way_28 : decode cX8_way 28 = .ok (.iload 4, 2) := by decide +kernel
theorem dX8_way_30 : decode cX8_way 30 = .ok (.invokevirtual 88, 3) := by decide +kernel
theorem dX8_way_33 : decode cX8_way 33 = .ok (.ireturn, 1) := by decide +kernel
theorem dX8_ways_0 : decode cX8_ways 0 = .ok (.aload_n 0, 1) := by decide +kernel
theorem dX8_ways_1 : decode cX8_ways 1 = .ok (.getfield 25, 3) := by decide +kernel
theorem dX8_ways_4 : decode cX8_ways 4 = .ok (.iload_n 1, 1) := by decide +kernel
theorem dX8_ways_5 : decode cX8_ways 5 = .ok (.invokevirtual 120, 3) := by decide +kernel
theorem dX8_ways_8 : decode cX8_ways 8 = .ok (.istore 4, 2) := by decide +kernel
theorem dX8_ways_10 : decode cX8_ways 10 = .ok (.iload 4, 2) := by decide +kernel
theorem dX8_ways_12 : decode cX8_ways 12 = .ok (.ifCond .ne 11, 3) := by decide +kernel
theorem dX8_ways_15 : decode cX8_ways 15 = .ok (.iload_n 3, 1) := by decide +kernel
theorem dX8_ways_16 : decode cX8_ways 16 = .ok (.ifCond .ge 7, 3) := by decide +kernel
theorem dX8_ways_19 : decode cX8_ways 19 = .ok (.bipush (-4), 2) := by decide +kernel
theorem dX8_ways_21 : decode cX8_ways 21 = .ok (.istore 4, 2) := by decide +kernel
theorem dX8_ways_23 : decode cX8_ways 23 = .ok (.iload 4, 2) := by decide +kernel
theorem dX8_ways_25 : decode cX8_ways 25 = .ok (.ifCond .ne 20, 3) := by decide +kernel
theorem dX8_ways_28 : decode cX8_ways 28 = .ok (.aload_n 0, 1) := by decide +kernel
theorem dX8_ways_29 : decode cX8_ways 29 = .ok (.getfield 25, 3) := by decide +kernel
theorem dX8_ways_32 : decode cX8_ways 32 = .ok (.iload_n 1, 1) := by decide +kernel
theorem dX8_ways_33 : decode cX8_ways 33 = .ok (.iload_n 2, 1) := by decide +kernel
theorem dX8_ways_34 : decode cX8_ways 34 = .ok (.iload_n 3, 1) := by decide +kernel
theorem dX8_ways_35 : decode cX8_ways 35 = .ok (.invokevirtual 134, 3) := by decide +kernel
theorem dX8_ways_38 : decode cX8_ways 38 = .ok (.ifCond .ne 7, 3) := by decide +kernel
theorem dX8_ways_41 : decode cX8_ways 41 = .ok (.bipush (-5), 2) := by decide +kernel
theorem dX8_ways_43 : decode cX8_ways 43 = .ok (.istore 4, 2) := by decide +kernel
theorem dX8_ways_45 : decode cX8_ways 45 = .ok (.iload 4, 2) := by decide +kernel
theorem dX8_ways_47 : decode cX8_ways 47 = .ok (.ifCond .ne 13, 3) := by decide +kernel
theorem dX8_ways_50 : decode cX8_ways 50 = .ok (.iload_n 3, 1) := by decide +kernel
theorem dX8_ways_51 : decode cX8_ways 51 = .ok (.iconst 3, 1) := by decide +kernel
theorem dX8_ways_52 : decode cX8_ways 52 = .ok (.irem, 1) := by decide +kernel
theorem dX8_ways_53 : decode cX8_ways 53 = .ok (.ifCond .eq 7, 3) := by decide +kernel
theorem dX8_ways_56 : decode cX8_ways 56 = .ok (.bipush (-6), 2) := by decide +kernel
theorem dX8_ways_58 : decode cX8_ways 58 = .ok (.istore 4, 2) := by decide +kernel
theorem dX8_ways_60 : decode cX8_ways 60 = .ok (.iload 4, 2) := by decide +kernel
theorem dX8_ways_62 : decode cX8_ways 62 = .ok (.ifCond .ne 13, 3) := by decide +kernel
theorem dX8_ways_65 : decode cX8_ways 65 = .ok (.aload_n 0, 1) := by decide +kernel
theorem dX8_ways_66 : decode cX8_ways 66 = .ok (.iload_n 1, 1) := by decide +kernel
theorem dX8_ways_67 : decode cX8_ways 67 = .ok (.iload_n 2, 1) := by decide +kernel
theorem dX8_ways_68 : decode cX8_ways 68 = .ok (.iload_n 3, 1) := by decide +kernel
theorem dX8_ways_69 : decode cX8_ways 69 = .ok (.invokevirtual 184, 3) := by decide +kernel
theorem dX8_ways_72 : decode cX8_ways 72 = .ok (.goto 9, 3) := by decide +kernel
theorem dX8_ways_75 : decode cX8_ways 75 = .ok (.aload_n 0, 1) := by decide +kernel
theorem dX8_ways_76 : decode cX8_ways 76 = .ok (.iload 4, 2) := by decide +kernel
theorem dX8_ways_78 : decode cX8_ways 78 = .ok (.invokevirtual 88, 3) := by decide +kernel
theorem dX8_ways_81 : decode cX8_ways 81 = .ok (.ireturn, 1) := by decide +kernel
theorem dX8_addWays_0 : decode cX8_addWays 0 = .ok (.iconst 0, 1) := by decide +kernel
theorem dX8_addWays_1 : decode cX8_addWays 1 = .ok (.istore 4, 2) := by decide +kernel
theorem dX8_addWays_3 : decode cX8_addWays 3 = .ok (.iconst 0, 1) := by decide +kernel
theorem dX8_addWays_4 : decode cX8_addWays 4 = .ok (.istore 5, 2) := by decide +kernel
theorem dX8_addWays_6 : decode cX8_addWays 6 = .ok (.iload 5, 2) := by decide +kernel
theorem dX8_addWays_8 : decode cX8_addWays 8 = .ok (.iconst 2, 1) := by decide +kernel
theorem dX8_addWays_9 : decode cX8_addWays 9 = .ok (.iadd, 1) := by decide +kernel
theorem dX8_addWays_10 : decode cX8_addWays 10 = .ok (.iload_n 3, 1) := by decide +kernel
theorem dX8_addWays_11 : decode cX8_addWays 11 = .ok (.if_icmp .ge 88, 3) := by decide +kernel
theorem dX8_addWays_14 : decode cX8_addWays 14 = .ok (.aload_n 0, 1) := by decide +kernel
theorem dX8_addWays_15 : decode cX8_addWays 15 = .ok (.getfield 25, 3) := by decide +kernel
theorem dX8_addWays_18 : decode cX8_addWays 18 = .ok (.iload_n 1, 1) := by decide +kernel
theorem dX8_addWays_19 : decode cX8_addWays 19 = .ok (.iload_n 2, 1) := by decide +kernel
theorem dX8_addWays_20 : decode cX8_addWays 20 = .ok (.iload 5, 2) := by decide +kernel
theorem dX8_addWays_22 : decode cX8_addWays 22 = .ok (.iadd, 1) := by decide +kernel
theorem dX8_addWays_23 : decode cX8_addWays 23 = .ok (.invokevirtual 187, 3) := by decide +kernel
theorem dX8_addWays_26 : decode cX8_addWays 26 = .ok (.istore 6, 2) := by decide +kernel
theorem dX8_addWays_28 : decode cX8_addWays 28 = .ok (.aload_n 0, 1) := by decide +kernel
theorem dX8_addWays_29 : decode cX8_addWays 29 = .ok (.getfield 25, 3) := by decide +kernel
theorem dX8_addWays_32 : decode cX8_addWays 32 = .ok (.iload_n 1, 1) := by decide +kernel
theorem dX8_addWays_33 : decode cX8_addWays 33 = .ok (.iload_n 2, 1) := by decide +kernel
theorem dX8_addWays_34 : decode cX8_addWays 34 = .ok (.iload 5, 2) := by decide +kernel
theorem dX8_addWays_36 : decode cX8_addWays 36 = .ok (.iadd, 1) := by decide +kernel
theorem dX8_addWays_37 : decode cX8_addWays 37 = .ok (.iconst 1, 1) := by decide +kernel
theorem dX8_addWays_38 : decode cX8_addWays 38 = .ok (.iadd, 1) := by decide +kernel
theorem dX8_addWays_39 : decode cX8_addWays 39 = .ok (.invokevirtual 187, 3) := by decide +kernel
theorem dX8_addWays_42 : decode cX8_addWays 42 = .ok (.istore 7, 2) := by decide +kernel
theorem dX8_addWays_44 : decode cX8_addWays 44 = .ok (.aload_n 0, 1) := by decide +kernel
theorem dX8_addWays_45 : decode cX8_addWays 45 = .ok (.getfield 25, 3) := by decide +kernel
theorem dX8_addWays_48 : decode cX8_addWays 48 = .ok (.iload_n 1, 1) := by decide +kernel
theorem dX8_addWays_49 : decode cX8_addWays 49 = .ok (.iload_n 2, 1) := by decide +kernel
theorem dX8_addWays_50 : decode cX8_addWays 50 = .ok (.iload 5, 2) := by decide +kernel
theorem dX8_addWays_52 : decode cX8_addWays 52 = .ok (.iadd, 1) := by decide +kernel
theorem dX8_addWays_53 : decode cX8_addWays 53 = .ok (.iconst 2, 1) := by decide +kernel
theorem dX8_addWays_54 : decode cX8_addWays 54 = .ok (.iadd, 1) := by decide +kernel
theorem dX8_addWays_55 : decode cX8_addWays 55 = .ok (.invokevirtual 187, 3) := by decide +kernel
theorem dX8_addWays_58 : decode cX8_addWays 58 = .ok (.istore 8, 2) := by decide +kernel
theorem dX8_addWays_60 : decode cX8_addWays 60 = .ok (.aload_n 0, 1) := by decide +kernel
theorem dX8_addWays_61 : decode cX8_addWays 61 = .ok (.iload 6, 2) := by decide +kernel
theorem dX8_addWays_63 : decode cX8_addWays 63 = .ok (.iload 7, 2) := by decide +kernel
theorem dX8_addWays_65 : decode cX8_addWays 65 = .ok (.iload 8, 2) := by decide +kernel
theorem dX8_addWays_67 : decode cX8_addWays 67 = .ok (.invokevirtual 178, 3) := by decide +kernel
theorem dX8_addWays_70 : decode cX8_addWays 70 = .ok (.ifCond .eq 6, 3) := by decide +kernel
theorem dX8_addWays_73 : decode cX8_addWays 73 = .ok (.iload 4, 2) := by decide +kernel
theorem dX8_addWays_75 : decode cX8_addWays 75 = .ok (.ireturn, 1) := by decide +kernel
theorem dX8_addWays_76 : decode cX8_addWays 76 = .ok (.aload_n 0, 1) := by decide +kernel
theorem dX8_addWays_77 : decode cX8_addWays 77 = .ok (.getfield 10, 3) := by decide +kernel
theorem dX8_addWays_80 : decode cX8_addWays 80 = .ok (.iload 6, 2) := by decide +kernel
theorem dX8_addWays_82 : decode cX8_addWays 82 = .ok (.iload 7, 2) := by decide +kernel
theorem dX8_addWays_84 : decode cX8_addWays 84 = .ok (.iload 8, 2) := by decide +kernel
theorem dX8_addWays_86 : decode cX8_addWays 86 = .ok (.invokevirtual 181, 3) := by decide +kernel
theorem dX8_addWays_89 : decode cX8_addWays 89 = .ok (.pop, 1) := by decide +kernel
theorem dX8_addWays_90 : decode cX8_addWays 90 = .ok (.iinc 4 1, 3) := by decide +kernel
theorem dX8_addWays_93 : decode cX8_addWays 93 = .ok (.iinc 5 3, 3) := by decide +kernel
theorem dX8_addWays_96 : decode cX8_addWays 96 = .ok (.goto (-90), 3) := by decide +kernel
theorem dX8_addWays_99 : decode cX8_addWays 99 = .ok (.iload 4, 2) := by decide +kernel
theorem dX8_addWays_101 : decode cX8_addWays 101 = .ok (.ireturn, 1) := by decide +kernel
theorem dX8_shut_0 : decode cX8_shut 0 = .ok (.aload_n 0, 1) := by decide +kernel
theorem dX8_shut_1 : decode cX8_shut 1 = .ok (.getfield 10, 3) := by decide +kernel
theorem dX8_shut_4 : decode cX8_shut 4 = .ok (.iload_n 1, 1) := by decide +kernel
theorem dX8_shut_5 : decode cX8_shut 5 = .ok (.invokevirtual 190, 3) := by decide +kernel
theorem dX8_shut_8 : decode cX8_shut 8 = .ok (.ifCond .ne 9, 3) := by decide +kernel
theorem dX8_shut_11 : decode cX8_shut 11 = .ok (.aload_n 0, 1) := by decide +kernel
theorem dX8_shut_12 : decode cX8_shut 12 = .ok (.iconst (-1), 1) := by decide +kernel
theorem dX8_shut_13 : decode cX8_shut 13 = .ok (.invokevirtual 88, 3) := by decide +kernel
theorem dX8_shut_16 : decode cX8_shut 16 = .ok (.ireturn, 1) := by decide +kernel
theorem dX8_shut_17 : decode cX8_shut 17 = .ok (.aload_n 0, 1) := by decide +kernel
theorem dX8_shut_18 : decode cX8_shut 18 = .ok (.getfield 10, 3) := by decide +kernel
theorem dX8_shut_21 : decode cX8_shut 21 = .ok (.iload_n 1, 1) := by decide +kernel
theorem dX8_shut_22 : decode cX8_shut 22 = .ok (.iload_n 2, 1) := by decide +kernel
theorem dX8_shut_23 : decode cX8_shut 23 = .ok (.invokevirtual 193, 3) := by decide +kernel
theorem dX8_shut_26 : decode cX8_shut 26 = .ok (.ifCond .eq 7, 3) := by decide +kernel
theorem dX8_shut_29 : decode cX8_shut 29 = .ok (.iconst 1, 1) := by decide +kernel
theorem dX8_shut_30 : decode cX8_shut 30 = .ok (.goto 4, 3) := by decide +kernel
theorem dX8_shut_33 : decode cX8_shut 33 = .ok (.iconst 0, 1) := by decide +kernel
theorem dX8_shut_34 : decode cX8_shut 34 = .ok (.ireturn, 1) := by decide +kernel
theorem dX8_lag_0 : decode cX8_lag 0 = .ok (.iload_n 1, 1) := by decide +kernel
theorem dX8_lag_1 : decode cX8_lag 1 = .ok (.invokestatic 197, 3) := by decide +kernel
theorem dX8_lag_4 : decode cX8_lag 4 = .ok (.ifCond .ne 10, 3) := by decide +kernel
theorem dX8_lag_7 : decode cX8_lag 7 = .ok (.aload_n 0, 1) := by decide +kernel
theorem dX8_lag_8 : decode cX8_lag 8 = .ok (.bipush (-6), 2) := by decide +kernel
theorem dX8_lag_10 : decode cX8_lag 10 = .ok (.invokevirtual 88, 3) := by decide +kernel
theorem dX8_lag_13 : decode cX8_lag 13 = .ok (.ireturn, 1) := by decide +kernel
theorem dX8_lag_14 : decode cX8_lag 14 = .ok (.aload_n 0, 1) := by decide +kernel
theorem dX8_lag_15 : decode cX8_lag 15 = .ok (.getfield 10, 3) := by decide +kernel
theorem dX8_lag_18 : decode cX8_lag 18 = .ok (.invokevirtual 200, 3) := by decide +kernel
theorem dX8_lag_21 : decode cX8_lag 21 = .ok (.istore_n 2, 1) := by decide +kernel
theorem dX8_lag_22 : decode cX8_lag 22 = .ok (.aload_n 0, 1) := by decide +kernel
theorem dX8_lag_23 : decode cX8_lag 23 = .ok (.getfield 10, 3) := by decide +kernel
theorem dX8_lag_26 : decode cX8_lag 26 = .ok (.iload_n 1, 1) := by decide +kernel
theorem dX8_lag_27 : decode cX8_lag 27 = .ok (.invokevirtual 204, 3) := by decide +kernel
theorem dX8_lag_30 : decode cX8_lag 30 = .ok (.iload_n 2, 1) := by decide +kernel
theorem dX8_lag_31 : decode cX8_lag 31 = .ok (.ireturn, 1) := by decide +kernel
theorem dX8_said_0 : decode cX8_said 0 = .ok (.aload_n 0, 1) := by decide +kernel
theorem dX8_said_1 : decode cX8_said 1 = .ok (.getfield 10, 3) := by decide +kernel
theorem dX8_said_4 : decode cX8_said 4 = .ok (.iload_n 1, 1) := by decide +kernel
theorem dX8_said_5 : decode cX8_said 5 = .ok (.invokevirtual 103, 3) := by decide +kernel
theorem dX8_said_8 : decode cX8_said 8 = .ok (.ifCond .ne 9, 3) := by decide +kernel
theorem dX8_said_11 : decode cX8_said 11 = .ok (.aload_n 0, 1) := by decide +kernel
theorem dX8_said_12 : decode cX8_said 12 = .ok (.iconst (-1), 1) := by decide +kernel
theorem dX8_said_13 : decode cX8_said 13 = .ok (.invokevirtual 88, 3) := by decide +kernel
theorem dX8_said_16 : decode cX8_said 16 = .ok (.ireturn, 1) := by decide +kernel
theorem dX8_said_17 : decode cX8_said 17 = .ok (.iload_n 2, 1) := by decide +kernel
theorem dX8_said_18 : decode cX8_said 18 = .ok (.invokestatic 107, 3) := by decide +kernel
theorem dX8_said_21 : decode cX8_said 21 = .ok (.ifCond .ne 10, 3) := by decide +kernel
theorem dX8_said_24 : decode cX8_said 24 = .ok (.aload_n 0, 1) := by decide +kernel
theorem dX8_said_25 : decode cX8_said 25 = .ok (.bipush (-6), 2) := by decide +kernel
theorem dX8_said_27 : decode cX8_said 27 = .ok (.invokevirtual 88, 3) := by decide +kernel
theorem dX8_said_30 : decode cX8_said 30 = .ok (.ireturn, 1) := by decide +kernel
theorem dX8_said_31 : decode cX8_said 31 = .ok (.aload_n 0, 1) := by decide +kernel
theorem dX8_said_32 : decode cX8_said 32 = .ok (.getfield 10, 3) := by decide +kernel
theorem dX8_said_35 : decode cX8_said 35 = .ok (.iload_n 1, 1) := by decide +kernel
theorem dX8_said_36 : decode cX8_said 36 = .ok (.iconst 1, 1) := by decide +kernel
theorem dX8_said_37 : decode cX8_said 37 = .ok (.invokevirtual 159, 3) := by decide +kernel
theorem dX8_said_40 : decode cX8_said 40 = .ok (.istore_n 3, 1) := by decide +kernel
theorem dX8_said_41 : decode cX8_said 41 = .ok (.aload_n 0, 1) := by decide +kernel
theorem dX8_said_42 : decode cX8_said 42 = .ok (.getfield 10, 3) := by decide +kernel
theorem dX8_said_45 : decode cX8_said 45 = .ok (.iload_n 1, 1) := by decide +kernel
theorem dX8_said_46 : decode cX8_said 46 = .ok (.iload_n 2, 1) := by decide +kernel
theorem dX8_said_47 : decode cX8_said 47 = .ok (.invokevirtual 207, 3) := by decide +kernel
theorem dX8_said_50 : decode cX8_said 50 = .ok (.iload_n 3, 1) := by decide +kernel
theorem dX8_said_51 : decode cX8_said 51 = .ok (.ireturn, 1) := by decide +kernel
theorem dX8_houseOf_0 : decode cX8_houseOf 0 = .ok (.aload_n 0, 1) := by decide +kernel
theorem dX8_houseOf_1 : decode cX8_houseOf 1 = .ok (.getfield 10, 3) := by decide +kernel
theorem dX8_houseOf_4 : decode cX8_houseOf 4 = .ok (.iload_n 1, 1) := by decide +kernel
theorem dX8_houseOf_5 : decode cX8_houseOf 5 = .ok (.invokevirtual 103, 3) := by decide +kernel
theorem dX8_houseOf_8 : decode cX8_houseOf 8 = .ok (.ifCond .eq 16, 3) := by decide +kernel
theorem dX8_houseOf_11 : decode cX8_houseOf 11 = .ok (.iload_n 2, 1) := by decide +kernel
theorem dX8_houseOf_12 : decode cX8_houseOf 12 = .ok (.ifCond .lt 12, 3) := by decide +kernel
theorem dX8_houseOf_15 : decode cX8_houseOf 15 = .ok (.iload_n 2, 1) := by decide +kernel
theorem dX8_houseOf_16 : decode cX8_houseOf 16 = .ok (.iconst 5, 1) := by decide +kernel
theorem dX8_houseOf_17 : decode cX8_houseOf 17 = .ok (.if_icmp .ge 7, 3) := by decide +kernel
theorem dX8_houseOf_20 : decode cX8_houseOf 20 = .ok (.iconst 1, 1) := by decide +kernel
theorem dX8_houseOf_21 : decode cX8_houseOf 21 = .ok (.goto 4, 3) := by decide +kernel
theorem dX8_houseOf_24 : decode cX8_houseOf 24 = .ok (.iconst 0, 1) := by decide +kernel
theorem dX8_houseOf_25 : decode cX8_houseOf 25 = .ok (.istore_n 3, 1) := by decide +kernel
theorem dX8_houseOf_26 : decode cX8_houseOf 26 = .ok (.iload_n 3, 1) := by decide +kernel
theorem dX8_houseOf_27 : decode cX8_houseOf 27 = .ok (.ifCond .eq 15, 3) := by decide +kernel
theorem dX8_houseOf_30 : decode cX8_houseOf 30 = .ok (.aload_n 0, 1) := by decide +kernel
theorem dX8_houseOf_31 : decode cX8_houseOf 31 = .ok (.getfield 10, 3) := by decide +kernel
theorem dX8_houseOf_34 : decode cX8_houseOf 34 = .ok (.iload_n 1, 1) := by decide +kernel
theorem dX8_houseOf_35 : decode cX8_houseOf 35 = .ok (.iload_n 2, 1) := by decide +kernel
theorem dX8_houseOf_36 : decode cX8_houseOf 36 = .ok (.invokevirtual 159, 3) := by decide +kernel
theorem dX8_houseOf_39 : decode cX8_houseOf 39 = .ok (.goto 9, 3) := by decide +kernel
theorem dX8_houseOf_42 : decode cX8_houseOf 42 = .ok (.aload_n 0, 1) := by decide +kernel
theorem dX8_houseOf_43 : decode cX8_houseOf 43 = .ok (.bipush (-5), 2) := by decide +kernel
theorem dX8_houseOf_45 : decode cX8_houseOf 45 = .ok (.invokevirtual 88, 3) := by decide +kernel
theorem dX8_houseOf_48 : decode cX8_houseOf 48 = .ok (.ireturn, 1) := by decide +kernel
theorem dX8_wayOf_0 : decode cX8_wayOf 0 = .ok (.aload_n 0, 1) := by decide +kernel
theorem dX8_wayOf_1 : decode cX8_wayOf 1 = .ok (.getfield 10, 3) := by decide +kernel
theorem dX8_wayOf_4 : decode cX8_wayOf 4 = .ok (.iload_n 1, 1) := by decide +kernel
theorem dX8_wayOf_5 : decode cX8_wayOf 5 = .ok (.invokevirtual 190, 3) := by decide +kernel
theorem dX8_wayOf_8 : decode cX8_wayOf 8 = .ok (.ifCond .eq 16, 3) := by decide +kernel
theorem dX8_wayOf_11 : decode cX8_wayOf 11 = .ok (.iload_n 2, 1) := by decide +kernel
theorem dX8_wayOf_12 : decode cX8_wayOf 12 = .ok (.ifCond .lt 12, 3) := by decide +kernel
theorem dX8_wayOf_15 : decode cX8_wayOf 15 = .ok (.iload_n 2, 1) := by decide +kernel
theorem dX8_wayOf_16 : decode cX8_wayOf 16 = .ok (.iconst 4, 1) := by decide +kernel
theorem dX8_wayOf_17 : decode cX8_wayOf 17 = .ok (.if_icmp .ge 7, 3) := by decide +kernel
theorem dX8_wayOf_20 : decode cX8_wayOf 20 = .ok (.iconst 1, 1) := by decide +kernel
theorem dX8_wayOf_21 : decode cX8_wayOf 21 = .ok (.goto 4, 3) := by decide +kernel
theorem dX8_wayOf_24 : decode cX8_wayOf 24 = .ok (.iconst 0, 1) := by decide +kernel
theorem dX8_wayOf_25 : decode cX8_wayOf 25 = .ok (.istore_n 3, 1) := by decide +kernel
theorem dX8_wayOf_26 : decode cX8_wayOf 26 = .ok (.iload_n 3, 1) := by decide +kernel
theorem dX8_wayOf_27 : decode cX8_wayOf 27 = .ok (.ifCond .eq 15, 3) := by decide +kernel
theorem dX8_wayOf_30 : decode cX8_wayOf 30 = .ok (.aload_n 0, 1) := by decide +kernel
theorem dX8_wayOf_31 : decode cX8_wayOf 31 = .ok (.getfield 10, 3) := by decide +kernel
theorem dX8_wayOf_34 : decode cX8_wayOf 34 = .ok (.iload_n 1, 1) := by decide +kernel
theorem dX8_wayOf_35 : decode cX8_wayOf 35 = .ok (.iload_n 2, 1) := by decide +kernel
theorem dX8_wayOf_36 : decode cX8_wayOf 36 = .ok (.invokevirtual 210, 3) := by decide +kernel
theorem dX8_wayOf_39 : decode cX8_wayOf 39 = .ok (.goto 9, 3) := by decide +kernel
theorem dX8_wayOf_42 : decode cX8_wayOf 42 = .ok (.aload_n 0, 1) := by decide +kernel
theorem dX8_wayOf_43 : decode cX8_wayOf 43 = .ok (.bipush (-5), 2) := by decide +kernel
theorem dX8_wayOf_45 : decode cX8_wayOf 45 = .ok (.invokevirtual 88, 3) := by decide +kernel
theorem dX8_wayOf_48 : decode cX8_wayOf 48 = .ok (.ireturn, 1) := by decide +kernel
theorem dX8_street_0 : decode cX8_street 0 = .ok (.aload_n 0, 1) := by decide +kernel
theorem dX8_street_1 : decode cX8_street 1 = .ok (.getfield 25, 3) := by decide +kernel
theorem dX8_street_4 : decode cX8_street 4 = .ok (.iload_n 1, 1) := by decide +kernel
theorem dX8_street_5 : decode cX8_street 5 = .ok (.invokevirtual 120, 3) := by decide +kernel
theorem dX8_street_8 : decode cX8_street 8 = .ok (.istore_n 2, 1) := by decide +kernel
theorem dX8_street_9 : decode cX8_street 9 = .ok (.iload_n 2, 1) := by decide +kernel
theorem dX8_street_10 : decode cX8_street 10 = .ok (.ifCond .eq 9, 3) := by decide +kernel
theorem dX8_street_13 : decode cX8_street 13 = .ok (.aload_n 0, 1) := by decide +kernel
theorem dX8_street_14 : decode cX8_street 14 = .ok (.iload_n 2, 1) := by decide +kernel
theorem dX8_street_15 : decode cX8_street 15 = .ok (.invokevirtual 88, 3) := by decide +kernel
theorem dX8_street_18 : decode cX8_street 18 = .ok (.ireturn, 1) := by decide +kernel
theorem dX8_street_19 : decode cX8_street 19 = .ok (.aload_n 0, 1) := by decide +kernel
theorem dX8_street_20 : decode cX8_street 20 = .ok (.getfield 19, 3) := by decide +kernel
theorem dX8_street_23 : decode cX8_street 23 = .ok (.aload_n 0, 1) := by decide +kernel
theorem dX8_street_24 : decode cX8_street 24 = .ok (.getfield 10, 3) := by decide +kernel
theorem dX8_street_27 : decode cX8_street 27 = .ok (.invokevirtual 213, 3) := by decide +kernel
theorem dX8_street_30 : decode cX8_street 30 = .ok (.aload_n 0, 1) := by decide +kernel
theorem dX8_street_31 : decode cX8_street 31 = .ok (.getfield 59, 3) := by decide +kernel
theorem dX8_street_34 : decode cX8_street 34 = .ok (.iload_n 1, 1) := by decide +kernel
theorem dX8_street_35 : decode cX8_street 35 = .ok (.invokevirtual 216, 3) := by decide +kernel
theorem dX8_street_38 : decode cX8_street 38 = .ok (.istore_n 3, 1) := by decide +kernel
theorem dX8_street_39 : decode cX8_street 39 = .ok (.aload_n 0, 1) := by decide +kernel
theorem dX8_street_40 : decode cX8_street 40 = .ok (.aload_n 0, 1) := by decide +kernel
theorem dX8_street_41 : decode cX8_street 41 = .ok (.getfield 59, 3) := by decide +kernel
theorem dX8_street_44 : decode cX8_street 44 = .ok (.invokevirtual 219, 3) := by decide +kernel
theorem dX8_street_47 : decode cX8_street 47 = .ok (.putfield 72, 3) := by decide +kernel
theorem dX8_street_50 : decode cX8_street 50 = .ok (.aload_n 0, 1) := by decide +kernel
theorem dX8_street_51 : decode cX8_street 51 = .ok (.getfield 72, 3) := by decide +kernel
theorem dX8_street_54 : decode cX8_street 54 = .ok (.iconst (-1), 1) := by decide +kernel
theorem dX8_street_55 : decode cX8_street 55 = .ok (.if_icmp .eq 10, 3) := by decide +kernel
theorem dX8_street_58 : decode cX8_street 58 = .ok (.aload_n 0, 1) := by decide +kernel
theorem dX8_street_59 : decode cX8_street 59 = .ok (.bipush (-6), 2) := by decide +kernel
theorem dX8_street_61 : decode cX8_street 61 = .ok (.invokevirtual 88, 3) := by decide +kernel
theorem dX8_street_64 : decode cX8_street 64 = .ok (.ireturn, 1) := by decide +kernel
theorem dX8_street_65 : decode cX8_street 65 = .ok (.aload_n 0, 1) := by decide +kernel
theorem dX8_street_66 : decode cX8_street 66 = .ok (.getfield 10, 3) := by decide +kernel
theorem dX8_street_69 : decode cX8_street 69 = .ok (.aload_n 0, 1) := by decide +kernel
theorem dX8_street_70 : decode cX8_street 70 = .ok (.getfield 19, 3) := by decide +kernel
theorem dX8_street_73 : decode cX8_street 73 = .ok (.invokevirtual 213, 3) := by decide +kernel
theorem dX8_street_76 : decode cX8_street 76 = .ok (.iload_n 3, 1) := by decide +kernel
theorem dX8_street_77 : decode cX8_street 77 = .ok (.ireturn, 1) := by decide +kernel
theorem dX8_fault_0 : decode cX8_fault 0 = .ok (.aload_n 0, 1) := by decide +kernel
theorem dX8_fault_1 : decode cX8_fault 1 = .ok (.getfield 72, 3) := by decide +kernel
theorem dX8_fault_4 : decode cX8_fault 4 = .ok (.ireturn, 1) := by decide +kernel
theorem dX8_put_0 : decode cX8_put 0 = .ok (.aload_n 0, 1) := by decide +kernel
theorem dX8_put_1 : decode cX8_put 1 = .ok (.getfield 10, 3) := by decide +kernel
theorem dX8_put_4 : decode cX8_put 4 = .ok (.iload_n 1, 1) := by decide +kernel
theorem dX8_put_5 : decode cX8_put 5 = .ok (.invokevirtual 103, 3) := by decide +kernel
theorem dX8_put_8 : decode cX8_put 8 = .ok (.ifCond .eq 14, 3) := by decide +kernel
theorem dX8_put_11 : decode cX8_put 11 = .ok (.aload_n 0, 1) := by decide +kernel
theorem dX8_put_12 : decode cX8_put 12 = .ok (.getfield 10, 3) := by decide +kernel
theorem dX8_put_15 : decode cX8_put 15 = .ok (.iload_n 1, 1) := by decide +kernel
theorem dX8_put_16 : decode cX8_put 16 = .ok (.invokevirtual 222, 3) := by decide +kernel
theorem dX8_put_19 : decode cX8_put 19 = .ok (.goto 8, 3) := by decide +kernel
theorem dX8_put_22 : decode cX8_put 22 = .ok (.aload_n 0, 1) := by decide +kernel
theorem dX8_put_23 : decode cX8_put 23 = .ok (.iconst (-1), 1) := by decide +kernel
theorem dX8_put_24 : decode cX8_put 24 = .ok (.invokevirtual 88, 3) := by decide +kernel
theorem dX8_put_27 : decode cX8_put 27 = .ok (.ireturn, 1) := by decide +kernel
theorem dX8_go_0 : decode cX8_go 0 = .ok (.aload_n 0, 1) := by decide +kernel
theorem dX8_go_1 : decode cX8_go 1 = .ok (.getfield 10, 3) := by decide +kernel
theorem dX8_go_4 : decode cX8_go 4 = .ok (.iload_n 1, 1) := by decide +kernel
theorem dX8_go_5 : decode cX8_go 5 = .ok (.invokevirtual 190, 3) := by decide +kernel
theorem dX8_go_8 : decode cX8_go 8 = .ok (.ifCond .ne 9, 3) := by decide +kernel
theorem dX8_go_11 : decode cX8_go 11 = .ok (.aload_n 0, 1) := by decide +kernel
theorem dX8_go_12 : decode cX8_go 12 = .ok (.iconst (-1), 1) := by decide +kernel
theorem dX8_go_13 : decode cX8_go 13 = .ok (.invokevirtual 88, 3) := by decide +kernel
theorem dX8_go_16 : decode cX8_go 16 = .ok (.ireturn, 1) := by decide +kernel
theorem dX8_go_17 : decode cX8_go 17 = .ok (.aload_n 0, 1) := by decide +kernel
theorem dX8_go_18 : decode cX8_go 18 = .ok (.getfield 10, 3) := by decide +kernel
theorem dX8_go_21 : decode cX8_go 21 = .ok (.iload_n 1, 1) := by decide +kernel
theorem dX8_go_22 : decode cX8_go 22 = .ok (.invokevirtual 225, 3) := by decide +kernel
theorem dX8_go_25 : decode cX8_go 25 = .ok (.ifCond .eq 14, 3) := by decide +kernel
theorem dX8_go_28 : decode cX8_go 28 = .ok (.aload_n 0, 1) := by decide +kernel
theorem dX8_go_29 : decode cX8_go 29 = .ok (.getfield 10, 3) := by decide +kernel
theorem dX8_go_32 : decode cX8_go 32 = .ok (.iload_n 1, 1) := by decide +kernel
theorem dX8_go_33 : decode cX8_go 33 = .ok (.invokevirtual 228, 3) := by decide +kernel
theorem dX8_go_36 : decode cX8_go 36 = .ok (.goto 9, 3) := by decide +kernel
theorem dX8_go_39 : decode cX8_go 39 = .ok (.aload_n 0, 1) := by decide +kernel
theorem dX8_go_40 : decode cX8_go 40 = .ok (.bipush (-6), 2) := by decide +kernel
theorem dX8_go_42 : decode cX8_go 42 = .ok (.invokevirtual 88, 3) := by decide +kernel
theorem dX8_go_45 : decode cX8_go 45 = .ok (.ireturn, 1) := by decide +kernel
theorem dX8_where_0 : decode cX8_where 0 = .ok (.aload_n 0, 1) := by decide +kernel
theorem dX8_where_1 : decode cX8_where 1 = .ok (.getfield 10, 3) := by decide +kernel
theorem dX8_where_4 : decode cX8_where 4 = .ok (.invokevirtual 231, 3) := by decide +kernel
theorem dX8_where_7 : decode cX8_where 7 = .ok (.ireturn, 1) := by decide +kernel
theorem dX8_next_0 : decode cX8_next 0 = .ok (.aload_n 0, 1) := by decide +kernel
theorem dX8_next_1 : decode cX8_next 1 = .ok (.getfield 10, 3) := by decide +kernel
theorem dX8_next_4 : decode cX8_next 4 = .ok (.invokevirtual 234, 3) := by decide +kernel
theorem dX8_next_7 : decode cX8_next 7 = .ok (.ireturn, 1) := by decide +kernel
theorem dX8_behind_0 : decode cX8_behind 0 = .ok (.iload_n 1, 1) := by decide +kernel
theorem dX8_behind_1 : decode cX8_behind 1 = .ok (.ifCond .lt 25, 3) := by decide +kernel
theorem dX8_behind_4 : decode cX8_behind 4 = .ok (.iload_n 1, 1) := by decide +kernel
theorem dX8_behind_5 : decode cX8_behind 5 = .ok (.aload_n 0, 1) := by decide +kernel
theorem dX8_behind_6 : decode cX8_behind 6 = .ok (.getfield 10, 3) := by decide +kernel
theorem dX8_behind_9 : decode cX8_behind 9 = .ok (.invokevirtual 200, 3) := by decide +kernel
theorem dX8_behind_12 : decode cX8_behind 12 = .ok (.if_icmp .ge 14, 3) := by decide +kernel
theorem dX8_behind_15 : decode cX8_behind 15 = .ok (.aload_n 0, 1) := by decide +kernel
theorem dX8_behind_16 : decode cX8_behind 16 = .ok (.getfield 10, 3) := by decide +kernel
theorem dX8_behind_19 : decode cX8_behind 19 = .ok (.iload_n 1, 1) := by decide +kernel
theorem dX8_behind_20 : decode cX8_behind 20 = .ok (.invokevirtual 237, 3) := by decide +kernel
theorem dX8_behind_23 : decode cX8_behind 23 = .ok (.goto 9, 3) := by decide +kernel
theorem dX8_behind_26 : decode cX8_behind 26 = .ok (.aload_n 0, 1) := by decide +kernel
theorem dX8_behind_27 : decode cX8_behind 27 = .ok (.bipush (-5), 2) := by decide +kernel
theorem dX8_behind_29 : decode cX8_behind 29 = .ok (.invokevirtual 88, 3) := by decide +kernel
theorem dX8_behind_32 : decode cX8_behind 32 = .ok (.ireturn, 1) := by decide +kernel
theorem dX8_answer_0 : decode cX8_answer 0 = .ok (.aload_n 0, 1) := by decide +kernel
theorem dX8_answer_1 : decode cX8_answer 1 = .ok (.getfield 10, 3) := by decide +kernel
theorem dX8_answer_4 : decode cX8_answer 4 = .ok (.iload_n 1, 1) := by decide +kernel
theorem dX8_answer_5 : decode cX8_answer 5 = .ok (.invokevirtual 103, 3) := by decide +kernel
theorem dX8_answer_8 : decode cX8_answer 8 = .ok (.ifCond .ne 9, 3) := by decide +kernel
theorem dX8_answer_11 : decode cX8_answer 11 = .ok (.aload_n 0, 1) := by decide +kernel
theorem dX8_answer_12 : decode cX8_answer 12 = .ok (.iconst (-1), 1) := by decide +kernel
theorem dX8_answer_13 : decode cX8_answer 13 = .ok (.invokevirtual 88, 3) := by decide +kernel
theorem dX8_answer_16 : decode cX8_answer 16 = .ok (.ireturn, 1) := by decide +kernel
theorem dX8_answer_17 : decode cX8_answer 17 = .ok (.iload_n 2, 1) := by decide +kernel
theorem dX8_answer_18 : decode cX8_answer 18 = .ok (.invokestatic 107, 3) := by decide +kernel
theorem dX8_answer_21 : decode cX8_answer 21 = .ok (.ifCond .eq 17, 3) := by decide +kernel
theorem dX8_answer_24 : decode cX8_answer 24 = .ok (.aload_n 0, 1) := by decide +kernel
theorem dX8_answer_25 : decode cX8_answer 25 = .ok (.getfield 10, 3) := by decide +kernel
theorem dX8_answer_28 : decode cX8_answer 28 = .ok (.iload_n 1, 1) := by decide +kernel
theorem dX8_answer_29 : decode cX8_answer 29 = .ok (.iload_n 2, 1) := by decide +kernel
theorem dX8_answer_30 : decode cX8_answer 30 = .ok (.iconst 0, 1) := by decide +kernel
theorem dX8_answer_31 : decode cX8_answer 31 = .ok (.iconst 0, 1) := by decide +kernel
theorem dX8_answer_32 : decode cX8_answer 32 = .ok (.invokevirtual 240, 3) := by decide +kernel
theorem dX8_answer_35 : decode cX8_answer 35 = .ok (.goto 9, 3) := by decide +kernel
theorem dX8_answer_38 : decode cX8_answer 38 = .ok (.aload_n 0, 1) := by decide +kernel
theorem dX8_answer_39 : decode cX8_answer 39 = .ok (.bipush (-6), 2) := by decide +kernel
theorem dX8_answer_41 : decode cX8_answer 41 = .ok (.invokevirtual 88, 3) := by decide +kernel
theorem dX8_answer_44 : decode cX8_answer 44 = .ok (.ireturn, 1) := by decide +kernel
theorem dX8_between_0 : decode cX8_between 0 = .ok (.aload_n 0, 1) := by decide +kernel
theorem dX8_between_1 : decode cX8_between 1 = .ok (.getfield 10, 3) := by decide +kernel
theorem dX8_between_4 : decode cX8_between 4 = .ok (.iload_n 1, 1) := by decide +kernel
theorem dX8_between_5 : decode cX8_between 5 = .ok (.invokevirtual 103, 3) := by decide +kernel
theorem dX8_between_8 : decode cX8_between 8 = .ok (.ifCond .eq 14, 3) := by decide +kernel
theorem dX8_between_11 : decode cX8_between 11 = .ok (.aload_n 0, 1) := by decide +kernel
theorem dX8_between_12 : decode cX8_between 12 = .ok (.getfield 10, 3) := by decide +kernel
theorem dX8_between_15 : decode cX8_between 15 = .ok (.iload_n 2, 1) := by decide +kernel
theorem dX8_between_16 : decode cX8_between 16 = .ok (.invokevirtual 103, 3) := by decide +kernel
theorem dX8_between_19 : decode cX8_between 19 = .ok (.ifCond .ne 9, 3) := by decide +kernel
theorem dX8_between_22 : decode cX8_between 22 = .ok (.aload_n 0, 1) := by decide +kernel
theorem dX8_between_23 : decode cX8_between 23 = .ok (.iconst (-1), 1) := by decide +kernel
theorem dX8_between_24 : decode cX8_between 24 = .ok (.invokevirtual 244, 3) := by decide +kernel
theorem dX8_between_27 : decode cX8_between 27 = .ok (.ireturn, 1) := by decide +kernel
theorem dX8_between_28 : decode cX8_between 28 = .ok (.aload_n 0, 1) := by decide +kernel
theorem dX8_between_29 : decode cX8_between 29 = .ok (.getfield 41, 3) := by decide +kernel
theorem dX8_between_32 : decode cX8_between 32 = .ok (.invokevirtual 247, 3) := by decide +kernel
theorem dX8_between_35 : decode cX8_between 35 = .ok (.aload_n 0, 1) := by decide +kernel
theorem dX8_between_36 : decode cX8_between 36 = .ok (.getfield 41, 3) := by decide +kernel
theorem dX8_between_39 : decode cX8_between 39 = .ok (.iload_n 1, 1) := by decide +kernel
theorem dX8_between_40 : decode cX8_between 40 = .ok (.iload_n 2, 1) := by decide +kernel
theorem dX8_between_41 : decode cX8_between 41 = .ok (.invokevirtual 250, 3) := by decide +kernel
theorem dX8_between_44 : decode cX8_between 44 = .ok (.ireturn, 1) := by decide +kernel
theorem dX8_walkTold_0 : decode cX8_walkTold 0 = .ok (.iconst 0, 1) := by decide +kernel
theorem dX8_walkTold_1 : decode cX8_walkTold 1 = .ok (.istore_n 3, 1) := by decide +kernel
theorem dX8_walkTold_2 : decode cX8_walkTold 2 = .ok (.iload_n 3, 1) := by decide +kernel
theorem dX8_walkTold_3 : decode cX8_walkTold 3 = .ok (.iload_n 2, 1) := by decide +kernel
theorem dX8_walkTold_4 : decode cX8_walkTold 4 = .ok (.if_icmp .ge 30, 3) := by decide +kernel
theorem dX8_walkTold_7 : decode cX8_walkTold 7 = .ok (.aload_n 0, 1) := by decide +kernel
theorem dX8_walkTold_8 : decode cX8_walkTold 8 = .ok (.getfield 41, 3) := by decide +kernel
theorem dX8_walkTold_11 : decode cX8_walkTold 11 = .ok (.aload_n 0, 1) := by decide +kernel
theorem dX8_walkTold_12 : decode cX8_walkTold 12 = .ok (.getfield 25, 3) := by decide +kernel
theorem dX8_walkTold_15 : decode cX8_walkTold 15 = .ok (.iload_n 1, 1) := by decide +kernel
theorem dX8_walkTold_16 : decode cX8_walkTold 16 = .ok (.iload_n 3, 1) := by decide +kernel
theorem dX8_walkTold_17 : decode cX8_walkTold 17 = .ok (.invokevirtual 187, 3) := by decide +kernel
theorem dX8_walkTold_20 : decode cX8_walkTold 20 = .ok (.invokevirtual 253, 3) := by decide +kernel
theorem dX8_walkTold_23 : decode cX8_walkTold 23 = .ok (.ifCond .ne 5, 3) := by decide +kernel
theorem dX8_walkTold_26 : decode cX8_walkTold 26 = .ok (.iload_n 3, 1) := by decide +kernel
theorem dX8_walkTold_27 : decode cX8_walkTold 27 = .ok (.ireturn, 1) := by decide +kernel
theorem dX8_walkTold_28 : decode cX8_walkTold 28 = .ok (.iinc 3 1, 3) := by decide +kernel
theorem dX8_walkTold_31 : decode cX8_walkTold 31 = .ok (.goto (-29), 3) := by decide +kernel
theorem dX8_walkTold_34 : decode cX8_walkTold 34 = .ok (.iconst (-1), 1) := by decide +kernel
theorem dX8_walkTold_35 : decode cX8_walkTold 35 = .ok (.ireturn, 1) := by decide +kernel
theorem dX8_judge_0 : decode cX8_judge 0 = .ok (.aload_n 0, 1) := by decide +kernel
theorem dX8_judge_1 : decode cX8_judge 1 = .ok (.iload_n 1, 1) := by decide +kernel
theorem dX8_judge_2 : decode cX8_judge 2 = .ok (.iload_n 2, 1) := by decide +kernel
theorem dX8_judge_3 : decode cX8_judge 3 = .ok (.bipush 40, 2) := by decide +kernel
theorem dX8_judge_5 : decode cX8_judge 5 = .ok (.invokevirtual 256, 3) := by decide +kernel
theorem dX8_judge_8 : decode cX8_judge 8 = .ok (.istore_n 3, 1) := by decide +kernel
theorem dX8_judge_9 : decode cX8_judge 9 = .ok (.iload_n 3, 1) := by decide +kernel
theorem dX8_judge_10 : decode cX8_judge 10 = .ok (.ifCond .eq 9, 3) := by decide +kernel
theorem dX8_judge_13 : decode cX8_judge 13 = .ok (.aload_n 0, 1) := by decide +kernel
theorem dX8_judge_14 : decode cX8_judge 14 = .ok (.iload_n 3, 1) := by decide +kernel
theorem dX8_judge_15 : decode cX8_judge 15 = .ok (.invokevirtual 88, 3) := by decide +kernel
theorem dX8_judge_18 : decode cX8_judge 18 = .ok (.ireturn, 1) := by decide +kernel
theorem dX8_judge_19 : decode cX8_judge 19 = .ok (.aload_n 0, 1) := by decide +kernel
theorem dX8_judge_20 : decode cX8_judge 20 = .ok (.getfield 41, 3) := by decide +kernel
theorem dX8_judge_23 : decode cX8_judge 23 = .ok (.invokevirtual 247, 3) := by decide +kernel
theorem dX8_judge_26 : decode cX8_judge 26 = .ok (.aload_n 0, 1) := by decide +kernel
theorem dX8_judge_27 : decode cX8_judge 27 = .ok (.iload_n 1, 1) := by decide +kernel
theorem dX8_judge_28 : decode cX8_judge 28 = .ok (.iload_n 2, 1) := by decide +kernel
theorem dX8_judge_29 : decode cX8_judge 29 = .ok (.invokevirtual 259, 3) := by decide +kernel
theorem dX8_judge_32 : decode cX8_judge 32 = .ok (.ireturn, 1) := by decide +kernel
theorem dX8_minutes_0 : decode cX8_minutes 0 = .ok (.aload_n 0, 1) := by decide +kernel
theorem dX8_minutes_1 : decode cX8_minutes 1 = .ok (.iload_n 1, 1) := by decide +kernel
theorem dX8_minutes_2 : decode cX8_minutes 2 = .ok (.iload_n 2, 1) := by decide +kernel
theorem dX8_minutes_3 : decode cX8_minutes 3 = .ok (.bipush 40, 2) := by decide +kernel
theorem dX8_minutes_5 : decode cX8_minutes 5 = .ok (.invokevirtual 256, 3) := by decide +kernel
theorem dX8_minutes_8 : decode cX8_minutes 8 = .ok (.istore_n 3, 1) := by decide +kernel
theorem dX8_minutes_9 : decode cX8_minutes 9 = .ok (.iload_n 3, 1) := by decide +kernel
theorem dX8_minutes_10 : decode cX8_minutes 10 = .ok (.ifCond .eq 9, 3) := by decide +kernel
theorem dX8_minutes_13 : decode cX8_minutes 13 = .ok (.aload_n 0, 1) := by decide +kernel
theorem dX8_minutes_14 : decode cX8_minutes 14 = .ok (.iload_n 3, 1) := by decide +kernel
theorem dX8_minutes_15 : decode cX8_minutes 15 = .ok (.invokevirtual 88, 3) := by decide +kernel
theorem dX8_minutes_18 : decode cX8_minutes 18 = .ok (.ireturn, 1) := by decide +kernel
theorem dX8_minutes_19 : decode cX8_minutes 19 = .ok (.aload_n 0, 1) := by decide +kernel
theorem dX8_minutes_20 : decode cX8_minutes 20 = .ok (.getfield 41, 3) := by decide +kernel
theorem dX8_minutes_23 : decode cX8_minutes 23 = .ok (.invokevirtual 247, 3) := by decide +kernel
theorem dX8_minutes_26 : decode cX8_minutes 26 = .ok (.aload_n 0, 1) := by decide +kernel
theorem dX8_minutes_27 : decode cX8_minutes 27 = .ok (.iload_n 1, 1) := by decide +kernel
theorem dX8_minutes_28 : decode cX8_minutes 28 = .ok (.iload_n 2, 1) := by decide +kernel
theorem dX8_minutes_29 : decode cX8_minutes 29 = .ok (.invokevirtual 259, 3) := by decide +kernel
theorem dX8_minutes_32 : decode cX8_minutes 32 = .ok (.iconst (-1), 1) := by decide +kernel
theorem dX8_minutes_33 : decode cX8_minutes 33 = .ok (.if_icmp .ne 13, 3) := by decide +kernel
theorem dX8_minutes_36 : decode cX8_minutes 36 = .ok (.aload_n 0, 1) := by decide +kernel
theorem dX8_minutes_37 : decode cX8_minutes 37 = .ok (.getfield 41, 3) := by decide +kernel
theorem dX8_minutes_40 : decode cX8_minutes 40 = .ok (.invokevirtual 262, 3) := by decide +kernel
theorem dX8_minutes_43 : decode cX8_minutes 43 = .ok (.goto 9, 3) := by decide +kernel
theorem dX8_minutes_46 : decode cX8_minutes 46 = .ok (.aload_n 0, 1) := by decide +kernel
theorem dX8_minutes_47 : decode cX8_minutes 47 = .ok (.bipush (-6), 2) := by decide +kernel
theorem dX8_minutes_49 : decode cX8_minutes 49 = .ok (.invokevirtual 88, 3) := by decide +kernel
theorem dX8_minutes_52 : decode cX8_minutes 52 = .ok (.ireturn, 1) := by decide +kernel
theorem dX8_hears_0 : decode cX8_hears 0 = .ok (.aload_n 0, 1) := by decide +kernel
theorem dX8_hears_1 : decode cX8_hears 1 = .ok (.getfield 10, 3) := by decide +kernel
theorem dX8_hears_4 : decode cX8_hears 4 = .ok (.iload_n 3, 1) := by decide +kernel
theorem dX8_hears_5 : decode cX8_hears 5 = .ok (.invokevirtual 103, 3) := by decide +kernel
theorem dX8_hears_8 : decode cX8_hears 8 = .ok (.ifCond .eq 14, 3) := by decide +kernel
theorem dX8_hears_11 : decode cX8_hears 11 = .ok (.aload_n 0, 1) := by decide +kernel
theorem dX8_hears_12 : decode cX8_hears 12 = .ok (.iload_n 1, 1) := by decide +kernel
theorem dX8_hears_13 : decode cX8_hears 13 = .ok (.iload_n 2, 1) := by decide +kernel
theorem dX8_hears_14 : decode cX8_hears 14 = .ok (.bipush 40, 2) := by decide +kernel
theorem dX8_hears_16 : decode cX8_hears 16 = .ok (.invokevirtual 256, 3) := by decide +kernel
theorem dX8_hears_19 : decode cX8_hears 19 = .ok (.goto 4, 3) := by decide +kernel
theorem dX8_hears_22 : decode cX8_hears 22 = .ok (.iconst (-1), 1) := by decide +kernel
theorem dX8_hears_23 : decode cX8_hears 23 = .ok (.istore 4, 2) := by decide +kernel
theorem dX8_hears_25 : decode cX8_hears 25 = .ok (.iload 4, 2) := by decide +kernel
theorem dX8_hears_27 : decode cX8_hears 27 = .ok (.ifCond .eq 10, 3) := by decide +kernel
theorem dX8_hears_30 : decode cX8_hears 30 = .ok (.aload_n 0, 1) := by decide +kernel
theorem dX8_hears_31 : decode cX8_hears 31 = .ok (.iload 4, 2) := by decide +kernel
theorem dX8_hears_33 : decode cX8_hears 33 = .ok (.invokevirtual 88, 3) := by decide +kernel
theorem dX8_hears_36 : decode cX8_hears 36 = .ok (.ireturn, 1) := by decide +kernel
theorem dX8_hears_37 : decode cX8_hears 37 = .ok (.aload_n 0, 1) := by decide +kernel
theorem dX8_hears_38 : decode cX8_hears 38 = .ok (.getfield 41, 3) := by decide +kernel
theorem dX8_hears_41 : decode cX8_hears 41 = .ok (.invokevirtual 247, 3) := by decide +kernel
theorem dX8_hears_44 : decode cX8_hears 44 = .ok (.aload_n 0, 1) := by decide +kernel
theorem dX8_hears_45 : decode cX8_hears 45 = .ok (.iload_n 1, 1) := by decide +kernel
theorem dX8_hears_46 : decode cX8_hears 46 = .ok (.iload_n 2, 1) := by decide +kernel
theorem dX8_hears_47 : decode cX8_hears 47 = .ok (.invokevirtual 259, 3) := by decide +kernel
theorem dX8_hears_50 : decode cX8_hears 50 = .ok (.iconst (-1), 1) := by decide +kernel
theorem dX8_hears_51 : decode cX8_hears 51 = .ok (.if_icmp .ne 14, 3) := by decide +kernel
theorem dX8_hears_54 : decode cX8_hears 54 = .ok (.aload_n 0, 1) := by decide +kernel
theorem dX8_hears_55 : decode cX8_hears 55 = .ok (.getfield 41, 3) := by decide +kernel
theorem dX8_hears_58 : decode cX8_hears 58 = .ok (.iload_n 3, 1) := by decide +kernel
theorem dX8_hears_59 : decode cX8_hears 59 = .ok (.invokevirtual 265, 3) := by decide +kernel
theorem dX8_hears_62 : decode cX8_hears 62 = .ok (.goto 9, 3) := by decide +kernel
theorem dX8_hears_65 : decode cX8_hears 65 = .ok (.aload_n 0, 1) := by decide +kernel
theorem dX8_hears_66 : decode cX8_hears 66 = .ok (.bipush (-6), 2) := by decide +kernel
theorem dX8_hears_68 : decode cX8_hears 68 = .ok (.invokevirtual 88, 3) := by decide +kernel
theorem dX8_hears_71 : decode cX8_hears 71 = .ok (.ireturn, 1) := by decide +kernel
theorem dX8_other_0 : decode cX8_other 0 = .ok (.aload_n 0, 1) := by decide +kernel
theorem dX8_other_1 : decode cX8_other 1 = .ok (.iload_n 1, 1) := by decide +kernel
theorem dX8_other_2 : decode cX8_other 2 = .ok (.iload_n 2, 1) := by decide +kernel
theorem dX8_other_3 : decode cX8_other 3 = .ok (.bipush 40, 2) := by decide +kernel
theorem dX8_other_5 : decode cX8_other 5 = .ok (.invokevirtual 256, 3) := by decide +kernel
theorem dX8_other_8 : decode cX8_other 8 = .ok (.istore 4, 2) := by decide +kernel
theorem dX8_other_10 : decode cX8_other 10 = .ok (.iload 4, 2) := by decide +kernel
theorem dX8_other_12 : decode cX8_other 12 = .ok (.ifCond .ne 14, 3) := by decide +kernel
theorem dX8_other_15 : decode cX8_other 15 = .ok (.iload_n 3, 1) := by decide +kernel
theorem dX8_other_16 : decode cX8_other 16 = .ok (.invokestatic 197, 3) := by decide +kernel
theorem dX8_other_19 : decode cX8_other 19 = .ok (.ifCond .ne 7, 3) := by decide +kernel
theorem dX8_other_22 : decode cX8_other 22 = .ok (.bipush (-6), 2) := by decide +kernel
theorem dX8_other_24 : decode cX8_other 24 = .ok (.istore 4, 2) := by decide +kernel
theorem dX8_other_26 : decode cX8_other 26 = .ok (.iload 4, 2) := by decide +kernel
theorem dX8_other_28 : decode cX8_other 28 = .ok (.ifCond .eq 10, 3) := by decide +kernel
theorem dX8_other_31 : decode cX8_other 31 = .ok (.aload_n 0, 1) := by decide +kernel
theorem dX8_other_32 : decode cX8_other 32 = .ok (.iload 4, 2) := by decide +kernel
theorem dX8_other_34 : decode cX8_other 34 = .ok (.invokevirtual 88, 3) := by decide +kernel
theorem dX8_other_37 : decode cX8_other 37 = .ok (.ireturn, 1) := by decide +kernel
theorem dX8_other_38 : decode cX8_other 38 = .ok (.aload_n 0, 1) := by decide +kernel
theorem dX8_other_39 : decode cX8_other 39 = .ok (.getfield 41, 3) := by decide +kernel
theorem dX8_other_42 : decode cX8_other 42 = .ok (.iload_n 3, 1) := by decide +kernel
theorem dX8_other_43 : decode cX8_other 43 = .ok (.invokevirtual 268, 3) := by decide +kernel
theorem dX8_other_46 : decode cX8_other 46 = .ok (.aload_n 0, 1) := by decide +kernel
theorem dX8_other_47 : decode cX8_other 47 = .ok (.iload_n 1, 1) := by decide +kernel
theorem dX8_other_48 : decode cX8_other 48 = .ok (.iload_n 2, 1) := by decide +kernel
theorem dX8_other_49 : decode cX8_other 49 = .ok (.invokevirtual 259, 3) := by decide +kernel
theorem dX8_other_52 : decode cX8_other 52 = .ok (.iconst (-1), 1) := by decide +kernel
theorem dX8_other_53 : decode cX8_other 53 = .ok (.if_icmp .ne 16, 3) := by decide +kernel
theorem dX8_other_56 : decode cX8_other 56 = .ok (.aload_n 0, 1) := by decide +kernel
theorem dX8_other_57 : decode cX8_other 57 = .ok (.getfield 41, 3) := by decide +kernel
theorem dX8_other_60 : decode cX8_other 60 = .ok (.iload_n 2, 1) := by decide +kernel
theorem dX8_other_61 : decode cX8_other 61 = .ok (.iconst 1, 1) := by decide +kernel
theorem dX8_other_62 : decode cX8_other 62 = .ok (.isub, 1) := by decide +kernel
theorem dX8_other_63 : decode cX8_other 63 = .ok (.invokevirtual 271, 3) := by decide +kernel
theorem dX8_other_66 : decode cX8_other 66 = .ok (.goto 9, 3) := by decide +kernel
theorem dX8_other_69 : decode cX8_other 69 = .ok (.aload_n 0, 1) := by decide +kernel
theorem dX8_other_70 : decode cX8_other 70 = .ok (.bipush (-6), 2) := by decide +kernel
theorem dX8_other_72 : decode cX8_other 72 = .ok (.invokevirtual 88, 3) := by decide +kernel
theorem dX8_other_75 : decode cX8_other 75 = .ok (.ireturn, 1) := by decide +kernel
theorem dX8_aim_0 : decode cX8_aim 0 = .ok (.aload_n 0, 1) := by decide +kernel
theorem dX8_aim_1 : decode cX8_aim 1 = .ok (.getfield 10, 3) := by decide +kernel
theorem dX8_aim_4 : decode cX8_aim 4 = .ok (.iload_n 1, 1) := by decide +kernel
theorem dX8_aim_5 : decode cX8_aim 5 = .ok (.invokevirtual 103, 3) := by decide +kernel
theorem dX8_aim_8 : decode cX8_aim 8 = .ok (.ifCond .eq 14, 3) := by decide +kernel
theorem dX8_aim_11 : decode cX8_aim 11 = .ok (.aload_n 0, 1) := by decide +kernel
theorem dX8_aim_12 : decode cX8_aim 12 = .ok (.getfield 10, 3) := by decide +kernel
theorem dX8_aim_15 : decode cX8_aim 15 = .ok (.iload_n 2, 1) := by decide +kernel
theorem dX8_aim_16 : decode cX8_aim 16 = .ok (.invokevirtual 103, 3) := by decide +kernel
theorem dX8_aim_19 : decode cX8_aim 19 = .ok (.ifCond .ne 9, 3) := by decide +kernel
theorem dX8_aim_22 : decode cX8_aim 22 = .ok (.aload_n 0, 1) := by decide +kernel
theorem dX8_aim_23 : decode cX8_aim 23 = .ok (.iconst (-1), 1) := by decide +kernel
theorem dX8_aim_24 : decode cX8_aim 24 = .ok (.invokevirtual 244, 3) := by decide +kernel
theorem dX8_aim_27 : decode cX8_aim 27 = .ok (.ireturn, 1) := by decide +kernel
theorem dX8_aim_28 : decode cX8_aim 28 = .ok (.aload_n 0, 1) := by decide +kernel
theorem dX8_aim_29 : decode cX8_aim 29 = .ok (.iload_n 3, 1) := by decide +kernel
theorem dX8_aim_30 : decode cX8_aim 30 = .ok (.iload 4, 2) := by decide +kernel
theorem dX8_aim_32 : decode cX8_aim 32 = .ok (.iload 5, 2) := by decide +kernel
theorem dX8_aim_34 : decode cX8_aim 34 = .ok (.invokevirtual 274, 3) := by decide +kernel
theorem dX8_aim_37 : decode cX8_aim 37 = .ok (.istore 6, 2) := by decide +kernel
theorem dX8_aim_39 : decode cX8_aim 39 = .ok (.iload 6, 2) := by decide +kernel
theorem dX8_aim_41 : decode cX8_aim 41 = .ok (.ifCond .ne 28, 3) := by decide +kernel
theorem dX8_aim_44 : decode cX8_aim 44 = .ok (.aload_n 0, 1) := by decide +kernel
theorem dX8_aim_45 : decode cX8_aim 45 = .ok (.getfield 50, 3) := by decide +kernel
theorem dX8_aim_48 : decode cX8_aim 48 = .ok (.iconst 1, 1) := by decide +kernel
theorem dX8_aim_49 : decode cX8_aim 49 = .ok (.iload_n 1, 1) := by decide +kernel
theorem dX8_aim_50 : decode cX8_aim 50 = .ok (.ishl, 1) := by decide +kernel
theorem dX8_aim_51 : decode cX8_aim 51 = .ok (.iconst 1, 1) := by decide +kernel
theorem dX8_aim_52 : decode cX8_aim 52 = .ok (.iload_n 2, 1) := by decide +kernel
theorem dX8_aim_53 : decode cX8_aim 53 = .ok (.ishl, 1) := by decide +kernel
theorem dX8_aim_54 : decode cX8_aim 54 = .ok (.iload_n 3, 1) := by decide +kernel
theorem dX8_aim_55 : decode cX8_aim 55 = .ok (.iload 4, 2) := by decide +kernel
theorem dX8_aim_57 : decode cX8_aim 57 = .ok (.iconst 0, 1) := by decide +kernel
theorem dX8_aim_58 : decode cX8_aim 58 = .ok (.invokevirtual 277, 3) := by decide +kernel
theorem dX8_aim_61 : decode cX8_aim 61 = .ok (.iload 5, 2) := by decide +kernel
theorem dX8_aim_63 : decode cX8_aim 63 = .ok (.invokevirtual 281, 3) := by decide +kernel
theorem dX8_aim_66 : decode cX8_aim 66 = .ok (.goto 9, 3) := by decide +kernel
theorem dX8_aim_69 : decode cX8_aim 69 = .ok (.aload_n 0, 1) := by decide +kernel
theorem dX8_aim_70 : decode cX8_aim 70 = .ok (.iload 6, 2) := by decide +kernel
theorem dX8_aim_72 : decode cX8_aim 72 = .ok (.invokevirtual 244, 3) := by decide +kernel
theorem dX8_aim_75 : decode cX8_aim 75 = .ok (.ireturn, 1) := by decide +kernel
theorem dX8_round_0 : decode cX8_round 0 = .ok (.aload_n 0, 1) := by decide +kernel
theorem dX8_round_1 : decode cX8_round 1 = .ok (.iload_n 2, 1) := by decide +kernel
theorem dX8_round_2 : decode cX8_round 2 = .ok (.iload_n 3, 1) := by decide +kernel
theorem dX8_round_3 : decode cX8_round 3 = .ok (.iload 4, 2) := by decide +kernel
theorem dX8_round_5 : decode cX8_round 5 = .ok (.invokevirtual 274, 3) := by decide +kernel
theorem dX8_round_8 : decode cX8_round 8 = .ok (.istore 5, 2) := by decide +kernel
theorem dX8_round_10 : decode cX8_round 10 = .ok (.iload 5, 2) := by decide +kernel
theorem dX8_round_12 : decode cX8_round 12 = .ok (.ifCond .ne 18, 3) := by decide +kernel
theorem dX8_round_15 : decode cX8_round 15 = .ok (.aload_n 0, 1) := by decide +kernel
theorem dX8_round_16 : decode cX8_round 16 = .ok (.getfield 10, 3) := by decide +kernel
theorem dX8_round_19 : decode cX8_round 19 = .ok (.iload_n 1, 1) := by decide +kernel
theorem dX8_round_20 : decode cX8_round 20 = .ok (.invokevirtual 284, 3) := by decide +kernel
theorem dX8_round_23 : decode cX8_round 23 = .ok (.ifCond .ne 7, 3) := by decide +kernel
theorem dX8_round_26 : decode cX8_round 26 = .ok (.bipush (-6), 2) := by decide +kernel
theorem dX8_round_28 : decode cX8_round 28 = .ok (.istore 5, 2) := by decide +kernel
theorem dX8_round_30 : decode cX8_round 30 = .ok (.iload 5, 2) := by decide +kernel
theorem dX8_round_32 : decode cX8_round 32 = .ok (.ifCond .ne 23, 3) := by decide +kernel
theorem dX8_round_35 : decode cX8_round 35 = .ok (.aload_n 0, 1) := by decide +kernel
theorem dX8_round_36 : decode cX8_round 36 = .ok (.getfield 50, 3) := by decide +kernel
theorem dX8_round_39 : decode cX8_round 39 = .ok (.iload_n 1, 1) := by decide +kernel
theorem dX8_round_40 : decode cX8_round 40 = .ok (.iconst 0, 1) := by decide +kernel
theorem dX8_round_41 : decode cX8_round 41 = .ok (.iload_n 2, 1) := by decide +kernel
theorem dX8_round_42 : decode cX8_round 42 = .ok (.iload_n 3, 1) := by decide +kernel
theorem dX8_round_43 : decode cX8_round 43 = .ok (.iconst 1, 1) := by decide +kernel
theorem dX8_round_44 : decode cX8_round 44 = .ok (.invokevirtual 277, 3) := by decide +kernel
theorem dX8_round_47 : decode cX8_round 47 = .ok (.iload 4, 2) := by decide +kernel
theorem dX8_round_49 : decode cX8_round 49 = .ok (.invokevirtual 281, 3) := by decide +kernel
theorem dX8_round_52 : decode cX8_round 52 = .ok (.goto 9, 3) := by decide +kernel
theorem dX8_round_55 : decode cX8_round 55 = .ok (.aload_n 0, 1) := by decide +kernel
theorem dX8_round_56 : decode cX8_round 56 = .ok (.iload 5, 2) := by decide +kernel
theorem dX8_round_58 : decode cX8_round 58 = .ok (.invokevirtual 244, 3) := by decide +kernel
theorem dX8_round_61 : decode cX8_round 61 = .ok (.ireturn, 1) := by decide +kernel
theorem dX8_troubleInSeeking_0 : decode cX8_troubleInSeeking 0 = .ok (.iload_n 3, 1) := by decide +kernel
theorem dX8_troubleInSeeking_1 : decode cX8_troubleInSeeking 1 = .ok (.ifCond .ge 6, 3) := by decide +kernel
theorem dX8_troubleInSeeking_4 : decode cX8_troubleInSeeking 4 = .ok (.bipush (-5), 2) := by decide +kernel
theorem dX8_troubleInSeeking_6 : decode cX8_troubleInSeeking 6 = .ok (.ireturn, 1) := by decide +kernel
theorem dX8_troubleInSeeking_7 : decode cX8_troubleInSeeking 7 = .ok (.iload_n 1, 1) := by decide +kernel
theorem dX8_troubleInSeeking_8 : decode cX8_troubleInSeeking 8 = .ok (.invokestatic 107, 3) := by decide +kernel
theorem dX8_troubleInSeeking_11 : decode cX8_troubleInSeeking 11 = .ok (.ifCond .eq 27, 3) := by decide +kernel
theorem dX8_troubleInSeeking_14 : decode cX8_troubleInSeeking 14 = .ok (.iload_n 2, 1) := by decide +kernel
theorem dX8_troubleInSeeking_15 : decode cX8_troubleInSeeking 15 = .ok (.iconst 1, 1) := by decide +kernel
theorem dX8_troubleInSeeking_16 : decode cX8_troubleInSeeking 16 = .ok (.bipush 6, 2) := by decide +kernel
theorem dX8_troubleInSeeking_18 : decode cX8_troubleInSeeking 18 = .ok (.invokestatic 91, 3) := by decide +kernel
theorem dX8_troubleInSeeking_21 : decode cX8_troubleInSeeking 21 = .ok (.ifCond .eq 17, 3) := by decide +kernel
theorem dX8_troubleInSeeking_24 : decode cX8_troubleInSeeking 24 = .ok (.aload_n 0, 1) := by decide +kernel
theorem dX8_troubleInSeeking_25 : decode cX8_troubleInSeeking 25 = .ok (.getfield 10, 3) := by decide +kernel
theorem dX8_troubleInSeeking_28 : decode cX8_troubleInSeeking 28 = .ok (.invokevirtual 99, 3) := by decide +kernel
theorem dX8_troubleInSeeking_31 : decode cX8_troubleInSeeking 31 = .ok (.ifCond .eq 7, 3) := by decide +kernel
theorem dX8_troubleInSeeking_34 : decode cX8_troubleInSeeking 34 = .ok (.iconst 0, 1) := by decide +kernel
theorem dX8_troubleInSeeking_35 : decode cX8_troubleInSeeking 35 = .ok (.goto 5, 3) := by decide +kernel
theorem dX8_troubleInSeeking_38 : decode cX8_troubleInSeeking 38 = .ok (.bipush (-6), 2) := by decide +kernel
theorem dX8_troubleInSeeking_40 : decode cX8_troubleInSeeking 40 = .ok (.ireturn, 1) := by decide +kernel
theorem dX8_fits_0 : decode cX8_fits 0 = .ok (.aload_n 0, 1) := by decide +kernel
theorem dX8_fits_1 : decode cX8_fits 1 = .ok (.iload_n 1, 1) := by decide +kernel
theorem dX8_fits_2 : decode cX8_fits 2 = .ok (.iload_n 2, 1) := by decide +kernel
theorem dX8_fits_3 : decode cX8_fits 3 = .ok (.bipush 6, 2) := by decide +kernel
theorem dX8_fits_5 : decode cX8_fits 5 = .ok (.invokevirtual 256, 3) := by decide +kernel
theorem dX8_fits_8 : decode cX8_fits 8 = .ok (.istore_n 3, 1) := by decide +kernel
theorem dX8_fits_9 : decode cX8_fits 9 = .ok (.iload_n 3, 1) := by decide +kernel
theorem dX8_fits_10 : decode cX8_fits 10 = .ok (.ifCond .eq 9, 3) := by decide +kernel
theorem dX8_fits_13 : decode cX8_fits 13 = .ok (.aload_n 0, 1) := by decide +kernel
theorem dX8_fits_14 : decode cX8_fits 14 = .ok (.iload_n 3, 1) := by decide +kernel
theorem dX8_fits_15 : decode cX8_fits 15 = .ok (.invokevirtual 88, 3) := by decide +kernel
theorem dX8_fits_18 : decode cX8_fits 18 = .ok (.ireturn, 1) := by decide +kernel
theorem dX8_fits_19 : decode cX8_fits 19 = .ok (.aload_n 0, 1) := by decide +kernel
theorem dX8_fits_20 : decode cX8_fits 20 = .ok (.getfield 50, 3) := by decide +kernel
theorem dX8_fits_23 : decode cX8_fits 23 = .ok (.aload_n 0, 1) := by decide +kernel
theorem dX8_fits_24 : decode cX8_fits 24 = .ok (.getfield 25, 3) := by decide +kernel
theorem dX8_fits_27 : decode cX8_fits 27 = .ok (.iload_n 1, 1) := by decide +kernel
theorem dX8_fits_28 : decode cX8_fits 28 = .ok (.iload_n 2, 1) := by decide +kernel
theorem dX8_fits_29 : decode cX8_fits 29 = .ok (.invokevirtual 287, 3) := by decide +kernel
theorem dX8_fits_32 : decode cX8_fits 32 = .ok (.aload_n 0, 1) := by decide +kernel
theorem dX8_fits_33 : decode cX8_fits 33 = .ok (.getfield 50, 3) := by decide +kernel
theorem dX8_fits_36 : decode cX8_fits 36 = .ok (.invokevirtual 291, 3) := by decide +kernel
theorem dX8_fits_39 : decode cX8_fits 39 = .ok (.ireturn, 1) := by decide +kernel
theorem dX8_from_0 : decode cX8_from 0 = .ok (.aload_n 0, 1) := by decide +kernel
theorem dX8_from_1 : decode cX8_from 1 = .ok (.getfield 25, 3) := by decide +kernel
theorem dX8_from_4 : decode cX8_from 4 = .ok (.iload_n 1, 1) := by decide +kernel
theorem dX8_from_5 : decode cX8_from 5 = .ok (.iload_n 2, 1) := by decide +kernel
theorem dX8_from_6 : decode cX8_from 6 = .ok (.invokevirtual 95, 3) := by decide +kernel
theorem dX8_from_9 : decode cX8_from 9 = .ok (.istore 4, 2) := by decide +kernel
theorem dX8_from_11 : decode cX8_from 11 = .ok (.iload 4, 2) := by decide +kernel
theorem dX8_from_13 : decode cX8_from 13 = .ok (.ifCond .ne 17, 3) := by decide +kernel
theorem dX8_from_16 : decode cX8_from 16 = .ok (.iload_n 3, 1) := by decide +kernel
theorem dX8_from_17 : decode cX8_from 17 = .ok (.iconst (-1), 1) := by decide +kernel
theorem dX8_from_18 : decode cX8_from 18 = .ok (.if_icmp .lt 8, 3) := by decide +kernel
theorem dX8_from_21 : decode cX8_from 21 = .ok (.iload_n 3, 1) := by decide +kernel
theorem dX8_from_22 : decode cX8_from 22 = .ok (.iload_n 2, 1) := by decide +kernel
theorem dX8_from_23 : decode cX8_from 23 = .ok (.if_icmp .lt 7, 3) := by decide +kernel
theorem dX8_from_26 : decode cX8_from 26 = .ok (.bipush (-5), 2) := by decide +kernel
theorem dX8_from_28 : decode cX8_from 28 = .ok (.istore 4, 2) := by decide +kernel
theorem dX8_from_30 : decode cX8_from 30 = .ok (.iload 4, 2) := by decide +kernel
theorem dX8_from_32 : decode cX8_from 32 = .ok (.ifCond .ne 13, 3) := by decide +kernel
theorem dX8_from_35 : decode cX8_from 35 = .ok (.aload_n 0, 1) := by decide +kernel
theorem dX8_from_36 : decode cX8_from 36 = .ok (.iload_n 1, 1) := by decide +kernel
theorem dX8_from_37 : decode cX8_from 37 = .ok (.iload_n 2, 1) := by decide +kernel
theorem dX8_from_38 : decode cX8_from 38 = .ok (.bipush 6, 2) := by decide +kernel
theorem dX8_from_40 : decode cX8_from 40 = .ok (.invokevirtual 256, 3) := by decide +kernel
theorem dX8_from_43 : decode cX8_from 43 = .ok (.istore 4, 2) := by decide +kernel
theorem dX8_from_45 : decode cX8_from 45 = .ok (.iload 4, 2) := by decide +kernel
theorem dX8_from_47 : decode cX8_from 47 = .ok (.ifCond .eq 10, 3) := by decide +kernel
theorem dX8_from_50 : decode cX8_from 50 = .ok (.aload_n 0, 1) := by decide +kernel
theorem dX8_from_51 : decode cX8_from 51 = .ok (.iload 4, 2) := by decide +kernel
theorem dX8_from_53 : decode cX8_from 53 = .ok (.invokevirtual 88, 3) := by decide +kernel
theorem dX8_from_56 : decode cX8_from 56 = .ok (.ireturn, 1) := by decide +kernel
theorem dX8_from_57 : decode cX8_from 57 = .ok (.aload_n 0, 1) := by decide +kernel
theorem dX8_from_58 : decode cX8_from 58 = .ok (.getfield 50, 3) := by decide +kernel
theorem dX8_from_61 : decode cX8_from 61 = .ok (.aload_n 0, 1) := by decide +kernel
theorem dX8_from_62 : decode cX8_from 62 = .ok (.getfield 25, 3) := by decide +kernel
theorem dX8_from_65 : decode cX8_from 65 = .ok (.iload_n 1, 1) := by decide +kernel
theorem dX8_from_66 : decode cX8_from 66 = .ok (.iload_n 2, 1) := by decide +kernel
theorem dX8_from_67 : decode cX8_from 67 = .ok (.invokevirtual 287, 3) := by decide +kernel
theorem dX8_from_70 : decode cX8_from 70 = .ok (.iload_n 3, 1) := by decide +kernel
theorem dX8_from_71 : decode cX8_from 71 = .ok (.iconst (-1), 1) := by decide +kernel
theorem dX8_from_72 : decode cX8_from 72 = .ok (.if_icmp .ne 11, 3) := by decide +kernel
theorem dX8_from_75 : decode cX8_from 75 = .ok (.aload_n 0, 1) := by decide +kernel
theorem dX8_from_76 : decode cX8_from 76 = .ok (.getfield 50, 3) := by decide +kernel
theorem dX8_from_79 : decode cX8_from 79 = .ok (.invokevirtual 294, 3) := by decide +kernel
theorem dX8_from_82 : decode cX8_from 82 = .ok (.ireturn, 1) := by decide +kernel
theorem dX8_from_83 : decode cX8_from 83 = .ok (.aload_n 0, 1) := by decide +kernel
theorem dX8_from_84 : decode cX8_from 84 = .ok (.getfield 50, 3) := by decide +kernel
theorem dX8_from_87 : decode cX8_from 87 = .ok (.invokevirtual 291, 3) := by decide +kernel
theorem dX8_from_90 : decode cX8_from 90 = .ok (.ifCond .le 14, 3) := by decide +kernel
theorem dX8_from_93 : decode cX8_from 93 = .ok (.aload_n 0, 1) := by decide +kernel
theorem dX8_from_94 : decode cX8_from 94 = .ok (.getfield 50, 3) := by decide +kernel
theorem dX8_from_97 : decode cX8_from 97 = .ok (.iload_n 3, 1) := by decide +kernel
theorem dX8_from_98 : decode cX8_from 98 = .ok (.invokevirtual 297, 3) := by decide +kernel
theorem dX8_from_101 : decode cX8_from 101 = .ok (.goto 9, 3) := by decide +kernel
theorem dX8_from_104 : decode cX8_from 104 = .ok (.aload_n 0, 1) := by decide +kernel
theorem dX8_from_105 : decode cX8_from 105 = .ok (.bipush (-5), 2) := by decide +kernel
theorem dX8_from_107 : decode cX8_from 107 = .ok (.invokevirtual 88, 3) := by decide +kernel
theorem dX8_from_110 : decode cX8_from 110 = .ok (.ireturn, 1) := by decide +kernel
theorem dX8_odds_0 : decode cX8_odds 0 = .ok (.aload_n 0, 1) := by decide +kernel
theorem dX8_odds_1 : decode cX8_odds 1 = .ok (.iload_n 1, 1) := by decide +kernel
theorem dX8_odds_2 : decode cX8_odds 2 = .ok (.iload_n 2, 1) := by decide +kernel
theorem dX8_odds_3 : decode cX8_odds 3 = .ok (.iload_n 3, 1) := by decide +kernel
theorem dX8_odds_4 : decode cX8_odds 4 = .ok (.iconst 1, 1) := by decide +kernel
theorem dX8_odds_5 : decode cX8_odds 5 = .ok (.iconst 4, 1) := by decide +kernel
theorem dX8_odds_6 : decode cX8_odds 6 = .ok (.invokestatic 91, 3) := by decide +kernel
theorem dX8_odds_9 : decode cX8_odds 9 = .ok (.invokevirtual 300, 3) := by decide +kernel
theorem dX8_odds_12 : decode cX8_odds 12 = .ok (.istore 4, 2) := by decide +kernel
theorem dX8_odds_14 : decode cX8_odds 14 = .ok (.iload 4, 2) := by decide +kernel
theorem dX8_odds_16 : decode cX8_odds 16 = .ok (.ifCond .ne 16, 3) := by decide +kernel
theorem dX8_odds_19 : decode cX8_odds 19 = .ok (.aload_n 0, 1) := by decide +kernel
theorem dX8_odds_20 : decode cX8_odds 20 = .ok (.getfield 50, 3) := by decide +kernel
theorem dX8_odds_23 : decode cX8_odds 23 = .ok (.iload_n 1, 1) := by decide +kernel
theorem dX8_odds_24 : decode cX8_odds 24 = .ok (.iload_n 2, 1) := by decide +kernel
theorem dX8_odds_25 : decode cX8_odds 25 = .ok (.iload_n 3, 1) := by decide +kernel
theorem dX8_odds_26 : decode cX8_odds 26 = .ok (.invokevirtual 304, 3) := by decide +kernel
theorem dX8_odds_29 : decode cX8_odds 29 = .ok (.goto 10, 3) := by decide +kernel
theorem dX8_odds_32 : decode cX8_odds 32 = .ok (.aload_n 0, 1) := by decide +kernel
theorem dX8_odds_33 : decode cX8_odds 33 = .ok (.iload 4, 2) := by decide +kernel
theorem dX8_odds_35 : decode cX8_odds 35 = .ok (.invokevirtual 88, 3) := by decide +kernel
theorem dX8_odds_38 : decode cX8_odds 38 = .ok (.i2l, 1) := by decide +kernel
theorem dX8_odds_39 : decode cX8_odds 39 = .ok (.lreturn, 1) := by decide +kernel
theorem dX8_shuts_0 : decode cX8_shuts 0 = .ok (.aload_n 0, 1) := by decide +kernel
theorem dX8_shuts_1 : decode cX8_shuts 1 = .ok (.iload_n 1, 1) := by decide +kernel
theorem dX8_shuts_2 : decode cX8_shuts 2 = .ok (.iload_n 2, 1) := by decide +kernel
theorem dX8_shuts_3 : decode cX8_shuts 3 = .ok (.iload_n 3, 1) := by decide +kernel
theorem dX8_shuts_4 : decode cX8_shuts 4 = .ok (.iconst 1, 1) := by decide +kernel
theorem dX8_shuts_5 : decode cX8_shuts 5 = .ok (.iconst 4, 1) := by decide +kernel
theorem dX8_shuts_6 : decode cX8_shuts 6 = .ok (.invokestatic 91, 3) := by decide +kernel
theorem dX8_shuts_9 : decode cX8_shuts 9 = .ok (.invokevirtual 300, 3) := by decide +kernel
theorem dX8_shuts_12 : decode cX8_shuts 12 = .ok (.istore 4, 2) := by decide +kernel
theorem dX8_shuts_14 : decode cX8_shuts 14 = .ok (.iload 4, 2) := by decide +kernel
theorem dX8_shuts_16 : decode cX8_shuts 16 = .ok (.ifCond .ne 16, 3) := by decide +kernel
theorem dX8_shuts_19 : decode cX8_shuts 19 = .ok (.aload_n 0, 1) := by decide +kernel
theorem dX8_shuts_20 : decode cX8_shuts 20 = .ok (.getfield 50, 3) := by decide +kernel
theorem dX8_shuts_23 : decode cX8_shuts 23 = .ok (.iload_n 1, 1) := by decide +kernel
theorem dX8_shuts_24 : decode cX8_shuts 24 = .ok (.iload_n 2, 1) := by decide +kernel
theorem dX8_shuts_25 : decode cX8_shuts 25 = .ok (.iload_n 3, 1) := by decide +kernel
theorem dX8_shuts_26 : decode cX8_shuts 26 = .ok (.invokevirtual 308, 3) := by decide +kernel
theorem dX8_shuts_29 : decode cX8_shuts 29 = .ok (.goto 9, 3) := by decide +kernel
theorem dX8_shuts_32 : decode cX8_shuts 32 = .ok (.aload_n 0, 1) := by decide +kernel
theorem dX8_shuts_33 : decode cX8_shuts 33 = .ok (.iload 4, 2) := by decide +kernel
theorem dX8_shuts_35 : decode cX8_shuts 35 = .ok (.invokevirtual 88, 3) := by decide +kernel
theorem dX8_shuts_38 : decode cX8_shuts 38 = .ok (.ireturn, 1) := by decide +kernel
theorem dX8_reach_0 : decode cX8_reach 0 = .ok (.aload_n 0, 1) := by decide +kernel
theorem dX8_reach_1 : decode cX8_reach 1 = .ok (.iload_n 1, 1) := by decide +kernel
theorem dX8_reach_2 : decode cX8_reach 2 = .ok (.iconst 0, 1) := by decide +kernel
theorem dX8_reach_3 : decode cX8_reach 3 = .ok (.iload_n 2, 1) := by decide +kernel
theorem dX8_reach_4 : decode cX8_reach 4 = .ok (.iconst 0, 1) := by decide +kernel
theorem dX8_reach_5 : decode cX8_reach 5 = .ok (.bipush 6, 2) := by decide +kernel
theorem dX8_reach_7 : decode cX8_reach 7 = .ok (.invokestatic 91, 3) := by decide +kernel
theorem dX8_reach_10 : decode cX8_reach 10 = .ok (.invokevirtual 300, 3) := by decide +kernel
theorem dX8_reach_13 : decode cX8_reach 13 = .ok (.istore_n 3, 1) := by decide +kernel
theorem dX8_reach_14 : decode cX8_reach 14 = .ok (.iload_n 3, 1) := by decide +kernel
theorem dX8_reach_15 : decode cX8_reach 15 = .ok (.ifCond .ne 15, 3) := by decide +kernel
theorem dX8_reach_18 : decode cX8_reach 18 = .ok (.aload_n 0, 1) := by decide +kernel
theorem dX8_reach_19 : decode cX8_reach 19 = .ok (.getfield 50, 3) := by decide +kernel
theorem dX8_reach_22 : decode cX8_reach 22 = .ok (.iload_n 1, 1) := by decide +kernel
theorem dX8_reach_23 : decode cX8_reach 23 = .ok (.iload_n 2, 1) := by decide +kernel
theorem dX8_reach_24 : decode cX8_reach 24 = .ok (.invokevirtual 311, 3) := by decide +kernel
theorem dX8_reach_27 : decode cX8_reach 27 = .ok (.goto 8, 3) := by decide +kernel
theorem dX8_reach_30 : decode cX8_reach 30 = .ok (.aload_n 0, 1) := by decide +kernel
theorem dX8_reach_31 : decode cX8_reach 31 = .ok (.iload_n 3, 1) := by decide +kernel
theorem dX8_reach_32 : decode cX8_reach 32 = .ok (.invokevirtual 88, 3) := by decide +kernel
theorem dX8_reach_35 : decode cX8_reach 35 = .ok (.ireturn, 1) := by decide +kernel
theorem dX8_first_0 : decode cX8_first 0 = .ok (.aload_n 0, 1) := by decide +kernel
theorem dX8_first_1 : decode cX8_first 1 = .ok (.iload_n 1, 1) := by decide +kernel
theorem dX8_first_2 : decode cX8_first 2 = .ok (.iload_n 2, 1) := by decide +kernel
theorem dX8_first_3 : decode cX8_first 3 = .ok (.iconst 1, 1) := by decide +kernel
theorem dX8_first_4 : decode cX8_first 4 = .ok (.invokevirtual 300, 3) := by decide +kernel
theorem dX8_first_7 : decode cX8_first 7 = .ok (.istore_n 3, 1) := by decide +kernel
theorem dX8_first_8 : decode cX8_first 8 = .ok (.iload_n 3, 1) := by decide +kernel
theorem dX8_first_9 : decode cX8_first 9 = .ok (.ifCond .ne 17, 3) := by decide +kernel
theorem dX8_first_12 : decode cX8_first 12 = .ok (.aload_n 0, 1) := by decide +kernel
theorem dX8_first_13 : decode cX8_first 13 = .ok (.getfield 50, 3) := by decide +kernel
theorem dX8_first_16 : decode cX8_first 16 = .ok (.iload_n 1, 1) := by decide +kernel
theorem dX8_first_17 : decode cX8_first 17 = .ok (.iload_n 2, 1) := by decide +kernel
theorem dX8_first_18 : decode cX8_first 18 = .ok (.bipush 6, 2) := by decide +kernel
theorem dX8_first_20 : decode cX8_first 20 = .ok (.invokevirtual 314, 3) := by decide +kernel
theorem dX8_first_23 : decode cX8_first 23 = .ok (.goto 8, 3) := by decide +kernel
theorem dX8_first_26 : decode cX8_first 26 = .ok (.aload_n 0, 1) := by decide +kernel
theorem dX8_first_27 : decode cX8_first 27 = .ok (.iload_n 3, 1) := by decide +kernel
theorem dX8_first_28 : decode cX8_first 28 = .ok (.invokevirtual 244, 3) := by decide +kernel
theorem dX8_first_31 : decode cX8_first 31 = .ok (.ireturn, 1) := by decide +kernel
theorem dX8_wander_0 : decode cX8_wander 0 = .ok (.iload_n 1, 1) := by decide +kernel
theorem dX8_wander_1 : decode cX8_wander 1 = .ok (.iconst 1, 1) := by decide +kernel
theorem dX8_wander_2 : decode cX8_wander 2 = .ok (.bipush 40, 2) := by decide +kernel
theorem dX8_wander_4 : decode cX8_wander 4 = .ok (.invokestatic 91, 3) := by decide +kernel
theorem dX8_wander_7 : decode cX8_wander 7 = .ok (.ifCond .eq 13, 3) := by decide +kernel
theorem dX8_wander_10 : decode cX8_wander 10 = .ok (.aload_n 0, 1) := by decide +kernel
theorem dX8_wander_11 : decode cX8_wander 11 = .ok (.getfield 10, 3) := by decide +kernel
theorem dX8_wander_14 : decode cX8_wander 14 = .ok (.invokevirtual 99, 3) := by decide +kernel
theorem dX8_wander_17 : decode cX8_wander 17 = .ok (.ifCond .ne 10, 3) := by decide +kernel
theorem dX8_wander_20 : decode cX8_wander 20 = .ok (.aload_n 0, 1) := by decide +kernel
theorem dX8_wander_21 : decode cX8_wander 21 = .ok (.bipush (-6), 2) := by decide +kernel
theorem dX8_wander_23 : decode cX8_wander 23 = .ok (.invokevirtual 88, 3) := by decide +kernel
theorem dX8_wander_26 : decode cX8_wander 26 = .ok (.ireturn, 1) := by decide +kernel
theorem dX8_wander_27 : decode cX8_wander 27 = .ok (.iconst 0, 1) := by decide +kernel
theorem dX8_wander_28 : decode cX8_wander 28 = .ok (.istore_n 2, 1) := by decide +kernel
theorem dX8_wander_29 : decode cX8_wander 29 = .ok (.iload_n 2, 1) := by decide +kernel
theorem dX8_wander_30 : decode cX8_wander 30 = .ok (.iload_n 1, 1) := by decide +kernel
theorem dX8_wander_31 : decode cX8_wander 31 = .ok (.if_icmp .ge 33, 3) := by decide +kernel
theorem dX8_wander_34 : decode cX8_wander 34 = .ok (.aload_n 0, 1) := by decide +kernel
theorem dX8_wander_35 : decode cX8_wander 35 = .ok (.getfield 10, 3) := by decide +kernel
theorem dX8_wander_38 : decode cX8_wander 38 = .ok (.invokevirtual 317, 3) := by decide +kernel
theorem dX8_wander_41 : decode cX8_wander 41 = .ok (.istore_n 3, 1) := by decide +kernel
theorem dX8_wander_42 : decode cX8_wander 42 = .ok (.iload_n 3, 1) := by decide +kernel
theorem dX8_wander_43 : decode cX8_wander 43 = .ok (.iconst (-1), 1) := by decide +kernel
theorem dX8_wander_44 : decode cX8_wander 44 = .ok (.if_icmp .ne 5, 3) := by decide +kernel
theorem dX8_wander_47 : decode cX8_wander 47 = .ok (.iload_n 2, 1) := by decide +kernel
theorem dX8_wander_48 : decode cX8_wander 48 = .ok (.ireturn, 1) := by decide +kernel
theorem dX8_wander_49 : decode cX8_wander 49 = .ok (.aload_n 0, 1) := by decide +kernel
theorem dX8_wander_50 : decode cX8_wander 50 = .ok (.getfield 10, 3) := by decide +kernel
theorem dX8_wander_53 : decode cX8_wander 53 = .ok (.iload_n 3, 1) := by decide +kernel
theorem dX8_wander_54 : decode cX8_wander 54 = .ok (.invokevirtual 228, 3) := by decide +kernel
theorem dX8_wander_57 : decode cX8_wander 57 = .ok (.pop, 1) := by decide +kernel
theorem dX8_wander_58 : decode cX8_wander 58 = .ok (.iinc 2 1, 3) := by decide +kernel
theorem dX8_wander_61 : decode cX8_wander 61 = .ok (.goto (-32), 3) := by decide +kernel
theorem dX8_wander_64 : decode cX8_wander 64 = .ok (.iload_n 1, 1) := by decide +kernel
theorem dX8_wander_65 : decode cX8_wander 65 = .ok (.ireturn, 1) := by decide +kernel
theorem dX8_who_0 : decode cX8_who 0 = .ok (.iload_n 1, 1) := by decide +kernel
theorem dX8_who_1 : decode cX8_who 1 = .ok (.invokestatic 107, 3) := by decide +kernel
theorem dX8_who_4 : decode cX8_who 4 = .ok (.ifCond .eq 14, 3) := by decide +kernel
theorem dX8_who_7 : decode cX8_who 7 = .ok (.aload_n 0, 1) := by decide +kernel
theorem dX8_who_8 : decode cX8_who 8 = .ok (.getfield 10, 3) := by decide +kernel
theorem dX8_who_11 : decode cX8_who 11 = .ok (.iload_n 1, 1) := by decide +kernel
theorem dX8_who_12 : decode cX8_who 12 = .ok (.invokevirtual 320, 3) := by decide +kernel
theorem dX8_who_15 : decode cX8_who 15 = .ok (.goto 9, 3) := by decide +kernel
theorem dX8_who_18 : decode cX8_who 18 = .ok (.aload_n 0, 1) := by decide +kernel
theorem dX8_who_19 : decode cX8_who 19 = .ok (.bipush (-6), 2) := by decide +kernel
theorem dX8_who_21 : decode cX8_who 21 = .ok (.invokevirtual 88, 3) := by decide +kernel
theorem dX8_who_24 : decode cX8_who 24 = .ok (.ireturn, 1) := by decide +kernel
theorem dX8_forget_0 : decode cX8_forget 0 = .ok (.aload_n 0, 1) := by decide +kernel
theorem dX8_forget_1 : decode cX8_forget 1 = .ok (.getfield 10, 3) := by decide +kernel
theorem dX8_forget_4 : decode cX8_forget 4 = .ok (.invokevirtual 323, 3) := by decide +kernel
theorem dX8_forget_7 : decode cX8_forget 7 = .ok (.ireturn, 1) := by decide +kernel
theorem dX8_seed_0 : decode cX8_seed 0 = .ok (.aload_n 0, 1) := by decide +kernel
theorem dX8_seed_1 : decode cX8_seed 1 = .ok (.getfield 10, 3) := by decide +kernel
theorem dX8_seed_4 : decode cX8_seed 4 = .ok (.invokevirtual 326, 3) := by decide +kernel
theorem dX8_seed_7 : decode cX8_seed 7 = .ok (.istore_n 2, 1) := by decide +kernel
theorem dX8_seed_8 : decode cX8_seed 8 = .ok (.aload_n 0, 1) := by decide +kernel
theorem dX8_seed_9 : decode cX8_seed 9 = .ok (.getfield 10, 3) := by decide +kernel
theorem dX8_seed_12 : decode cX8_seed 12 = .ok (.iload_n 1, 1) := by decide +kernel
theorem dX8_seed_13 : decode cX8_seed 13 = .ok (.invokevirtual 329, 3) := by decide +kernel
theorem dX8_seed_16 : decode cX8_seed 16 = .ok (.iload_n 2, 1) := by decide +kernel
theorem dX8_seed_17 : decode cX8_seed 17 = .ok (.ireturn, 1) := by decide +kernel
theorem dX8_act_0 : decode cX8_act 0 = .ok (.aload_n 0, 1) := by decide +kernel
theorem dX8_act_1 : decode cX8_act 1 = .ok (.getfield 32, 3) := by decide +kernel
theorem dX8_act_4 : decode cX8_act 4 = .ok (.invokevirtual 332, 3) := by decide +kernel
theorem dX8_act_7 : decode cX8_act 7 = .ok (.aload_n 0, 1) := by decide +kernel
theorem dX8_act_8 : decode cX8_act 8 = .ok (.getfield 10, 3) := by decide +kernel
theorem dX8_act_11 : decode cX8_act 11 = .ok (.iload_n 1, 1) := by decide +kernel
theorem dX8_act_12 : decode cX8_act 12 = .ok (.invokevirtual 103, 3) := by decide +kernel
theorem dX8_act_15 : decode cX8_act 15 = .ok (.ifCond .ne 5, 3) := by decide +kernel
theorem dX8_act_18 : decode cX8_act 18 = .ok (.iconst 0, 1) := by decide +kernel
theorem dX8_act_19 : decode cX8_act 19 = .ok (.ireturn, 1) := by decide +kernel
theorem dX8_act_20 : decode cX8_act 20 = .ok (.aload_n 0, 1) := by decide +kernel
theorem dX8_act_21 : decode cX8_act 21 = .ok (.getfield 32, 3) := by decide +kernel
theorem dX8_act_24 : decode cX8_act 24 = .ok (.aload_n 0, 1) := by decide +kernel
theorem dX8_act_25 : decode cX8_act 25 = .ok (.getfield 10, 3) := by decide +kernel
theorem dX8_act_28 : decode cX8_act 28 = .ok (.iload_n 1, 1) := by decide +kernel
theorem dX8_act_29 : decode cX8_act 29 = .ok (.iconst 0, 1) := by decide +kernel
theorem dX8_act_30 : decode cX8_act 30 = .ok (.invokevirtual 159, 3) := by decide +kernel
theorem dX8_act_33 : decode cX8_act 33 = .ok (.iload_n 1, 1) := by decide +kernel
theorem dX8_act_34 : decode cX8_act 34 = .ok (.aload_n 0, 1) := by decide +kernel
theorem dX8_act_35 : decode cX8_act 35 = .ok (.getfield 10, 3) := by decide +kernel
theorem dX8_act_38 : decode cX8_act 38 = .ok (.iload_n 1, 1) := by decide +kernel
theorem dX8_act_39 : decode cX8_act 39 = .ok (.iconst 2, 1) := by decide +kernel
theorem dX8_act_40 : decode cX8_act 40 = .ok (.invokevirtual 159, 3) := by decide +kernel
theorem dX8_act_43 : decode cX8_act 43 = .ok (.iload_n 2, 1) := by decide +kernel
theorem dX8_act_44 : decode cX8_act 44 = .ok (.iload_n 3, 1) := by decide +kernel
theorem dX8_act_45 : decode cX8_act 45 = .ok (.invokevirtual 335, 3) := by decide +kernel
theorem dX8_act_48 : decode cX8_act 48 = .ok (.ireturn, 1) := by decide +kernel
theorem dX8_trace_0 : decode cX8_trace 0 = .ok (.aload_n 0, 1) := by decide +kernel
theorem dX8_trace_1 : decode cX8_trace 1 = .ok (.getfield 32, 3) := by decide +kernel
theorem dX8_trace_4 : decode cX8_trace 4 = .ok (.iload_n 1, 1) := by decide +kernel
theorem dX8_trace_5 : decode cX8_trace 5 = .ok (.invokevirtual 339, 3) := by decide +kernel
theorem dX8_trace_8 : decode cX8_trace 8 = .ok (.ireturn, 1) := by decide +kernel
theorem dX8_image_0 : decode cX8_image 0 = .ok (.aload_n 0, 1) := by decide +kernel
theorem dX8_image_1 : decode cX8_image 1 = .ok (.getfield 16, 3) := by decide +kernel
theorem dX8_image_4 : decode cX8_image 4 = .ok (.aload_n 0, 1) := by decide +kernel
theorem dX8_image_5 : decode cX8_image 5 = .ok (.getfield 10, 3) := by decide +kernel
theorem dX8_image_8 : decode cX8_image 8 = .ok (.invokevirtual 213, 3) := by decide +kernel
theorem dX8_image_11 : decode cX8_image 11 = .ok (.aload_n 0, 1) := by decide +kernel
theorem dX8_image_12 : decode cX8_image 12 = .ok (.iconst 1, 1) := by decide +kernel
theorem dX8_image_13 : decode cX8_image 13 = .ok (.putfield 76, 3) := by decide +kernel
theorem dX8_image_16 : decode cX8_image 16 = .ok (.aload_n 0, 1) := by decide +kernel
theorem dX8_image_17 : decode cX8_image 17 = .ok (.getfield 16, 3) := by decide +kernel
theorem dX8_image_20 : decode cX8_image 20 = .ok (.invokevirtual 342, 3) := by decide +kernel
theorem dX8_image_23 : decode cX8_image 23 = .ok (.ireturn, 1) := by decide +kernel
theorem dX8_restore_0 : decode cX8_restore 0 = .ok (.aload_n 0, 1) := by decide +kernel
theorem dX8_restore_1 : decode cX8_restore 1 = .ok (.getfield 76, 3) := by decide +kernel
theorem dX8_restore_4 : decode cX8_restore 4 = .ok (.ifCond .ne 10, 3) := by decide +kernel
theorem dX8_restore_7 : decode cX8_restore 7 = .ok (.aload_n 0, 1) := by decide +kernel
theorem dX8_restore_8 : decode cX8_restore 8 = .ok (.bipush (-6), 2) := by decide +kernel
theorem dX8_restore_10 : decode cX8_restore 10 = .ok (.invokevirtual 88, 3) := by decide +kernel
theorem dX8_restore_13 : decode cX8_restore 13 = .ok (.ireturn, 1) := by decide +kernel
theorem dX8_restore_14 : decode cX8_restore 14 = .ok (.aload_n 0, 1) := by decide +kernel
theorem dX8_restore_15 : decode cX8_restore 15 = .ok (.getfield 10, 3) := by decide +kernel
theorem dX8_restore_18 : decode cX8_restore 18 = .ok (.aload_n 0, 1) := by decide +kernel
theorem dX8_restore_19 : decode cX8_restore 19 = .ok (.getfield 16, 3) := by decide +kernel
theorem dX8_restore_22 : decode cX8_restore 22 = .ok (.invokevirtual 213, 3) := by decide +kernel
theorem dX8_restore_25 : decode cX8_restore 25 = .ok (.aload_n 0, 1) := by decide +kernel
theorem dX8_restore_26 : decode cX8_restore 26 = .ok (.getfield 25, 3) := by decide +kernel
theorem dX8_restore_29 : decode cX8_restore 29 = .ok (.aload_n 0, 1) := by decide +kernel
theorem dX8_restore_30 : decode cX8_restore 30 = .ok (.getfield 10, 3) := by decide +kernel
theorem dX8_restore_33 : decode cX8_restore 33 = .ok (.invokevirtual 342, 3) := by decide +kernel
theorem dX8_restore_36 : decode cX8_restore 36 = .ok (.invokevirtual 345, 3) := by decide +kernel
theorem dX8_restore_39 : decode cX8_restore 39 = .ok (.aload_n 0, 1) := by decide +kernel
theorem dX8_restore_40 : decode cX8_restore 40 = .ok (.getfield 10, 3) := by decide +kernel
theorem dX8_restore_43 : decode cX8_restore 43 = .ok (.invokevirtual 342, 3) := by decide +kernel
theorem dX8_restore_46 : decode cX8_restore 46 = .ok (.ireturn, 1) := by decide +kernel
theorem dX8_status_0 : decode cX8_status 0 = .ok (.iload_n 1, 1) := by decide +kernel
theorem dX8_status_1 : decode cX8_status 1 = .ok (.bipush 10, 2) := by decide +kernel
theorem dX8_status_3 : decode cX8_status 3 = .ok (.if_icmp .le 21, 3) := by decide +kernel
theorem dX8_status_6 : decode cX8_status 6 = .ok (.iload_n 1, 1) := by decide +kernel
theorem dX8_status_7 : decode cX8_status 7 = .ok (.bipush 17, 2) := by decide +kernel
theorem dX8_status_9 : decode cX8_status 9 = .ok (.if_icmp .gt 15, 3) := by decide +kernel
theorem dX8_status_12 : decode cX8_status 12 = .ok (.aload_n 0, 1) := by decide +kernel
theorem dX8_status_13 : decode cX8_status 13 = .ok (.getfield 68, 3) := by decide +kernel
theorem dX8_status_16 : decode cX8_status 16 = .ok (.iload_n 1, 1) := by decide +kernel
theorem dX8_status_17 : decode cX8_status 17 = .ok (.bipush 10, 2) := by decide +kernel
theorem dX8_status_19 : decode cX8_status 19 = .ok (.isub, 1) := by decide +kernel
theorem dX8_status_20 : decode cX8_status 20 = .ok (.invokevirtual 80, 3) := by decide +kernel
theorem dX8_status_23 : decode cX8_status 23 = .ok (.ireturn, 1) := by decide +kernel
theorem dX8_status_24 : decode cX8_status 24 = .ok (.iload_n 1, 1) := by decide +kernel
theorem dX8_status_25 : decode cX8_status 25 = .ok (.bipush 7, 2) := by decide +kernel
theorem dX8_status_27 : decode cX8_status 27 = .ok (.if_icmp .ne 13, 3) := by decide +kernel
theorem dX8_status_30 : decode cX8_status 30 = .ok (.aload_n 0, 1) := by decide +kernel
theorem dX8_status_31 : decode cX8_status 31 = .ok (.getfield 32, 3) := by decide +kernel
theorem dX8_status_34 : decode cX8_status 34 = .ok (.invokevirtual 348, 3) := by decide +kernel
theorem dX8_status_37 : decode cX8_status 37 = .ok (.goto 11, 3) := by decide +kernel
theorem dX8_status_40 : decode cX8_status 40 = .ok (.aload_n 0, 1) := by decide +kernel
theorem dX8_status_41 : decode cX8_status 41 = .ok (.getfield 10, 3) := by decide +kernel
theorem dX8_status_44 : decode cX8_status 44 = .ok (.iload_n 1, 1) := by decide +kernel
theorem dX8_status_45 : decode cX8_status 45 = .ok (.invokevirtual 351, 3) := by decide +kernel
theorem dX8_status_48 : decode cX8_status 48 = .ok (.ireturn, 1) := by decide +kernel
