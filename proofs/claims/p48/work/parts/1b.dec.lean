theorem dX4_init_0 : decode cX4_init 0 = .ok (.aload_n 0, 1) := by decide +kernel
theorem dX4_init_1 : decode cX4_init 1 = .ok (.invokespecial 3, 3) := by decide +kernel
theorem dX4_init_4 : decode cX4_init 4 = .ok (.aload_n 0, 1) := by decide +kernel
theorem dX4_init_5 : decode cX4_init 5 = .ok (.aload_n 1, 1) := by decide +kernel
theorem dX4_init_6 : decode cX4_init 6 = .ok (.putfield 9, 3) := by decide +kernel
theorem dX4_init_9 : decode cX4_init 9 = .ok (.aload_n 0, 1) := by decide +kernel
theorem dX4_init_10 : decode cX4_init 10 = .ok (.aload_n 2, 1) := by decide +kernel
theorem dX4_init_11 : decode cX4_init 11 = .ok (.putfield 15, 3) := by decide +kernel
theorem dX4_init_14 : decode cX4_init 14 = .ok (.aload_n 0, 1) := by decide +kernel
theorem dX4_init_15 : decode cX4_init 15 = .ok (.new 19, 3) := by decide +kernel
theorem dX4_init_18 : decode cX4_init 18 = .ok (.dup, 1) := by decide +kernel
theorem dX4_init_19 : decode cX4_init 19 = .ok (.bipush 6, 2) := by decide +kernel
theorem dX4_init_21 : decode cX4_init 21 = .ok (.invokespecial 21, 3) := by decide +kernel
theorem dX4_init_24 : decode cX4_init 24 = .ok (.putfield 24, 3) := by decide +kernel
theorem dX4_init_27 : decode cX4_init 27 = .ok (.return_, 1) := by decide +kernel
theorem dX4_keepRoute_0 : decode cX4_keepRoute 0 = .ok (.aload_n 0, 1) := by decide +kernel
theorem dX4_keepRoute_1 : decode cX4_keepRoute 1 = .ok (.aload_n 0, 1) := by decide +kernel
theorem dX4_keepRoute_2 : decode cX4_keepRoute 2 = .ok (.getfield 15, 3) := by decide +kernel
theorem dX4_keepRoute_5 : decode cX4_keepRoute 5 = .ok (.invokevirtual 39, 3) := by decide +kernel
theorem dX4_keepRoute_8 : decode cX4_keepRoute 8 = .ok (.putfield 45, 3) := by decide +kernel
theorem dX4_keepRoute_11 : decode cX4_keepRoute 11 = .ok (.aload_n 0, 1) := by decide +kernel
theorem dX4_keepRoute_12 : decode cX4_keepRoute 12 = .ok (.aload_n 0, 1) := by decide +kernel
theorem dX4_keepRoute_13 : decode cX4_keepRoute 13 = .ok (.getfield 15, 3) := by decide +kernel
theorem dX4_keepRoute_16 : decode cX4_keepRoute 16 = .ok (.invokevirtual 48, 3) := by decide +kernel
theorem dX4_keepRoute_19 : decode cX4_keepRoute 19 = .ok (.putfield 51, 3) := by decide +kernel
theorem dX4_keepRoute_22 : decode cX4_keepRoute 22 = .ok (.iconst 0, 1) := by decide +kernel
theorem dX4_keepRoute_23 : decode cX4_keepRoute 23 = .ok (.istore_n 1, 1) := by decide +kernel
theorem dX4_keepRoute_24 : decode cX4_keepRoute 24 = .ok (.iload_n 1, 1) := by decide +kernel
theorem dX4_keepRoute_25 : decode cX4_keepRoute 25 = .ok (.aload_n 0, 1) := by decide +kernel
theorem dX4_keepRoute_26 : decode cX4_keepRoute 26 = .ok (.getfield 51, 3) := by decide +kernel
theorem dX4_keepRoute_29 : decode cX4_keepRoute 29 = .ok (.if_icmp .ge 25, 3) := by decide +kernel
theorem dX4_keepRoute_32 : decode cX4_keepRoute 32 = .ok (.aload_n 0, 1) := by decide +kernel
theorem dX4_keepRoute_33 : decode cX4_keepRoute 33 = .ok (.getfield 24, 3) := by decide +kernel
theorem dX4_keepRoute_36 : decode cX4_keepRoute 36 = .ok (.iload_n 1, 1) := by decide +kernel
theorem dX4_keepRoute_37 : decode cX4_keepRoute 37 = .ok (.aload_n 0, 1) := by decide +kernel
theorem dX4_keepRoute_38 : decode cX4_keepRoute 38 = .ok (.getfield 15, 3) := by decide +kernel
theorem dX4_keepRoute_41 : decode cX4_keepRoute 41 = .ok (.iload_n 1, 1) := by decide +kernel
theorem dX4_keepRoute_42 : decode cX4_keepRoute 42 = .ok (.invokevirtual 54, 3) := by decide +kernel
theorem dX4_keepRoute_45 : decode cX4_keepRoute 45 = .ok (.invokevirtual 57, 3) := by decide +kernel
theorem dX4_keepRoute_48 : decode cX4_keepRoute 48 = .ok (.iinc 1 1, 3) := by decide +kernel
theorem dX4_keepRoute_51 : decode cX4_keepRoute 51 = .ok (.goto (-27), 3) := by decide +kernel
theorem dX4_keepRoute_54 : decode cX4_keepRoute 54 = .ok (.return_, 1) := by decide +kernel
theorem dX4_hearsAll_0 : decode cX4_hearsAll 0 = .ok (.iload_n 2, 1) := by decide +kernel
theorem dX4_hearsAll_1 : decode cX4_hearsAll 1 = .ok (.aload_n 0, 1) := by decide +kernel
theorem dX4_hearsAll_2 : decode cX4_hearsAll 2 = .ok (.getfield 15, 3) := by decide +kernel
theorem dX4_hearsAll_5 : decode cX4_hearsAll 5 = .ok (.iload_n 1, 1) := by decide +kernel
theorem dX4_hearsAll_6 : decode cX4_hearsAll 6 = .ok (.invokevirtual 61, 3) := by decide +kernel
theorem dX4_hearsAll_9 : decode cX4_hearsAll 9 = .ok (.iconst (-1), 1) := by decide +kernel
theorem dX4_hearsAll_10 : decode cX4_hearsAll 10 = .ok (.ixor, 1) := by decide +kernel
theorem dX4_hearsAll_11 : decode cX4_hearsAll 11 = .ok (.iand, 1) := by decide +kernel
theorem dX4_hearsAll_12 : decode cX4_hearsAll 12 = .ok (.ifCond .ne 7, 3) := by decide +kernel
theorem dX4_hearsAll_15 : decode cX4_hearsAll 15 = .ok (.iconst 1, 1) := by decide +kernel
theorem dX4_hearsAll_16 : decode cX4_hearsAll 16 = .ok (.goto 4, 3) := by decide +kernel
theorem dX4_hearsAll_19 : decode cX4_hearsAll 19 = .ok (.iconst 0, 1) := by decide +kernel
theorem dX4_hearsAll_20 : decode cX4_hearsAll 20 = .ok (.ireturn, 1) := by decide +kernel
theorem dX4_hearsAny_0 : decode cX4_hearsAny 0 = .ok (.iload_n 2, 1) := by decide +kernel
theorem dX4_hearsAny_1 : decode cX4_hearsAny 1 = .ok (.aload_n 0, 1) := by decide +kernel
theorem dX4_hearsAny_2 : decode cX4_hearsAny 2 = .ok (.getfield 15, 3) := by decide +kernel
theorem dX4_hearsAny_5 : decode cX4_hearsAny 5 = .ok (.iload_n 1, 1) := by decide +kernel
theorem dX4_hearsAny_6 : decode cX4_hearsAny 6 = .ok (.invokevirtual 61, 3) := by decide +kernel
theorem dX4_hearsAny_9 : decode cX4_hearsAny 9 = .ok (.iand, 1) := by decide +kernel
theorem dX4_hearsAny_10 : decode cX4_hearsAny 10 = .ok (.ifCond .eq 7, 3) := by decide +kernel
theorem dX4_hearsAny_13 : decode cX4_hearsAny 13 = .ok (.iconst 1, 1) := by decide +kernel
theorem dX4_hearsAny_14 : decode cX4_hearsAny 14 = .ok (.goto 4, 3) := by decide +kernel
theorem dX4_hearsAny_17 : decode cX4_hearsAny 17 = .ok (.iconst 0, 1) := by decide +kernel
theorem dX4_hearsAny_18 : decode cX4_hearsAny 18 = .ok (.ireturn, 1) := by decide +kernel
theorem dX4_isHeardBy_0 : decode cX4_isHeardBy 0 = .ok (.iconst 0, 1) := by decide +kernel
theorem dX4_isHeardBy_1 : decode cX4_isHeardBy 1 = .ok (.istore 4, 2) := by decide +kernel
theorem dX4_isHeardBy_3 : decode cX4_isHeardBy 3 = .ok (.iload 4, 2) := by decide +kernel
theorem dX4_isHeardBy_5 : decode cX4_isHeardBy 5 = .ok (.bipush 8, 2) := by decide +kernel
theorem dX4_isHeardBy_7 : decode cX4_isHeardBy 7 = .ok (.if_icmp .ge 51, 3) := by decide +kernel
theorem dX4_isHeardBy_10 : decode cX4_isHeardBy 10 = .ok (.iload_n 1, 1) := by decide +kernel
theorem dX4_isHeardBy_11 : decode cX4_isHeardBy 11 = .ok (.iload 4, 2) := by decide +kernel
theorem dX4_isHeardBy_13 : decode cX4_isHeardBy 13 = .ok (.ishr, 1) := by decide +kernel
theorem dX4_isHeardBy_14 : decode cX4_isHeardBy 14 = .ok (.iconst 1, 1) := by decide +kernel
theorem dX4_isHeardBy_15 : decode cX4_isHeardBy 15 = .ok (.iand, 1) := by decide +kernel
theorem dX4_isHeardBy_16 : decode cX4_isHeardBy 16 = .ok (.ifCond .eq 15, 3) := by decide +kernel
theorem dX4_isHeardBy_19 : decode cX4_isHeardBy 19 = .ok (.aload_n 0, 1) := by decide +kernel
theorem dX4_isHeardBy_20 : decode cX4_isHeardBy 20 = .ok (.iload 4, 2) := by decide +kernel
theorem dX4_isHeardBy_22 : decode cX4_isHeardBy 22 = .ok (.iload_n 3, 1) := by decide +kernel
theorem dX4_isHeardBy_23 : decode cX4_isHeardBy 23 = .ok (.invokevirtual 66, 3) := by decide +kernel
theorem dX4_isHeardBy_26 : decode cX4_isHeardBy 26 = .ok (.ifCond .ne 5, 3) := by decide +kernel
theorem dX4_isHeardBy_29 : decode cX4_isHeardBy 29 = .ok (.iconst 0, 1) := by decide +kernel
theorem dX4_isHeardBy_30 : decode cX4_isHeardBy 30 = .ok (.ireturn, 1) := by decide +kernel
theorem dX4_isHeardBy_31 : decode cX4_isHeardBy 31 = .ok (.iload_n 2, 1) := by decide +kernel
theorem dX4_isHeardBy_32 : decode cX4_isHeardBy 32 = .ok (.iload 4, 2) := by decide +kernel
theorem dX4_isHeardBy_34 : decode cX4_isHeardBy 34 = .ok (.ishr, 1) := by decide +kernel
theorem dX4_isHeardBy_35 : decode cX4_isHeardBy 35 = .ok (.iconst 1, 1) := by decide +kernel
theorem dX4_isHeardBy_36 : decode cX4_isHeardBy 36 = .ok (.iand, 1) := by decide +kernel
theorem dX4_isHeardBy_37 : decode cX4_isHeardBy 37 = .ok (.ifCond .eq 15, 3) := by decide +kernel
theorem dX4_isHeardBy_40 : decode cX4_isHeardBy 40 = .ok (.aload_n 0, 1) := by decide +kernel
theorem dX4_isHeardBy_41 : decode cX4_isHeardBy 41 = .ok (.iload 4, 2) := by decide +kernel
theorem dX4_isHeardBy_43 : decode cX4_isHeardBy 43 = .ok (.iload_n 3, 1) := by decide +kernel
theorem dX4_isHeardBy_44 : decode cX4_isHeardBy 44 = .ok (.invokevirtual 70, 3) := by decide +kernel
theorem dX4_isHeardBy_47 : decode cX4_isHeardBy 47 = .ok (.ifCond .eq 5, 3) := by decide +kernel
theorem dX4_isHeardBy_50 : decode cX4_isHeardBy 50 = .ok (.iconst 0, 1) := by decide +kernel
theorem dX4_isHeardBy_51 : decode cX4_isHeardBy 51 = .ok (.ireturn, 1) := by decide +kernel
theorem dX4_isHeardBy_52 : decode cX4_isHeardBy 52 = .ok (.iinc 4 1, 3) := by decide +kernel
theorem dX4_isHeardBy_55 : decode cX4_isHeardBy 55 = .ok (.goto (-52), 3) := by decide +kernel
theorem dX4_isHeardBy_58 : decode cX4_isHeardBy 58 = .ok (.iconst 1, 1) := by decide +kernel
theorem dX4_isHeardBy_59 : decode cX4_isHeardBy 59 = .ok (.ireturn, 1) := by decide +kernel
theorem dX4_isQuicker_0 : decode cX4_isQuicker 0 = .ok (.aload_n 0, 1) := by decide +kernel
theorem dX4_isQuicker_1 : decode cX4_isQuicker 1 = .ok (.getfield 15, 3) := by decide +kernel
theorem dX4_isQuicker_4 : decode cX4_isQuicker 4 = .ok (.invokevirtual 39, 3) := by decide +kernel
theorem dX4_isQuicker_7 : decode cX4_isQuicker 7 = .ok (.istore_n 1, 1) := by decide +kernel
theorem dX4_isQuicker_8 : decode cX4_isQuicker 8 = .ok (.aload_n 0, 1) := by decide +kernel
theorem dX4_isQuicker_9 : decode cX4_isQuicker 9 = .ok (.getfield 28, 3) := by decide +kernel
theorem dX4_isQuicker_12 : decode cX4_isQuicker 12 = .ok (.ifCond .eq 33, 3) := by decide +kernel
theorem dX4_isQuicker_15 : decode cX4_isQuicker 15 = .ok (.iload_n 1, 1) := by decide +kernel
theorem dX4_isQuicker_16 : decode cX4_isQuicker 16 = .ok (.aload_n 0, 1) := by decide +kernel
theorem dX4_isQuicker_17 : decode cX4_isQuicker 17 = .ok (.getfield 45, 3) := by decide +kernel
theorem dX4_isQuicker_20 : decode cX4_isQuicker 20 = .ok (.if_icmp .lt 25, 3) := by decide +kernel
theorem dX4_isQuicker_23 : decode cX4_isQuicker 23 = .ok (.iload_n 1, 1) := by decide +kernel
theorem dX4_isQuicker_24 : decode cX4_isQuicker 24 = .ok (.aload_n 0, 1) := by decide +kernel
theorem dX4_isQuicker_25 : decode cX4_isQuicker 25 = .ok (.getfield 45, 3) := by decide +kernel
theorem dX4_isQuicker_28 : decode cX4_isQuicker 28 = .ok (.if_icmp .ne 21, 3) := by decide +kernel
theorem dX4_isQuicker_31 : decode cX4_isQuicker 31 = .ok (.aload_n 0, 1) := by decide +kernel
theorem dX4_isQuicker_32 : decode cX4_isQuicker 32 = .ok (.getfield 15, 3) := by decide +kernel
theorem dX4_isQuicker_35 : decode cX4_isQuicker 35 = .ok (.invokevirtual 48, 3) := by decide +kernel
theorem dX4_isQuicker_38 : decode cX4_isQuicker 38 = .ok (.aload_n 0, 1) := by decide +kernel
theorem dX4_isQuicker_39 : decode cX4_isQuicker 39 = .ok (.getfield 51, 3) := by decide +kernel
theorem dX4_isQuicker_42 : decode cX4_isQuicker 42 = .ok (.if_icmp .ge 7, 3) := by decide +kernel
theorem dX4_isQuicker_45 : decode cX4_isQuicker 45 = .ok (.iconst 1, 1) := by decide +kernel
theorem dX4_isQuicker_46 : decode cX4_isQuicker 46 = .ok (.goto 4, 3) := by decide +kernel
theorem dX4_isQuicker_49 : decode cX4_isQuicker 49 = .ok (.iconst 0, 1) := by decide +kernel
theorem dX4_isQuicker_50 : decode cX4_isQuicker 50 = .ok (.ireturn, 1) := by decide +kernel
theorem dX4_quickest_0 : decode cX4_quickest 0 = .ok (.aload_n 0, 1) := by decide +kernel
theorem dX4_quickest_1 : decode cX4_quickest 1 = .ok (.iconst 0, 1) := by decide +kernel
theorem dX4_quickest_2 : decode cX4_quickest 2 = .ok (.putfield 28, 3) := by decide +kernel
theorem dX4_quickest_5 : decode cX4_quickest 5 = .ok (.aload_n 0, 1) := by decide +kernel
theorem dX4_quickest_6 : decode cX4_quickest 6 = .ok (.getfield 15, 3) := by decide +kernel
theorem dX4_quickest_9 : decode cX4_quickest 9 = .ok (.invokevirtual 73, 3) := by decide +kernel
theorem dX4_quickest_12 : decode cX4_quickest 12 = .ok (.iconst 1, 1) := by decide +kernel
theorem dX4_quickest_13 : decode cX4_quickest 13 = .ok (.istore 6, 2) := by decide +kernel
theorem dX4_quickest_15 : decode cX4_quickest 15 = .ok (.iconst 0, 1) := by decide +kernel
theorem dX4_quickest_16 : decode cX4_quickest 16 = .ok (.istore 7, 2) := by decide +kernel
theorem dX4_quickest_18 : decode cX4_quickest 18 = .ok (.iload 6, 2) := by decide +kernel
theorem dX4_quickest_20 : decode cX4_quickest 20 = .ok (.ifCond .eq 92, 3) := by decide +kernel
theorem dX4_quickest_23 : decode cX4_quickest 23 = .ok (.iload 7, 2) := by decide +kernel
theorem dX4_quickest_25 : decode cX4_quickest 25 = .ok (.ldc 76, 2) := by decide +kernel
theorem dX4_quickest_27 : decode cX4_quickest 27 = .ok (.if_icmp .ge 85, 3) := by decide +kernel
theorem dX4_quickest_30 : decode cX4_quickest 30 = .ok (.iload 5, 2) := by decide +kernel
theorem dX4_quickest_32 : decode cX4_quickest 32 = .ok (.ifCond .eq 20, 3) := by decide +kernel
theorem dX4_quickest_35 : decode cX4_quickest 35 = .ok (.aload_n 0, 1) := by decide +kernel
theorem dX4_quickest_36 : decode cX4_quickest 36 = .ok (.getfield 15, 3) := by decide +kernel
theorem dX4_quickest_39 : decode cX4_quickest 39 = .ok (.invokevirtual 77, 3) := by decide +kernel
theorem dX4_quickest_42 : decode cX4_quickest 42 = .ok (.aload_n 0, 1) := by decide +kernel
theorem dX4_quickest_43 : decode cX4_quickest 43 = .ok (.getfield 9, 3) := by decide +kernel
theorem dX4_quickest_46 : decode cX4_quickest 46 = .ok (.invokevirtual 80, 3) := by decide +kernel
theorem dX4_quickest_49 : decode cX4_quickest 49 = .ok (.if_icmp .ne 7, 3) := by decide +kernel
theorem dX4_quickest_52 : decode cX4_quickest 52 = .ok (.iconst 1, 1) := by decide +kernel
theorem dX4_quickest_53 : decode cX4_quickest 53 = .ok (.goto 4, 3) := by decide +kernel
theorem dX4_quickest_56 : decode cX4_quickest 56 = .ok (.iconst 0, 1) := by decide +kernel
theorem dX4_quickest_57 : decode cX4_quickest 57 = .ok (.istore 8, 2) := by decide +kernel
theorem dX4_quickest_59 : decode cX4_quickest 59 = .ok (.iload 8, 2) := by decide +kernel
theorem dX4_quickest_61 : decode cX4_quickest 61 = .ok (.ifCond .eq 34, 3) := by decide +kernel
theorem dX4_quickest_64 : decode cX4_quickest 64 = .ok (.aload_n 0, 1) := by decide +kernel
theorem dX4_quickest_65 : decode cX4_quickest 65 = .ok (.invokevirtual 83, 3) := by decide +kernel
theorem dX4_quickest_68 : decode cX4_quickest 68 = .ok (.ifCond .eq 27, 3) := by decide +kernel
theorem dX4_quickest_71 : decode cX4_quickest 71 = .ok (.aload_n 0, 1) := by decide +kernel
theorem dX4_quickest_72 : decode cX4_quickest 72 = .ok (.iload_n 1, 1) := by decide +kernel
theorem dX4_quickest_73 : decode cX4_quickest 73 = .ok (.iload_n 2, 1) := by decide +kernel
theorem dX4_quickest_74 : decode cX4_quickest 74 = .ok (.iload_n 3, 1) := by decide +kernel
theorem dX4_quickest_75 : decode cX4_quickest 75 = .ok (.invokevirtual 87, 3) := by decide +kernel
theorem dX4_quickest_78 : decode cX4_quickest 78 = .ok (.ifCond .eq 17, 3) := by decide +kernel
theorem dX4_quickest_81 : decode cX4_quickest 81 = .ok (.aload_n 0, 1) := by decide +kernel
theorem dX4_quickest_82 : decode cX4_quickest 82 = .ok (.dup, 1) := by decide +kernel
theorem dX4_quickest_83 : decode cX4_quickest 83 = .ok (.getfield 28, 3) := by decide +kernel
theorem dX4_quickest_86 : decode cX4_quickest 86 = .ok (.iconst 1, 1) := by decide +kernel
theorem dX4_quickest_87 : decode cX4_quickest 87 = .ok (.iadd, 1) := by decide +kernel
theorem dX4_quickest_88 : decode cX4_quickest 88 = .ok (.putfield 28, 3) := by decide +kernel
theorem dX4_quickest_91 : decode cX4_quickest 91 = .ok (.aload_n 0, 1) := by decide +kernel
theorem dX4_quickest_92 : decode cX4_quickest 92 = .ok (.invokevirtual 91, 3) := by decide +kernel
theorem dX4_quickest_95 : decode cX4_quickest 95 = .ok (.aload_n 0, 1) := by decide +kernel
theorem dX4_quickest_96 : decode cX4_quickest 96 = .ok (.getfield 15, 3) := by decide +kernel
theorem dX4_quickest_99 : decode cX4_quickest 99 = .ok (.iload 4, 2) := by decide +kernel
theorem dX4_quickest_101 : decode cX4_quickest 101 = .ok (.invokevirtual 94, 3) := by decide +kernel
theorem dX4_quickest_104 : decode cX4_quickest 104 = .ok (.istore 6, 2) := by decide +kernel
theorem dX4_quickest_106 : decode cX4_quickest 106 = .ok (.iinc 7 1, 3) := by decide +kernel
theorem dX4_quickest_109 : decode cX4_quickest 109 = .ok (.goto (-91), 3) := by decide +kernel
theorem dX4_quickest_112 : decode cX4_quickest 112 = .ok (.aload_n 0, 1) := by decide +kernel
theorem dX4_quickest_113 : decode cX4_quickest 113 = .ok (.areturn, 1) := by decide +kernel
theorem dX4_told_0 : decode cX4_told 0 = .ok (.aload_n 0, 1) := by decide +kernel
theorem dX4_told_1 : decode cX4_told 1 = .ok (.getfield 28, 3) := by decide +kernel
theorem dX4_told_4 : decode cX4_told 4 = .ok (.ifCond .ne 5, 3) := by decide +kernel
theorem dX4_told_7 : decode cX4_told 7 = .ok (.iconst (-1), 1) := by decide +kernel
theorem dX4_told_8 : decode cX4_told 8 = .ok (.ireturn, 1) := by decide +kernel
theorem dX4_told_9 : decode cX4_told 9 = .ok (.iload_n 1, 1) := by decide +kernel
theorem dX4_told_10 : decode cX4_told 10 = .ok (.lookupswitch 36 #[(0, 26), (1, 31)], 26) := by decide +kernel
theorem dX4_told_36 : decode cX4_told 36 = .ok (.aload_n 0, 1) := by decide +kernel
theorem dX4_told_37 : decode cX4_told 37 = .ok (.getfield 45, 3) := by decide +kernel
theorem dX4_told_40 : decode cX4_told 40 = .ok (.ireturn, 1) := by decide +kernel
theorem dX4_told_41 : decode cX4_told 41 = .ok (.aload_n 0, 1) := by decide +kernel
theorem dX4_told_42 : decode cX4_told 42 = .ok (.getfield 51, 3) := by decide +kernel
theorem dX4_told_45 : decode cX4_told 45 = .ok (.ireturn, 1) := by decide +kernel
theorem dX4_told_46 : decode cX4_told 46 = .ok (.iload_n 1, 1) := by decide +kernel
theorem dX4_told_47 : decode cX4_told 47 = .ok (.iconst 2, 1) := by decide +kernel
theorem dX4_told_48 : decode cX4_told 48 = .ok (.if_icmp .lt 26, 3) := by decide +kernel
theorem dX4_told_51 : decode cX4_told 51 = .ok (.iload_n 1, 1) := by decide +kernel
theorem dX4_told_52 : decode cX4_told 52 = .ok (.iconst 2, 1) := by decide +kernel
theorem dX4_told_53 : decode cX4_told 53 = .ok (.isub, 1) := by decide +kernel
theorem dX4_told_54 : decode cX4_told 54 = .ok (.aload_n 0, 1) := by decide +kernel
theorem dX4_told_55 : decode cX4_told 55 = .ok (.getfield 51, 3) := by decide +kernel
theorem dX4_told_58 : decode cX4_told 58 = .ok (.if_icmp .ge 16, 3) := by decide +kernel
theorem dX4_told_61 : decode cX4_told 61 = .ok (.aload_n 0, 1) := by decide +kernel
theorem dX4_told_62 : decode cX4_told 62 = .ok (.getfield 24, 3) := by decide +kernel
theorem dX4_told_65 : decode cX4_told 65 = .ok (.iload_n 1, 1) := by decide +kernel
theorem dX4_told_66 : decode cX4_told 66 = .ok (.iconst 2, 1) := by decide +kernel
theorem dX4_told_67 : decode cX4_told 67 = .ok (.isub, 1) := by decide +kernel
theorem dX4_told_68 : decode cX4_told 68 = .ok (.invokevirtual 35, 3) := by decide +kernel
theorem dX4_told_71 : decode cX4_told 71 = .ok (.goto 4, 3) := by decide +kernel
theorem dX4_told_74 : decode cX4_told 74 = .ok (.iconst (-1), 1) := by decide +kernel
theorem dX4_told_75 : decode cX4_told 75 = .ok (.ireturn, 1) := by decide +kernel
theorem dX4_oddsToHear_0 : decode cX4_oddsToHear 0 = .ok (.lconst 0, 1) := by decide +kernel
theorem dX4_oddsToHear_1 : decode cX4_oddsToHear 1 = .ok (.lstore 4, 2) := by decide +kernel
theorem dX4_oddsToHear_3 : decode cX4_oddsToHear 3 = .ok (.aload_n 0, 1) := by decide +kernel
theorem dX4_oddsToHear_4 : decode cX4_oddsToHear 4 = .ok (.getfield 15, 3) := by decide +kernel
theorem dX4_oddsToHear_7 : decode cX4_oddsToHear 7 = .ok (.invokevirtual 73, 3) := by decide +kernel
theorem dX4_oddsToHear_10 : decode cX4_oddsToHear 10 = .ok (.iconst 1, 1) := by decide +kernel
theorem dX4_oddsToHear_11 : decode cX4_oddsToHear 11 = .ok (.istore 6, 2) := by decide +kernel
theorem dX4_oddsToHear_13 : decode cX4_oddsToHear 13 = .ok (.iconst 0, 1) := by decide +kernel
theorem dX4_oddsToHear_14 : decode cX4_oddsToHear 14 = .ok (.istore 7, 2) := by decide +kernel
theorem dX4_oddsToHear_16 : decode cX4_oddsToHear 16 = .ok (.iload 6, 2) := by decide +kernel
theorem dX4_oddsToHear_18 : decode cX4_oddsToHear 18 = .ok (.ifCond .eq 85, 3) := by decide +kernel
theorem dX4_oddsToHear_21 : decode cX4_oddsToHear 21 = .ok (.iload 7, 2) := by decide +kernel
theorem dX4_oddsToHear_23 : decode cX4_oddsToHear 23 = .ok (.ldc 76, 2) := by decide +kernel
theorem dX4_oddsToHear_25 : decode cX4_oddsToHear 25 = .ok (.if_icmp .ge 78, 3) := by decide +kernel
theorem dX4_oddsToHear_28 : decode cX4_oddsToHear 28 = .ok (.aload_n 0, 1) := by decide +kernel
theorem dX4_oddsToHear_29 : decode cX4_oddsToHear 29 = .ok (.getfield 15, 3) := by decide +kernel
theorem dX4_oddsToHear_32 : decode cX4_oddsToHear 32 = .ok (.invokevirtual 48, 3) := by decide +kernel
theorem dX4_oddsToHear_35 : decode cX4_oddsToHear 35 = .ok (.iload_n 3, 1) := by decide +kernel
theorem dX4_oddsToHear_36 : decode cX4_oddsToHear 36 = .ok (.if_icmp .eq 20, 3) := by decide +kernel
theorem dX4_oddsToHear_39 : decode cX4_oddsToHear 39 = .ok (.aload_n 0, 1) := by decide +kernel
theorem dX4_oddsToHear_40 : decode cX4_oddsToHear 40 = .ok (.getfield 9, 3) := by decide +kernel
theorem dX4_oddsToHear_43 : decode cX4_oddsToHear 43 = .ok (.aload_n 0, 1) := by decide +kernel
theorem dX4_oddsToHear_44 : decode cX4_oddsToHear 44 = .ok (.getfield 15, 3) := by decide +kernel
theorem dX4_oddsToHear_47 : decode cX4_oddsToHear 47 = .ok (.invokevirtual 77, 3) := by decide +kernel
theorem dX4_oddsToHear_50 : decode cX4_oddsToHear 50 = .ok (.invokevirtual 111, 3) := by decide +kernel
theorem dX4_oddsToHear_53 : decode cX4_oddsToHear 53 = .ok (.ifCond .ne 7, 3) := by decide +kernel
theorem dX4_oddsToHear_56 : decode cX4_oddsToHear 56 = .ok (.iconst 1, 1) := by decide +kernel
theorem dX4_oddsToHear_57 : decode cX4_oddsToHear 57 = .ok (.goto 4, 3) := by decide +kernel
theorem dX4_oddsToHear_60 : decode cX4_oddsToHear 60 = .ok (.iconst 0, 1) := by decide +kernel
theorem dX4_oddsToHear_61 : decode cX4_oddsToHear 61 = .ok (.istore 8, 2) := by decide +kernel
theorem dX4_oddsToHear_63 : decode cX4_oddsToHear 63 = .ok (.iload 8, 2) := by decide +kernel
theorem dX4_oddsToHear_65 : decode cX4_oddsToHear 65 = .ok (.ifCond .eq 22, 3) := by decide +kernel
theorem dX4_oddsToHear_68 : decode cX4_oddsToHear 68 = .ok (.aload_n 0, 1) := by decide +kernel
theorem dX4_oddsToHear_69 : decode cX4_oddsToHear 69 = .ok (.iload_n 1, 1) := by decide +kernel
theorem dX4_oddsToHear_70 : decode cX4_oddsToHear 70 = .ok (.iload_n 2, 1) := by decide +kernel
theorem dX4_oddsToHear_71 : decode cX4_oddsToHear 71 = .ok (.invokevirtual 66, 3) := by decide +kernel
theorem dX4_oddsToHear_74 : decode cX4_oddsToHear 74 = .ok (.ifCond .eq 13, 3) := by decide +kernel
theorem dX4_oddsToHear_77 : decode cX4_oddsToHear 77 = .ok (.lload 4, 2) := by decide +kernel
theorem dX4_oddsToHear_79 : decode cX4_oddsToHear 79 = .ok (.aload_n 0, 1) := by decide +kernel
theorem dX4_oddsToHear_80 : decode cX4_oddsToHear 80 = .ok (.iload_n 3, 1) := by decide +kernel
theorem dX4_oddsToHear_81 : decode cX4_oddsToHear 81 = .ok (.invokevirtual 114, 3) := by decide +kernel
theorem dX4_oddsToHear_84 : decode cX4_oddsToHear 84 = .ok (.ladd, 1) := by decide +kernel
theorem dX4_oddsToHear_85 : decode cX4_oddsToHear 85 = .ok (.lstore 4, 2) := by decide +kernel
theorem dX4_oddsToHear_87 : decode cX4_oddsToHear 87 = .ok (.aload_n 0, 1) := by decide +kernel
theorem dX4_oddsToHear_88 : decode cX4_oddsToHear 88 = .ok (.getfield 15, 3) := by decide +kernel
theorem dX4_oddsToHear_91 : decode cX4_oddsToHear 91 = .ok (.iload_n 3, 1) := by decide +kernel
theorem dX4_oddsToHear_92 : decode cX4_oddsToHear 92 = .ok (.invokevirtual 94, 3) := by decide +kernel
theorem dX4_oddsToHear_95 : decode cX4_oddsToHear 95 = .ok (.istore 6, 2) := by decide +kernel
theorem dX4_oddsToHear_97 : decode cX4_oddsToHear 97 = .ok (.iinc 7 1, 3) := by decide +kernel
theorem dX4_oddsToHear_100 : decode cX4_oddsToHear 100 = .ok (.goto (-84), 3) := by decide +kernel
theorem dX4_oddsToHear_103 : decode cX4_oddsToHear 103 = .ok (.lload 4, 2) := by decide +kernel
theorem dX4_oddsToHear_105 : decode cX4_oddsToHear 105 = .ok (.lreturn, 1) := by decide +kernel
theorem dX4_oddsOfWalk_0 : decode cX4_oddsOfWalk 0 = .ok (.lconst 1, 1) := by decide +kernel
theorem dX4_oddsOfWalk_1 : decode cX4_oddsOfWalk 1 = .ok (.lstore_n 2, 1) := by decide +kernel
theorem dX4_oddsOfWalk_2 : decode cX4_oddsOfWalk 2 = .ok (.iconst 0, 1) := by decide +kernel
theorem dX4_oddsOfWalk_3 : decode cX4_oddsOfWalk 3 = .ok (.istore 4, 2) := by decide +kernel
theorem dX4_oddsOfWalk_5 : decode cX4_oddsOfWalk 5 = .ok (.iload 4, 2) := by decide +kernel
theorem dX4_oddsOfWalk_7 : decode cX4_oddsOfWalk 7 = .ok (.iload_n 1, 1) := by decide +kernel
theorem dX4_oddsOfWalk_8 : decode cX4_oddsOfWalk 8 = .ok (.if_icmp .ge 93, 3) := by decide +kernel
theorem dX4_oddsOfWalk_11 : decode cX4_oddsOfWalk 11 = .ok (.iload 4, 2) := by decide +kernel
theorem dX4_oddsOfWalk_13 : decode cX4_oddsOfWalk 13 = .ok (.aload_n 0, 1) := by decide +kernel
theorem dX4_oddsOfWalk_14 : decode cX4_oddsOfWalk 14 = .ok (.getfield 15, 3) := by decide +kernel
theorem dX4_oddsOfWalk_17 : decode cX4_oddsOfWalk 17 = .ok (.invokevirtual 48, 3) := by decide +kernel
theorem dX4_oddsOfWalk_20 : decode cX4_oddsOfWalk 20 = .ok (.if_icmp .ge 69, 3) := by decide +kernel
theorem dX4_oddsOfWalk_23 : decode cX4_oddsOfWalk 23 = .ok (.aload_n 0, 1) := by decide +kernel
theorem dX4_oddsOfWalk_24 : decode cX4_oddsOfWalk 24 = .ok (.getfield 15, 3) := by decide +kernel
theorem dX4_oddsOfWalk_27 : decode cX4_oddsOfWalk 27 = .ok (.iload 4, 2) := by decide +kernel
theorem dX4_oddsOfWalk_29 : decode cX4_oddsOfWalk 29 = .ok (.iconst 1, 1) := by decide +kernel
theorem dX4_oddsOfWalk_30 : decode cX4_oddsOfWalk 30 = .ok (.isub, 1) := by decide +kernel
theorem dX4_oddsOfWalk_31 : decode cX4_oddsOfWalk 31 = .ok (.invokevirtual 54, 3) := by decide +kernel
theorem dX4_oddsOfWalk_34 : decode cX4_oddsOfWalk 34 = .ok (.istore 5, 2) := by decide +kernel
theorem dX4_oddsOfWalk_36 : decode cX4_oddsOfWalk 36 = .ok (.aload_n 0, 1) := by decide +kernel
theorem dX4_oddsOfWalk_37 : decode cX4_oddsOfWalk 37 = .ok (.getfield 9, 3) := by decide +kernel
theorem dX4_oddsOfWalk_40 : decode cX4_oddsOfWalk 40 = .ok (.iload 5, 2) := by decide +kernel
theorem dX4_oddsOfWalk_42 : decode cX4_oddsOfWalk 42 = .ok (.invokevirtual 111, 3) := by decide +kernel
theorem dX4_oddsOfWalk_45 : decode cX4_oddsOfWalk 45 = .ok (.istore 6, 2) := by decide +kernel
theorem dX4_oddsOfWalk_47 : decode cX4_oddsOfWalk 47 = .ok (.lload_n 2, 1) := by decide +kernel
theorem dX4_oddsOfWalk_48 : decode cX4_oddsOfWalk 48 = .ok (.iload 6, 2) := by decide +kernel
theorem dX4_oddsOfWalk_50 : decode cX4_oddsOfWalk 50 = .ok (.ifCond .le 33, 3) := by decide +kernel
theorem dX4_oddsOfWalk_53 : decode cX4_oddsOfWalk 53 = .ok (.aload_n 0, 1) := by decide +kernel
theorem dX4_oddsOfWalk_54 : decode cX4_oddsOfWalk 54 = .ok (.getfield 9, 3) := by decide +kernel
theorem dX4_oddsOfWalk_57 : decode cX4_oddsOfWalk 57 = .ok (.iload 5, 2) := by decide +kernel
theorem dX4_oddsOfWalk_59 : decode cX4_oddsOfWalk 59 = .ok (.aload_n 0, 1) := by decide +kernel
theorem dX4_oddsOfWalk_60 : decode cX4_oddsOfWalk 60 = .ok (.getfield 15, 3) := by decide +kernel
theorem dX4_oddsOfWalk_63 : decode cX4_oddsOfWalk 63 = .ok (.iload 4, 2) := by decide +kernel
theorem dX4_oddsOfWalk_65 : decode cX4_oddsOfWalk 65 = .ok (.invokevirtual 54, 3) := by decide +kernel
theorem dX4_oddsOfWalk_68 : decode cX4_oddsOfWalk 68 = .ok (.invokevirtual 118, 3) := by decide +kernel
theorem dX4_oddsOfWalk_71 : decode cX4_oddsOfWalk 71 = .ok (.i2l, 1) := by decide +kernel
theorem dX4_oddsOfWalk_72 : decode cX4_oddsOfWalk 72 = .ok (.ldc2_w 121, 3) := by decide +kernel
theorem dX4_oddsOfWalk_75 : decode cX4_oddsOfWalk 75 = .ok (.iload 6, 2) := by decide +kernel
theorem dX4_oddsOfWalk_77 : decode cX4_oddsOfWalk 77 = .ok (.i2l, 1) := by decide +kernel
theorem dX4_oddsOfWalk_78 : decode cX4_oddsOfWalk 78 = .ok (.ldiv, 1) := by decide +kernel
theorem dX4_oddsOfWalk_79 : decode cX4_oddsOfWalk 79 = .ok (.lmul, 1) := by decide +kernel
theorem dX4_oddsOfWalk_80 : decode cX4_oddsOfWalk 80 = .ok (.goto 4, 3) := by decide +kernel
theorem dX4_oddsOfWalk_83 : decode cX4_oddsOfWalk 83 = .ok (.lconst 0, 1) := by decide +kernel
theorem dX4_oddsOfWalk_84 : decode cX4_oddsOfWalk 84 = .ok (.lmul, 1) := by decide +kernel
theorem dX4_oddsOfWalk_85 : decode cX4_oddsOfWalk 85 = .ok (.lstore_n 2, 1) := by decide +kernel
theorem dX4_oddsOfWalk_86 : decode cX4_oddsOfWalk 86 = .ok (.goto 9, 3) := by decide +kernel
theorem dX4_oddsOfWalk_89 : decode cX4_oddsOfWalk 89 = .ok (.lload_n 2, 1) := by decide +kernel
theorem dX4_oddsOfWalk_90 : decode cX4_oddsOfWalk 90 = .ok (.ldc2_w 121, 3) := by decide +kernel
theorem dX4_oddsOfWalk_93 : decode cX4_oddsOfWalk 93 = .ok (.lmul, 1) := by decide +kernel
theorem dX4_oddsOfWalk_94 : decode cX4_oddsOfWalk 94 = .ok (.lstore_n 2, 1) := by decide +kernel
theorem dX4_oddsOfWalk_95 : decode cX4_oddsOfWalk 95 = .ok (.iinc 4 1, 3) := by decide +kernel
theorem dX4_oddsOfWalk_98 : decode cX4_oddsOfWalk 98 = .ok (.goto (-93), 3) := by decide +kernel
theorem dX4_oddsOfWalk_101 : decode cX4_oddsOfWalk 101 = .ok (.lload_n 2, 1) := by decide +kernel
theorem dX4_oddsOfWalk_102 : decode cX4_oddsOfWalk 102 = .ok (.lreturn, 1) := by decide +kernel
theorem dX4_isSilentWithout_0 : decode cX4_isSilentWithout 0 = .ok (.aload_n 0, 1) := by decide +kernel
theorem dX4_isSilentWithout_1 : decode cX4_isSilentWithout 1 = .ok (.getfield 15, 3) := by decide +kernel
theorem dX4_isSilentWithout_4 : decode cX4_isSilentWithout 4 = .ok (.iload_n 1, 1) := by decide +kernel
theorem dX4_isSilentWithout_5 : decode cX4_isSilentWithout 5 = .ok (.invokevirtual 123, 3) := by decide +kernel
theorem dX4_isSilentWithout_8 : decode cX4_isSilentWithout 8 = .ok (.iconst 1, 1) := by decide +kernel
theorem dX4_isSilentWithout_9 : decode cX4_isSilentWithout 9 = .ok (.istore 5, 2) := by decide +kernel
theorem dX4_isSilentWithout_11 : decode cX4_isSilentWithout 11 = .ok (.iconst 0, 1) := by decide +kernel
theorem dX4_isSilentWithout_12 : decode cX4_isSilentWithout 12 = .ok (.istore 6, 2) := by decide +kernel
theorem dX4_isSilentWithout_14 : decode cX4_isSilentWithout 14 = .ok (.iload 5, 2) := by decide +kernel
theorem dX4_isSilentWithout_16 : decode cX4_isSilentWithout 16 = .ok (.ifCond .eq 38, 3) := by decide +kernel
theorem dX4_isSilentWithout_19 : decode cX4_isSilentWithout 19 = .ok (.iload 6, 2) := by decide +kernel
theorem dX4_isSilentWithout_21 : decode cX4_isSilentWithout 21 = .ok (.ldc 76, 2) := by decide +kernel
theorem dX4_isSilentWithout_23 : decode cX4_isSilentWithout 23 = .ok (.if_icmp .ge 31, 3) := by decide +kernel
theorem dX4_isSilentWithout_26 : decode cX4_isSilentWithout 26 = .ok (.aload_n 0, 1) := by decide +kernel
theorem dX4_isSilentWithout_27 : decode cX4_isSilentWithout 27 = .ok (.iload_n 2, 1) := by decide +kernel
theorem dX4_isSilentWithout_28 : decode cX4_isSilentWithout 28 = .ok (.iload_n 3, 1) := by decide +kernel
theorem dX4_isSilentWithout_29 : decode cX4_isSilentWithout 29 = .ok (.invokevirtual 70, 3) := by decide +kernel
theorem dX4_isSilentWithout_32 : decode cX4_isSilentWithout 32 = .ok (.ifCond .eq 5, 3) := by decide +kernel
theorem dX4_isSilentWithout_35 : decode cX4_isSilentWithout 35 = .ok (.iconst 0, 1) := by decide +kernel
theorem dX4_isSilentWithout_36 : decode cX4_isSilentWithout 36 = .ok (.ireturn, 1) := by decide +kernel
theorem dX4_isSilentWithout_37 : decode cX4_isSilentWithout 37 = .ok (.aload_n 0, 1) := by decide +kernel
theorem dX4_isSilentWithout_38 : decode cX4_isSilentWithout 38 = .ok (.getfield 15, 3) := by decide +kernel
theorem dX4_isSilentWithout_41 : decode cX4_isSilentWithout 41 = .ok (.iload 4, 2) := by decide +kernel
theorem dX4_isSilentWithout_43 : decode cX4_isSilentWithout 43 = .ok (.invokevirtual 94, 3) := by decide +kernel
theorem dX4_isSilentWithout_46 : decode cX4_isSilentWithout 46 = .ok (.istore 5, 2) := by decide +kernel
theorem dX4_isSilentWithout_48 : decode cX4_isSilentWithout 48 = .ok (.iinc 6 1, 3) := by decide +kernel
theorem dX4_isSilentWithout_51 : decode cX4_isSilentWithout 51 = .ok (.goto (-37), 3) := by decide +kernel
theorem dX4_isSilentWithout_54 : decode cX4_isSilentWithout 54 = .ok (.iconst 1, 1) := by decide +kernel
theorem dX4_isSilentWithout_55 : decode cX4_isSilentWithout 55 = .ok (.ireturn, 1) := by decide +kernel
theorem dX4_fewestToShut_0 : decode cX4_fewestToShut 0 = .ok (.aload_n 0, 1) := by decide +kernel
theorem dX4_fewestToShut_1 : decode cX4_fewestToShut 1 = .ok (.getfield 9, 3) := by decide +kernel
theorem dX4_fewestToShut_4 : decode cX4_fewestToShut 4 = .ok (.invokevirtual 126, 3) := by decide +kernel
theorem dX4_fewestToShut_7 : decode cX4_fewestToShut 7 = .ok (.istore 4, 2) := by decide +kernel
theorem dX4_fewestToShut_9 : decode cX4_fewestToShut 9 = .ok (.iconst 0, 1) := by decide +kernel
theorem dX4_fewestToShut_10 : decode cX4_fewestToShut 10 = .ok (.istore 5, 2) := by decide +kernel
theorem dX4_fewestToShut_12 : decode cX4_fewestToShut 12 = .ok (.iload 5, 2) := by decide +kernel
theorem dX4_fewestToShut_14 : decode cX4_fewestToShut 14 = .ok (.bipush 12, 2) := by decide +kernel
theorem dX4_fewestToShut_16 : decode cX4_fewestToShut 16 = .ok (.if_icmp .gt 72, 3) := by decide +kernel
theorem dX4_fewestToShut_19 : decode cX4_fewestToShut 19 = .ok (.iconst 0, 1) := by decide +kernel
theorem dX4_fewestToShut_20 : decode cX4_fewestToShut 20 = .ok (.istore 6, 2) := by decide +kernel
theorem dX4_fewestToShut_22 : decode cX4_fewestToShut 22 = .ok (.iload 6, 2) := by decide +kernel
theorem dX4_fewestToShut_24 : decode cX4_fewestToShut 24 = .ok (.iload 4, 2) := by decide +kernel
theorem dX4_fewestToShut_26 : decode cX4_fewestToShut 26 = .ok (.if_icmp .gt 56, 3) := by decide +kernel
theorem dX4_fewestToShut_29 : decode cX4_fewestToShut 29 = .ok (.iload 6, 2) := by decide +kernel
theorem dX4_fewestToShut_31 : decode cX4_fewestToShut 31 = .ok (.iload 4, 2) := by decide +kernel
theorem dX4_fewestToShut_33 : decode cX4_fewestToShut 33 = .ok (.iconst (-1), 1) := by decide +kernel
theorem dX4_fewestToShut_34 : decode cX4_fewestToShut 34 = .ok (.ixor, 1) := by decide +kernel
theorem dX4_fewestToShut_35 : decode cX4_fewestToShut 35 = .ok (.iand, 1) := by decide +kernel
theorem dX4_fewestToShut_36 : decode cX4_fewestToShut 36 = .ok (.ifCond .ne 17, 3) := by decide +kernel
theorem dX4_fewestToShut_39 : decode cX4_fewestToShut 39 = .ok (.iload 6, 2) := by decide +kernel
theorem dX4_fewestToShut_41 : decode cX4_fewestToShut 41 = .ok (.invokestatic 129, 3) := by decide +kernel
theorem dX4_fewestToShut_44 : decode cX4_fewestToShut 44 = .ok (.iload 5, 2) := by decide +kernel
theorem dX4_fewestToShut_46 : decode cX4_fewestToShut 46 = .ok (.if_icmp .ne 7, 3) := by decide +kernel
theorem dX4_fewestToShut_49 : decode cX4_fewestToShut 49 = .ok (.iconst 1, 1) := by decide +kernel
theorem dX4_fewestToShut_50 : decode cX4_fewestToShut 50 = .ok (.goto 4, 3) := by decide +kernel
theorem dX4_fewestToShut_53 : decode cX4_fewestToShut 53 = .ok (.iconst 0, 1) := by decide +kernel
theorem dX4_fewestToShut_54 : decode cX4_fewestToShut 54 = .ok (.istore 7, 2) := by decide +kernel
theorem dX4_fewestToShut_56 : decode cX4_fewestToShut 56 = .ok (.iload 7, 2) := by decide +kernel
theorem dX4_fewestToShut_58 : decode cX4_fewestToShut 58 = .ok (.ifCond .eq 18, 3) := by decide +kernel
theorem dX4_fewestToShut_61 : decode cX4_fewestToShut 61 = .ok (.aload_n 0, 1) := by decide +kernel
theorem dX4_fewestToShut_62 : decode cX4_fewestToShut 62 = .ok (.iload 6, 2) := by decide +kernel
theorem dX4_fewestToShut_64 : decode cX4_fewestToShut 64 = .ok (.iload_n 1, 1) := by decide +kernel
theorem dX4_fewestToShut_65 : decode cX4_fewestToShut 65 = .ok (.iload_n 2, 1) := by decide +kernel
theorem dX4_fewestToShut_66 : decode cX4_fewestToShut 66 = .ok (.iload_n 3, 1) := by decide +kernel
theorem dX4_fewestToShut_67 : decode cX4_fewestToShut 67 = .ok (.invokevirtual 134, 3) := by decide +kernel
theorem dX4_fewestToShut_70 : decode cX4_fewestToShut 70 = .ok (.ifCond .eq 6, 3) := by decide +kernel
theorem dX4_fewestToShut_73 : decode cX4_fewestToShut 73 = .ok (.iload 6, 2) := by decide +kernel
theorem dX4_fewestToShut_75 : decode cX4_fewestToShut 75 = .ok (.ireturn, 1) := by decide +kernel
theorem dX4_fewestToShut_76 : decode cX4_fewestToShut 76 = .ok (.iinc 6 1, 3) := by decide +kernel
theorem dX4_fewestToShut_79 : decode cX4_fewestToShut 79 = .ok (.goto (-57), 3) := by decide +kernel
theorem dX4_fewestToShut_82 : decode cX4_fewestToShut 82 = .ok (.iinc 5 1, 3) := by decide +kernel
theorem dX4_fewestToShut_85 : decode cX4_fewestToShut 85 = .ok (.goto (-73), 3) := by decide +kernel
theorem dX4_fewestToShut_88 : decode cX4_fewestToShut 88 = .ok (.iload 4, 2) := by decide +kernel
theorem dX4_fewestToShut_90 : decode cX4_fewestToShut 90 = .ok (.ireturn, 1) := by decide +kernel
theorem dX4_wordsInReach_0 : decode cX4_wordsInReach 0 = .ok (.iconst 0, 1) := by decide +kernel
theorem dX4_wordsInReach_1 : decode cX4_wordsInReach 1 = .ok (.istore_n 3, 1) := by decide +kernel
theorem dX4_wordsInReach_2 : decode cX4_wordsInReach 2 = .ok (.aload_n 0, 1) := by decide +kernel
theorem dX4_wordsInReach_3 : decode cX4_wordsInReach 3 = .ok (.getfield 15, 3) := by decide +kernel
theorem dX4_wordsInReach_6 : decode cX4_wordsInReach 6 = .ok (.invokevirtual 73, 3) := by decide +kernel
theorem dX4_wordsInReach_9 : decode cX4_wordsInReach 9 = .ok (.iconst 1, 1) := by decide +kernel
theorem dX4_wordsInReach_10 : decode cX4_wordsInReach 10 = .ok (.istore 4, 2) := by decide +kernel
theorem dX4_wordsInReach_12 : decode cX4_wordsInReach 12 = .ok (.iconst 0, 1) := by decide +kernel
theorem dX4_wordsInReach_13 : decode cX4_wordsInReach 13 = .ok (.istore 5, 2) := by decide +kernel
theorem dX4_wordsInReach_15 : decode cX4_wordsInReach 15 = .ok (.iload 4, 2) := by decide +kernel
theorem dX4_wordsInReach_17 : decode cX4_wordsInReach 17 = .ok (.ifCond .eq 37, 3) := by decide +kernel
theorem dX4_wordsInReach_20 : decode cX4_wordsInReach 20 = .ok (.iload 5, 2) := by decide +kernel
theorem dX4_wordsInReach_22 : decode cX4_wordsInReach 22 = .ok (.ldc 76, 2) := by decide +kernel
theorem dX4_wordsInReach_24 : decode cX4_wordsInReach 24 = .ok (.if_icmp .ge 30, 3) := by decide +kernel
theorem dX4_wordsInReach_27 : decode cX4_wordsInReach 27 = .ok (.iload_n 3, 1) := by decide +kernel
theorem dX4_wordsInReach_28 : decode cX4_wordsInReach 28 = .ok (.aload_n 0, 1) := by decide +kernel
theorem dX4_wordsInReach_29 : decode cX4_wordsInReach 29 = .ok (.getfield 15, 3) := by decide +kernel
theorem dX4_wordsInReach_32 : decode cX4_wordsInReach 32 = .ok (.iload_n 1, 1) := by decide +kernel
theorem dX4_wordsInReach_33 : decode cX4_wordsInReach 33 = .ok (.invokevirtual 61, 3) := by decide +kernel
theorem dX4_wordsInReach_36 : decode cX4_wordsInReach 36 = .ok (.ior, 1) := by decide +kernel
theorem dX4_wordsInReach_37 : decode cX4_wordsInReach 37 = .ok (.istore_n 3, 1) := by decide +kernel
theorem dX4_wordsInReach_38 : decode cX4_wordsInReach 38 = .ok (.aload_n 0, 1) := by decide +kernel
theorem dX4_wordsInReach_39 : decode cX4_wordsInReach 39 = .ok (.getfield 15, 3) := by decide +kernel
theorem dX4_wordsInReach_42 : decode cX4_wordsInReach 42 = .ok (.iload_n 2, 1) := by decide +kernel
theorem dX4_wordsInReach_43 : decode cX4_wordsInReach 43 = .ok (.invokevirtual 94, 3) := by decide +kernel
theorem dX4_wordsInReach_46 : decode cX4_wordsInReach 46 = .ok (.istore 4, 2) := by decide +kernel
theorem dX4_wordsInReach_48 : decode cX4_wordsInReach 48 = .ok (.iinc 5 1, 3) := by decide +kernel
theorem dX4_wordsInReach_51 : decode cX4_wordsInReach 51 = .ok (.goto (-36), 3) := by decide +kernel
theorem dX4_wordsInReach_54 : decode cX4_wordsInReach 54 = .ok (.iload_n 3, 1) := by decide +kernel
theorem dX4_wordsInReach_55 : decode cX4_wordsInReach 55 = .ok (.ireturn, 1) := by decide +kernel
theorem dX4_fewestVisits_0 : decode cX4_fewestVisits 0 = .ok (.iload_n 3, 1) := by decide +kernel
theorem dX4_fewestVisits_1 : decode cX4_fewestVisits 1 = .ok (.iconst 1, 1) := by decide +kernel
theorem dX4_fewestVisits_2 : decode cX4_fewestVisits 2 = .ok (.iadd, 1) := by decide +kernel
theorem dX4_fewestVisits_3 : decode cX4_fewestVisits 3 = .ok (.istore 4, 2) := by decide +kernel
theorem dX4_fewestVisits_5 : decode cX4_fewestVisits 5 = .ok (.aload_n 0, 1) := by decide +kernel
theorem dX4_fewestVisits_6 : decode cX4_fewestVisits 6 = .ok (.getfield 15, 3) := by decide +kernel
theorem dX4_fewestVisits_9 : decode cX4_fewestVisits 9 = .ok (.invokevirtual 73, 3) := by decide +kernel
theorem dX4_fewestVisits_12 : decode cX4_fewestVisits 12 = .ok (.iconst 1, 1) := by decide +kernel
theorem dX4_fewestVisits_13 : decode cX4_fewestVisits 13 = .ok (.istore 5, 2) := by decide +kernel
theorem dX4_fewestVisits_15 : decode cX4_fewestVisits 15 = .ok (.iconst 0, 1) := by decide +kernel
theorem dX4_fewestVisits_16 : decode cX4_fewestVisits 16 = .ok (.istore 6, 2) := by decide +kernel
theorem dX4_fewestVisits_18 : decode cX4_fewestVisits 18 = .ok (.iload 5, 2) := by decide +kernel
theorem dX4_fewestVisits_20 : decode cX4_fewestVisits 20 = .ok (.ifCond .eq 56, 3) := by decide +kernel
theorem dX4_fewestVisits_23 : decode cX4_fewestVisits 23 = .ok (.iload 6, 2) := by decide +kernel
theorem dX4_fewestVisits_25 : decode cX4_fewestVisits 25 = .ok (.ldc 76, 2) := by decide +kernel
theorem dX4_fewestVisits_27 : decode cX4_fewestVisits 27 = .ok (.if_icmp .ge 49, 3) := by decide +kernel
theorem dX4_fewestVisits_30 : decode cX4_fewestVisits 30 = .ok (.aload_n 0, 1) := by decide +kernel
theorem dX4_fewestVisits_31 : decode cX4_fewestVisits 31 = .ok (.getfield 15, 3) := by decide +kernel
theorem dX4_fewestVisits_34 : decode cX4_fewestVisits 34 = .ok (.invokevirtual 48, 3) := by decide +kernel
theorem dX4_fewestVisits_37 : decode cX4_fewestVisits 37 = .ok (.iload 4, 2) := by decide +kernel
theorem dX4_fewestVisits_39 : decode cX4_fewestVisits 39 = .ok (.if_icmp .ge 21, 3) := by decide +kernel
theorem dX4_fewestVisits_42 : decode cX4_fewestVisits 42 = .ok (.aload_n 0, 1) := by decide +kernel
theorem dX4_fewestVisits_43 : decode cX4_fewestVisits 43 = .ok (.iload_n 1, 1) := by decide +kernel
theorem dX4_fewestVisits_44 : decode cX4_fewestVisits 44 = .ok (.iload_n 2, 1) := by decide +kernel
theorem dX4_fewestVisits_45 : decode cX4_fewestVisits 45 = .ok (.invokevirtual 66, 3) := by decide +kernel
theorem dX4_fewestVisits_48 : decode cX4_fewestVisits 48 = .ok (.ifCond .eq 12, 3) := by decide +kernel
theorem dX4_fewestVisits_51 : decode cX4_fewestVisits 51 = .ok (.aload_n 0, 1) := by decide +kernel
theorem dX4_fewestVisits_52 : decode cX4_fewestVisits 52 = .ok (.getfield 15, 3) := by decide +kernel
theorem dX4_fewestVisits_55 : decode cX4_fewestVisits 55 = .ok (.invokevirtual 48, 3) := by decide +kernel
theorem dX4_fewestVisits_58 : decode cX4_fewestVisits 58 = .ok (.istore 4, 2) := by decide +kernel
theorem dX4_fewestVisits_60 : decode cX4_fewestVisits 60 = .ok (.aload_n 0, 1) := by decide +kernel
theorem dX4_fewestVisits_61 : decode cX4_fewestVisits 61 = .ok (.getfield 15, 3) := by decide +kernel
theorem dX4_fewestVisits_64 : decode cX4_fewestVisits 64 = .ok (.iload_n 3, 1) := by decide +kernel
theorem dX4_fewestVisits_65 : decode cX4_fewestVisits 65 = .ok (.invokevirtual 94, 3) := by decide +kernel
theorem dX4_fewestVisits_68 : decode cX4_fewestVisits 68 = .ok (.istore 5, 2) := by decide +kernel
theorem dX4_fewestVisits_70 : decode cX4_fewestVisits 70 = .ok (.iinc 6 1, 3) := by decide +kernel
theorem dX4_fewestVisits_73 : decode cX4_fewestVisits 73 = .ok (.goto (-55), 3) := by decide +kernel
theorem dX4_fewestVisits_76 : decode cX4_fewestVisits 76 = .ok (.iload 4, 2) := by decide +kernel
theorem dX4_fewestVisits_78 : decode cX4_fewestVisits 78 = .ok (.iload_n 3, 1) := by decide +kernel
theorem dX4_fewestVisits_79 : decode cX4_fewestVisits 79 = .ok (.if_icmp .gt 8, 3) := by decide +kernel
theorem dX4_fewestVisits_82 : decode cX4_fewestVisits 82 = .ok (.iload 4, 2) := by decide +kernel
theorem dX4_fewestVisits_84 : decode cX4_fewestVisits 84 = .ok (.goto 4, 3) := by decide +kernel
theorem dX4_fewestVisits_87 : decode cX4_fewestVisits 87 = .ok (.iconst (-1), 1) := by decide +kernel
theorem dX4_fewestVisits_88 : decode cX4_fewestVisits 88 = .ok (.ireturn, 1) := by decide +kernel
theorem dX5_init_0 : decode cX5_init 0 = .ok (.aload_n 0, 1) := by decide +kernel
theorem dX5_init_1 : decode cX5_init 1 = .ok (.invokespecial 3, 3) := by decide +kernel
theorem dX5_init_4 : decode cX5_init 4 = .ok (.aload_n 0, 1) := by decide +kernel
theorem dX5_init_5 : decode cX5_init 5 = .ok (.sipush 1280, 3) := by decide +kernel
theorem dX5_init_8 : decode cX5_init 8 = .ok (.newarray .long, 2) := by decide +kernel
theorem dX5_init_10 : decode cX5_init 10 = .ok (.putfield 11, 3) := by decide +kernel
theorem dX5_init_13 : decode cX5_init 13 = .ok (.aload_n 0, 1) := by decide +kernel
theorem dX5_init_14 : decode cX5_init 14 = .ok (.new 15, 3) := by decide +kernel
theorem dX5_init_17 : decode cX5_init 17 = .ok (.dup, 1) := by decide +kernel
theorem dX5_init_18 : decode cX5_init 18 = .ok (.bipush 8, 2) := by decide +kernel
theorem dX5_init_20 : decode cX5_init 20 = .ok (.invokespecial 17, 3) := by decide +kernel
theorem dX5_init_23 : decode cX5_init 23 = .ok (.putfield 20, 3) := by decide +kernel
theorem dX5_init_26 : decode cX5_init 26 = .ok (.aload_n 0, 1) := by decide +kernel
theorem dX5_init_27 : decode cX5_init 27 = .ok (.new 15, 3) := by decide +kernel
theorem dX5_init_30 : decode cX5_init 30 = .ok (.dup, 1) := by decide +kernel
theorem dX5_init_31 : decode cX5_init 31 = .ok (.bipush 8, 2) := by decide +kernel
theorem dX5_init_33 : decode cX5_init 33 = .ok (.invokespecial 17, 3) := by decide +kernel
theorem dX5_init_36 : decode cX5_init 36 = .ok (.putfield 24, 3) := by decide +kernel
theorem dX5_init_39 : decode cX5_init 39 = .ok (.iconst 0, 1) := by decide +kernel
theorem dX5_init_40 : decode cX5_init 40 = .ok (.istore_n 1, 1) := by decide +kernel
theorem dX5_init_41 : decode cX5_init 41 = .ok (.iload_n 1, 1) := by decide +kernel
theorem dX5_init_42 : decode cX5_init 42 = .ok (.bipush 8, 2) := by decide +kernel
theorem dX5_init_44 : decode cX5_init 44 = .ok (.if_icmp .ge 18, 3) := by decide +kernel
theorem dX5_init_47 : decode cX5_init 47 = .ok (.aload_n 0, 1) := by decide +kernel
theorem dX5_init_48 : decode cX5_init 48 = .ok (.getfield 20, 3) := by decide +kernel
theorem dX5_init_51 : decode cX5_init 51 = .ok (.iload_n 1, 1) := by decide +kernel
theorem dX5_init_52 : decode cX5_init 52 = .ok (.iconst (-1), 1) := by decide +kernel
theorem dX5_init_53 : decode cX5_init 53 = .ok (.invokevirtual 27, 3) := by decide +kernel
theorem dX5_init_56 : decode cX5_init 56 = .ok (.iinc 1 1, 3) := by decide +kernel
theorem dX5_init_59 : decode cX5_init 59 = .ok (.goto (-18), 3) := by decide +kernel
theorem dX5_init_62 : decode cX5_init 62 = .ok (.return_, 1) := by decide +kernel
theorem dX5_isShelf_0 : decode cX5_isShelf 0 = .ok (.iload_n 1, 1) := by decide +kernel
theorem dX5_isShelf_1 : decode cX5_isShelf 1 = .ok (.ifCond .lt 13, 3) := by decide +kernel
theorem dX5_isShelf_4 : decode cX5_isShelf 4 = .ok (.iload_n 1, 1) := by decide +kernel
theorem dX5_isShelf_5 : decode cX5_isShelf 5 = .ok (.bipush 8, 2) := by decide +kernel
theorem dX5_isShelf_7 : decode cX5_isShelf 7 = .ok (.if_icmp .ge 7, 3) := by decide +kernel
theorem dX5_isShelf_10 : decode cX5_isShelf 10 = .ok (.iconst 1, 1) := by decide +kernel
theorem dX5_isShelf_11 : decode cX5_isShelf 11 = .ok (.goto 4, 3) := by decide +kernel
theorem dX5_isShelf_14 : decode cX5_isShelf 14 = .ok (.iconst 0, 1) := by decide +kernel
theorem dX5_isShelf_15 : decode cX5_isShelf 15 = .ok (.ireturn, 1) := by decide +kernel
theorem dX5_isSort_0 : decode cX5_isSort 0 = .ok (.iload_n 1, 1) := by decide +kernel
theorem dX5_isSort_1 : decode cX5_isSort 1 = .ok (.ifCond .lt 12, 3) := by decide +kernel
theorem dX5_isSort_4 : decode cX5_isSort 4 = .ok (.iload_n 1, 1) := by decide +kernel
theorem dX5_isSort_5 : decode cX5_isSort 5 = .ok (.iconst 4, 1) := by decide +kernel
theorem dX5_isSort_6 : decode cX5_isSort 6 = .ok (.if_icmp .ge 7, 3) := by decide +kernel
theorem dX5_isSort_9 : decode cX5_isSort 9 = .ok (.iconst 1, 1) := by decide +kernel
theorem dX5_isSort_10 : decode cX5_isSort 10 = .ok (.goto 4, 3) := by decide +kernel
theorem dX5_isSort_13 : decode cX5_isSort 13 = .ok (.iconst 0, 1) := by decide +kernel
theorem dX5_isSort_14 : decode cX5_isSort 14 = .ok (.ireturn, 1) := by decide +kernel
theorem dX5_isRow_0 : decode cX5_isRow 0 = .ok (.iload_n 0, 1) := by decide +kernel
theorem dX5_isRow_1 : decode cX5_isRow 1 = .ok (.bipush 100, 2) := by decide +kernel
theorem dX5_isRow_3 : decode cX5_isRow 3 = .ok (.if_icmp .lt 7, 3) := by decide +kernel
theorem dX5_isRow_6 : decode cX5_isRow 6 = .ok (.iconst 1, 1) := by decide +kernel
theorem dX5_isRow_7 : decode cX5_isRow 7 = .ok (.goto 4, 3) := by decide +kernel
theorem dX5_isRow_10 : decode cX5_isRow 10 = .ok (.iconst 0, 1) := by decide +kernel
theorem dX5_isRow_11 : decode cX5_isRow 11 = .ok (.ireturn, 1) := by decide +kernel
theorem dX5_isHouse_0 : decode cX5_isHouse 0 = .ok (.iload_n 0, 1) := by decide +kernel
theorem dX5_isHouse_1 : decode cX5_isHouse 1 = .ok (.iconst (-1), 1) := by decide +kernel
theorem dX5_isHouse_2 : decode cX5_isHouse 2 = .ok (.if_icmp .eq 14, 3) := by decide +kernel
theorem dX5_isHouse_5 : decode cX5_isHouse 5 = .ok (.iload_n 0, 1) := by decide +kernel
theorem dX5_isHouse_6 : decode cX5_isHouse 6 = .ok (.invokestatic 39, 3) := by decide +kernel
theorem dX5_isHouse_9 : decode cX5_isHouse 9 = .ok (.ifCond .ne 7, 3) := by decide +kernel
theorem dX5_isHouse_12 : decode cX5_isHouse 12 = .ok (.iconst 1, 1) := by decide +kernel
theorem dX5_isHouse_13 : decode cX5_isHouse 13 = .ok (.goto 4, 3) := by decide +kernel
theorem dX5_isHouse_16 : decode cX5_isHouse 16 = .ok (.iconst 0, 1) := by decide +kernel
theorem dX5_isHouse_17 : decode cX5_isHouse 17 = .ok (.ireturn, 1) := by decide +kernel
theorem dX5_troubleWithRow_0 : decode cX5_troubleWithRow 0 = .ok (.aload_n 0, 1) := by decide +kernel
theorem dX5_troubleWithRow_1 : decode cX5_troubleWithRow 1 = .ok (.iload_n 1, 1) := by decide +kernel
theorem dX5_troubleWithRow_2 : decode cX5_troubleWithRow 2 = .ok (.iload_n 1, 1) := by decide +kernel
theorem dX5_troubleWithRow_3 : decode cX5_troubleWithRow 3 = .ok (.invokevirtual 42, 3) := by decide +kernel
theorem dX5_troubleWithRow_6 : decode cX5_troubleWithRow 6 = .ok (.ireturn, 1) := by decide +kernel
theorem dX5_troubleWithTwoRows_0 : decode cX5_troubleWithTwoRows 0 = .ok (.aload_n 0, 1) := by decide +kernel
theorem dX5_troubleWithTwoRows_1 : decode cX5_troubleWithTwoRows 1 = .ok (.iload_n 1, 1) := by decide +kernel
theorem dX5_troubleWithTwoRows_2 : decode cX5_troubleWithTwoRows 2 = .ok (.invokevirtual 31, 3) := by decide +kernel
theorem dX5_troubleWithTwoRows_5 : decode cX5_troubleWithTwoRows 5 = .ok (.ifCond .eq 11, 3) := by decide +kernel
theorem dX5_troubleWithTwoRows_8 : decode cX5_troubleWithTwoRows 8 = .ok (.aload_n 0, 1) := by decide +kernel
theorem dX5_troubleWithTwoRows_9 : decode cX5_troubleWithTwoRows 9 = .ok (.iload_n 2, 1) := by decide +kernel
theorem dX5_troubleWithTwoRows_10 : decode cX5_troubleWithTwoRows 10 = .ok (.invokevirtual 31, 3) := by decide +kernel
theorem dX5_troubleWithTwoRows_13 : decode cX5_troubleWithTwoRows 13 = .ok (.ifCond .ne 5, 3) := by decide +kernel
theorem dX5_troubleWithTwoRows_16 : decode cX5_troubleWithTwoRows 16 = .ok (.iconst (-1), 1) := by decide +kernel
theorem dX5_troubleWithTwoRows_17 : decode cX5_troubleWithTwoRows 17 = .ok (.ireturn, 1) := by decide +kernel
theorem dX5_troubleWithTwoRows_18 : decode cX5_troubleWithTwoRows 18 = .ok (.aload_n 0, 1) := by decide +kernel
theorem dX5_troubleWithTwoRows_19 : decode cX5_troubleWithTwoRows 19 = .ok (.getfield 20, 3) := by decide +kernel
theorem dX5_troubleWithTwoRows_22 : decode cX5_troubleWithTwoRows 22 = .ok (.iload_n 1, 1) := by decide +kernel
theorem dX5_troubleWithTwoRows_23 : decode cX5_troubleWithTwoRows 23 = .ok (.invokevirtual 35, 3) := by decide +kernel
theorem dX5_troubleWithTwoRows_26 : decode cX5_troubleWithTwoRows 26 = .ok (.istore_n 3, 1) := by decide +kernel
theorem dX5_troubleWithTwoRows_27 : decode cX5_troubleWithTwoRows 27 = .ok (.aload_n 0, 1) := by decide +kernel
theorem dX5_troubleWithTwoRows_28 : decode cX5_troubleWithTwoRows 28 = .ok (.getfield 20, 3) := by decide +kernel
theorem dX5_troubleWithTwoRows_31 : decode cX5_troubleWithTwoRows 31 = .ok (.iload_n 2, 1) := by decide +kernel
theorem dX5_troubleWithTwoRows_32 : decode cX5_troubleWithTwoRows 32 = .ok (.invokevirtual 35, 3) := by decide +kernel
theorem dX5_troubleWithTwoRows_35 : decode cX5_troubleWithTwoRows 35 = .ok (.istore 4, 2) := by decide +kernel
theorem dX5_troubleWithTwoRows_37 : decode cX5_troubleWithTwoRows 37 = .ok (.iload_n 3, 1) := by decide +kernel
theorem dX5_troubleWithTwoRows_38 : decode cX5_troubleWithTwoRows 38 = .ok (.invokestatic 46, 3) := by decide +kernel
theorem dX5_troubleWithTwoRows_41 : decode cX5_troubleWithTwoRows 41 = .ok (.ifCond .ne 11, 3) := by decide +kernel
theorem dX5_troubleWithTwoRows_44 : decode cX5_troubleWithTwoRows 44 = .ok (.iload 4, 2) := by decide +kernel
theorem dX5_troubleWithTwoRows_46 : decode cX5_troubleWithTwoRows 46 = .ok (.invokestatic 46, 3) := by decide +kernel
theorem dX5_troubleWithTwoRows_49 : decode cX5_troubleWithTwoRows 49 = .ok (.ifCond .eq 6, 3) := by decide +kernel
theorem dX5_troubleWithTwoRows_52 : decode cX5_troubleWithTwoRows 52 = .ok (.bipush (-2), 2) := by decide +kernel
theorem dX5_troubleWithTwoRows_54 : decode cX5_troubleWithTwoRows 54 = .ok (.ireturn, 1) := by decide +kernel
theorem dX5_troubleWithTwoRows_55 : decode cX5_troubleWithTwoRows 55 = .ok (.iload_n 3, 1) := by decide +kernel
theorem dX5_troubleWithTwoRows_56 : decode cX5_troubleWithTwoRows 56 = .ok (.iconst (-1), 1) := by decide +kernel
theorem dX5_troubleWithTwoRows_57 : decode cX5_troubleWithTwoRows 57 = .ok (.if_icmp .eq 9, 3) := by decide +kernel
theorem dX5_troubleWithTwoRows_60 : decode cX5_troubleWithTwoRows 60 = .ok (.iload 4, 2) := by decide +kernel
theorem dX5_troubleWithTwoRows_62 : decode cX5_troubleWithTwoRows 62 = .ok (.iconst (-1), 1) := by decide +kernel
theorem dX5_troubleWithTwoRows_63 : decode cX5_troubleWithTwoRows 63 = .ok (.if_icmp .ne 6, 3) := by decide +kernel
theorem dX5_troubleWithTwoRows_66 : decode cX5_troubleWithTwoRows 66 = .ok (.bipush (-3), 2) := by decide +kernel
theorem dX5_troubleWithTwoRows_68 : decode cX5_troubleWithTwoRows 68 = .ok (.ireturn, 1) := by decide +kernel
theorem dX5_troubleWithTwoRows_69 : decode cX5_troubleWithTwoRows 69 = .ok (.iload_n 3, 1) := by decide +kernel
theorem dX5_troubleWithTwoRows_70 : decode cX5_troubleWithTwoRows 70 = .ok (.iload 4, 2) := by decide +kernel
theorem dX5_troubleWithTwoRows_72 : decode cX5_troubleWithTwoRows 72 = .ok (.if_icmp .ne 7, 3) := by decide +kernel
theorem dX5_troubleWithTwoRows_75 : decode cX5_troubleWithTwoRows 75 = .ok (.iconst 0, 1) := by decide +kernel
theorem dX5_troubleWithTwoRows_76 : decode cX5_troubleWithTwoRows 76 = .ok (.goto 5, 3) := by decide +kernel
theorem dX5_troubleWithTwoRows_79 : decode cX5_troubleWithTwoRows 79 = .ok (.bipush (-2), 2) := by decide +kernel
theorem dX5_troubleWithTwoRows_81 : decode cX5_troubleWithTwoRows 81 = .ok (.ireturn, 1) := by decide +kernel
theorem dX5_troubleWithStart_0 : decode cX5_troubleWithStart 0 = .ok (.aload_n 0, 1) := by decide +kernel
theorem dX5_troubleWithStart_1 : decode cX5_troubleWithStart 1 = .ok (.iload_n 1, 1) := by decide +kernel
theorem dX5_troubleWithStart_2 : decode cX5_troubleWithStart 2 = .ok (.invokevirtual 49, 3) := by decide +kernel
theorem dX5_troubleWithStart_5 : decode cX5_troubleWithStart 5 = .ok (.istore_n 3, 1) := by decide +kernel
theorem dX5_troubleWithStart_6 : decode cX5_troubleWithStart 6 = .ok (.iload_n 3, 1) := by decide +kernel
theorem dX5_troubleWithStart_7 : decode cX5_troubleWithStart 7 = .ok (.ifCond .eq 5, 3) := by decide +kernel
theorem dX5_troubleWithStart_10 : decode cX5_troubleWithStart 10 = .ok (.iload_n 3, 1) := by decide +kernel
theorem dX5_troubleWithStart_11 : decode cX5_troubleWithStart 11 = .ok (.ireturn, 1) := by decide +kernel
theorem dX5_troubleWithStart_12 : decode cX5_troubleWithStart 12 = .ok (.iload_n 2, 1) := by decide +kernel
theorem dX5_troubleWithStart_13 : decode cX5_troubleWithStart 13 = .ok (.ifCond .ge 6, 3) := by decide +kernel
theorem dX5_troubleWithStart_16 : decode cX5_troubleWithStart 16 = .ok (.bipush (-4), 2) := by decide +kernel
theorem dX5_troubleWithStart_18 : decode cX5_troubleWithStart 18 = .ok (.ireturn, 1) := by decide +kernel
theorem dX5_troubleWithStart_19 : decode cX5_troubleWithStart 19 = .ok (.iload_n 2, 1) := by decide +kernel
theorem dX5_troubleWithStart_20 : decode cX5_troubleWithStart 20 = .ok (.aload_n 0, 1) := by decide +kernel
theorem dX5_troubleWithStart_21 : decode cX5_troubleWithStart 21 = .ok (.getfield 24, 3) := by decide +kernel
theorem dX5_troubleWithStart_24 : decode cX5_troubleWithStart 24 = .ok (.iload_n 1, 1) := by decide +kernel
theorem dX5_troubleWithStart_25 : decode cX5_troubleWithStart 25 = .ok (.invokevirtual 35, 3) := by decide +kernel
theorem dX5_troubleWithStart_28 : decode cX5_troubleWithStart 28 = .ok (.if_icmp .le 8, 3) := by decide +kernel
theorem dX5_troubleWithStart_31 : decode cX5_troubleWithStart 31 = .ok (.bipush (-5), 2) := by decide +kernel
theorem dX5_troubleWithStart_33 : decode cX5_troubleWithStart 33 = .ok (.goto 4, 3) := by decide +kernel
theorem dX5_troubleWithStart_36 : decode cX5_troubleWithStart 36 = .ok (.iconst 0, 1) := by decide +kernel
theorem dX5_troubleWithStart_37 : decode cX5_troubleWithStart 37 = .ok (.ireturn, 1) := by decide +kernel
theorem dX5_hasElement_0 : decode cX5_hasElement 0 = .ok (.iload_n 2, 1) := by decide +kernel
theorem dX5_hasElement_1 : decode cX5_hasElement 1 = .ok (.ifCond .lt 19, 3) := by decide +kernel
theorem dX5_hasElement_4 : decode cX5_hasElement 4 = .ok (.iload_n 2, 1) := by decide +kernel
theorem dX5_hasElement_5 : decode cX5_hasElement 5 = .ok (.aload_n 0, 1) := by decide +kernel
theorem dX5_hasElement_6 : decode cX5_hasElement 6 = .ok (.getfield 24, 3) := by decide +kernel
theorem dX5_hasElement_9 : decode cX5_hasElement 9 = .ok (.iload_n 1, 1) := by decide +kernel
theorem dX5_hasElement_10 : decode cX5_hasElement 10 = .ok (.invokevirtual 35, 3) := by decide +kernel
theorem dX5_hasElement_13 : decode cX5_hasElement 13 = .ok (.if_icmp .ge 7, 3) := by decide +kernel
theorem dX5_hasElement_16 : decode cX5_hasElement 16 = .ok (.iconst 1, 1) := by decide +kernel
theorem dX5_hasElement_17 : decode cX5_hasElement 17 = .ok (.goto 4, 3) := by decide +kernel
theorem dX5_hasElement_20 : decode cX5_hasElement 20 = .ok (.iconst 0, 1) := by decide +kernel
theorem dX5_hasElement_21 : decode cX5_hasElement 21 = .ok (.ireturn, 1) := by decide +kernel
theorem dX5_holdRow_0 : decode cX5_holdRow 0 = .ok (.aload_n 0, 1) := by decide +kernel
theorem dX5_holdRow_1 : decode cX5_holdRow 1 = .ok (.getfield 20, 3) := by decide +kernel
theorem dX5_holdRow_4 : decode cX5_holdRow 4 = .ok (.iload_n 1, 1) := by decide +kernel
theorem dX5_holdRow_5 : decode cX5_holdRow 5 = .ok (.bipush 100, 2) := by decide +kernel
theorem dX5_holdRow_7 : decode cX5_holdRow 7 = .ok (.iload_n 2, 1) := by decide +kernel
theorem dX5_holdRow_8 : decode cX5_holdRow 8 = .ok (.iadd, 1) := by decide +kernel
theorem dX5_holdRow_9 : decode cX5_holdRow 9 = .ok (.invokevirtual 27, 3) := by decide +kernel
theorem dX5_holdRow_12 : decode cX5_holdRow 12 = .ok (.aload_n 0, 1) := by decide +kernel
theorem dX5_holdRow_13 : decode cX5_holdRow 13 = .ok (.getfield 24, 3) := by decide +kernel
theorem dX5_holdRow_16 : decode cX5_holdRow 16 = .ok (.iload_n 1, 1) := by decide +kernel
theorem dX5_holdRow_17 : decode cX5_holdRow 17 = .ok (.iload_n 3, 1) := by decide +kernel
theorem dX5_holdRow_18 : decode cX5_holdRow 18 = .ok (.invokevirtual 27, 3) := by decide +kernel
theorem dX5_holdRow_21 : decode cX5_holdRow 21 = .ok (.iconst 0, 1) := by decide +kernel
theorem dX5_holdRow_22 : decode cX5_holdRow 22 = .ok (.istore 4, 2) := by decide +kernel
theorem dX5_holdRow_24 : decode cX5_holdRow 24 = .ok (.iload 4, 2) := by decide +kernel
theorem dX5_holdRow_26 : decode cX5_holdRow 26 = .ok (.iload_n 3, 1) := by decide +kernel
theorem dX5_holdRow_27 : decode cX5_holdRow 27 = .ok (.if_icmp .ge 17, 3) := by decide +kernel
theorem dX5_holdRow_30 : decode cX5_holdRow 30 = .ok (.aload_n 0, 1) := by decide +kernel
theorem dX5_holdRow_31 : decode cX5_holdRow 31 = .ok (.iload_n 1, 1) := by decide +kernel
theorem dX5_holdRow_32 : decode cX5_holdRow 32 = .ok (.iload 4, 2) := by decide +kernel
theorem dX5_holdRow_34 : decode cX5_holdRow 34 = .ok (.lconst 0, 1) := by decide +kernel
theorem dX5_holdRow_35 : decode cX5_holdRow 35 = .ok (.invokevirtual 52, 3) := by decide +kernel
theorem dX5_holdRow_38 : decode cX5_holdRow 38 = .ok (.iinc 4 1, 3) := by decide +kernel
theorem dX5_holdRow_41 : decode cX5_holdRow 41 = .ok (.goto (-17), 3) := by decide +kernel
theorem dX5_holdRow_44 : decode cX5_holdRow 44 = .ok (.return_, 1) := by decide +kernel
theorem dX5_elementAt_0 : decode cX5_elementAt 0 = .ok (.iload_n 1, 1) := by decide +kernel
theorem dX5_elementAt_1 : decode cX5_elementAt 1 = .ok (.sipush 160, 3) := by decide +kernel
theorem dX5_elementAt_4 : decode cX5_elementAt 4 = .ok (.imul, 1) := by decide +kernel
theorem dX5_elementAt_5 : decode cX5_elementAt 5 = .ok (.iload_n 2, 1) := by decide +kernel
theorem dX5_elementAt_6 : decode cX5_elementAt 6 = .ok (.iadd, 1) := by decide +kernel
theorem dX5_elementAt_7 : decode cX5_elementAt 7 = .ok (.istore_n 3, 1) := by decide +kernel
theorem dX5_elementAt_8 : decode cX5_elementAt 8 = .ok (.aload_n 0, 1) := by decide +kernel
theorem dX5_elementAt_9 : decode cX5_elementAt 9 = .ok (.iload_n 1, 1) := by decide +kernel
theorem dX5_elementAt_10 : decode cX5_elementAt 10 = .ok (.iload_n 2, 1) := by decide +kernel
theorem dX5_elementAt_11 : decode cX5_elementAt 11 = .ok (.invokevirtual 56, 3) := by decide +kernel
theorem dX5_elementAt_14 : decode cX5_elementAt 14 = .ok (.ifCond .eq 20, 3) := by decide +kernel
theorem dX5_elementAt_17 : decode cX5_elementAt 17 = .ok (.iload_n 3, 1) := by decide +kernel
theorem dX5_elementAt_18 : decode cX5_elementAt 18 = .ok (.ifCond .lt 16, 3) := by decide +kernel
theorem dX5_elementAt_21 : decode cX5_elementAt 21 = .ok (.iload_n 3, 1) := by decide +kernel
theorem dX5_elementAt_22 : decode cX5_elementAt 22 = .ok (.aload_n 0, 1) := by decide +kernel
theorem dX5_elementAt_23 : decode cX5_elementAt 23 = .ok (.getfield 11, 3) := by decide +kernel
theorem dX5_elementAt_26 : decode cX5_elementAt 26 = .ok (.arraylength, 1) := by decide +kernel
theorem dX5_elementAt_27 : decode cX5_elementAt 27 = .ok (.if_icmp .ge 7, 3) := by decide +kernel
theorem dX5_elementAt_30 : decode cX5_elementAt 30 = .ok (.iconst 1, 1) := by decide +kernel
theorem dX5_elementAt_31 : decode cX5_elementAt 31 = .ok (.goto 4, 3) := by decide +kernel
theorem dX5_elementAt_34 : decode cX5_elementAt 34 = .ok (.iconst 0, 1) := by decide +kernel
theorem dX5_elementAt_35 : decode cX5_elementAt 35 = .ok (.istore 4, 2) := by decide +kernel
theorem dX5_elementAt_37 : decode cX5_elementAt 37 = .ok (.iload 4, 2) := by decide +kernel
theorem dX5_elementAt_39 : decode cX5_elementAt 39 = .ok (.ifCond .eq 12, 3) := by decide +kernel
theorem dX5_elementAt_42 : decode cX5_elementAt 42 = .ok (.aload_n 0, 1) := by decide +kernel
theorem dX5_elementAt_43 : decode cX5_elementAt 43 = .ok (.getfield 11, 3) := by decide +kernel
theorem dX5_elementAt_46 : decode cX5_elementAt 46 = .ok (.iload_n 3, 1) := by decide +kernel
theorem dX5_elementAt_47 : decode cX5_elementAt 47 = .ok (.laload, 1) := by decide +kernel
theorem dX5_elementAt_48 : decode cX5_elementAt 48 = .ok (.goto 4, 3) := by decide +kernel
theorem dX5_elementAt_51 : decode cX5_elementAt 51 = .ok (.lconst 0, 1) := by decide +kernel
theorem dX5_elementAt_52 : decode cX5_elementAt 52 = .ok (.lreturn, 1) := by decide +kernel
theorem dX5_intAt_0 : decode cX5_intAt 0 = .ok (.aload_n 0, 1) := by decide +kernel
theorem dX5_intAt_1 : decode cX5_intAt 1 = .ok (.iload_n 1, 1) := by decide +kernel
theorem dX5_intAt_2 : decode cX5_intAt 2 = .ok (.iload_n 2, 1) := by decide +kernel
theorem dX5_intAt_3 : decode cX5_intAt 3 = .ok (.invokevirtual 60, 3) := by decide +kernel
theorem dX5_intAt_6 : decode cX5_intAt 6 = .ok (.l2i, 1) := by decide +kernel
theorem dX5_intAt_7 : decode cX5_intAt 7 = .ok (.ireturn, 1) := by decide +kernel
theorem dX5_keepElement_0 : decode cX5_keepElement 0 = .ok (.iload_n 1, 1) := by decide +kernel
theorem dX5_keepElement_1 : decode cX5_keepElement 1 = .ok (.sipush 160, 3) := by decide +kernel
theorem dX5_keepElement_4 : decode cX5_keepElement 4 = .ok (.imul, 1) := by decide +kernel
theorem dX5_keepElement_5 : decode cX5_keepElement 5 = .ok (.iload_n 2, 1) := by decide +kernel
theorem dX5_keepElement_6 : decode cX5_keepElement 6 = .ok (.iadd, 1) := by decide +kernel
theorem dX5_keepElement_7 : decode cX5_keepElement 7 = .ok (.istore 5, 2) := by decide +kernel
theorem dX5_keepElement_9 : decode cX5_keepElement 9 = .ok (.aload_n 0, 1) := by decide +kernel
theorem dX5_keepElement_10 : decode cX5_keepElement 10 = .ok (.iload_n 1, 1) := by decide +kernel
theorem dX5_keepElement_11 : decode cX5_keepElement 11 = .ok (.iload_n 2, 1) := by decide +kernel
theorem dX5_keepElement_12 : decode cX5_keepElement 12 = .ok (.invokevirtual 56, 3) := by decide +kernel
theorem dX5_keepElement_15 : decode cX5_keepElement 15 = .ok (.ifCond .eq 40, 3) := by decide +kernel
theorem dX5_keepElement_18 : decode cX5_keepElement 18 = .ok (.iload 5, 2) := by decide +kernel
theorem dX5_keepElement_20 : decode cX5_keepElement 20 = .ok (.ifCond .lt 35, 3) := by decide +kernel
theorem dX5_keepElement_23 : decode cX5_keepElement 23 = .ok (.iload 5, 2) := by decide +kernel
theorem dX5_keepElement_25 : decode cX5_keepElement 25 = .ok (.aload_n 0, 1) := by decide +kernel
theorem dX5_keepElement_26 : decode cX5_keepElement 26 = .ok (.getfield 11, 3) := by decide +kernel
theorem dX5_keepElement_29 : decode cX5_keepElement 29 = .ok (.arraylength, 1) := by decide +kernel
theorem dX5_keepElement_30 : decode cX5_keepElement 30 = .ok (.if_icmp .ge 25, 3) := by decide +kernel
theorem dX5_keepElement_33 : decode cX5_keepElement 33 = .ok (.aload_n 0, 1) := by decide +kernel
theorem dX5_keepElement_34 : decode cX5_keepElement 34 = .ok (.getfield 11, 3) := by decide +kernel
theorem dX5_keepElement_37 : decode cX5_keepElement 37 = .ok (.iload 5, 2) := by decide +kernel
theorem dX5_keepElement_39 : decode cX5_keepElement 39 = .ok (.aload_n 0, 1) := by decide +kernel
theorem dX5_keepElement_40 : decode cX5_keepElement 40 = .ok (.getfield 20, 3) := by decide +kernel
theorem dX5_keepElement_43 : decode cX5_keepElement 43 = .ok (.iload_n 1, 1) := by decide +kernel
theorem dX5_keepElement_44 : decode cX5_keepElement 44 = .ok (.invokevirtual 35, 3) := by decide +kernel
theorem dX5_keepElement_47 : decode cX5_keepElement 47 = .ok (.bipush 100, 2) := by decide +kernel
theorem dX5_keepElement_49 : decode cX5_keepElement 49 = .ok (.isub, 1) := by decide +kernel
theorem dX5_keepElement_50 : decode cX5_keepElement 50 = .ok (.lload_n 3, 1) := by decide +kernel
theorem dX5_keepElement_51 : decode cX5_keepElement 51 = .ok (.invokestatic 64, 3) := by decide +kernel
theorem dX5_keepElement_54 : decode cX5_keepElement 54 = .ok (.lastore, 1) := by decide +kernel
theorem dX5_keepElement_55 : decode cX5_keepElement 55 = .ok (.return_, 1) := by decide +kernel
theorem dX5_lowestBits_0 : decode cX5_lowestBits 0 = .ok (.iload_n 0, 1) := by decide +kernel
theorem dX5_lowestBits_1 : decode cX5_lowestBits 1 = .ok (.tableswitch 41 0 2 #[27, 32, 37], 27) := by decide +kernel
theorem dX5_lowestBits_28 : decode cX5_lowestBits 28 = .ok (.lload_n 1, 1) := by decide +kernel
theorem dX5_lowestBits_29 : decode cX5_lowestBits 29 = .ok (.l2i, 1) := by decide +kernel
theorem dX5_lowestBits_30 : decode cX5_lowestBits 30 = .ok (.i2b, 1) := by decide +kernel
theorem dX5_lowestBits_31 : decode cX5_lowestBits 31 = .ok (.i2l, 1) := by decide +kernel
theorem dX5_lowestBits_32 : decode cX5_lowestBits 32 = .ok (.lreturn, 1) := by decide +kernel
theorem dX5_lowestBits_33 : decode cX5_lowestBits 33 = .ok (.lload_n 1, 1) := by decide +kernel
theorem dX5_lowestBits_34 : decode cX5_lowestBits 34 = .ok (.l2i, 1) := by decide +kernel
theorem dX5_lowestBits_35 : decode cX5_lowestBits 35 = .ok (.i2s, 1) := by decide +kernel
theorem dX5_lowestBits_36 : decode cX5_lowestBits 36 = .ok (.i2l, 1) := by decide +kernel
theorem dX5_lowestBits_37 : decode cX5_lowestBits 37 = .ok (.lreturn, 1) := by decide +kernel
theorem dX5_lowestBits_38 : decode cX5_lowestBits 38 = .ok (.lload_n 1, 1) := by decide +kernel
theorem dX5_lowestBits_39 : decode cX5_lowestBits 39 = .ok (.l2i, 1) := by decide +kernel
theorem dX5_lowestBits_40 : decode cX5_lowestBits 40 = .ok (.i2l, 1) := by decide +kernel
theorem dX5_lowestBits_41 : decode cX5_lowestBits 41 = .ok (.lreturn, 1) := by decide +kernel
theorem dX5_lowestBits_42 : decode cX5_lowestBits 42 = .ok (.lload_n 1, 1) := by decide +kernel
theorem dX5_lowestBits_43 : decode cX5_lowestBits 43 = .ok (.lreturn, 1) := by decide +kernel
theorem dX6_init_0 : decode cX6_init 0 = .ok (.aload_n 0, 1) := by decide +kernel
theorem dX6_init_1 : decode cX6_init 1 = .ok (.invokespecial 3, 3) := by decide +kernel
theorem dX6_init_4 : decode cX6_init 4 = .ok (.aload_n 0, 1) := by decide +kernel
theorem dX6_init_5 : decode cX6_init 5 = .ok (.new 9, 3) := by decide +kernel
theorem dX6_init_8 : decode cX6_init 8 = .ok (.dup, 1) := by decide +kernel
theorem dX6_init_9 : decode cX6_init 9 = .ok (.bipush 40, 2) := by decide +kernel
theorem dX6_init_11 : decode cX6_init 11 = .ok (.invokespecial 13, 3) := by decide +kernel
theorem dX6_init_14 : decode cX6_init 14 = .ok (.putfield 16, 3) := by decide +kernel
theorem dX6_init_17 : decode cX6_init 17 = .ok (.aload_n 0, 1) := by decide +kernel
theorem dX6_init_18 : decode cX6_init 18 = .ok (.new 9, 3) := by decide +kernel
theorem dX6_init_21 : decode cX6_init 21 = .ok (.dup, 1) := by decide +kernel
theorem dX6_init_22 : decode cX6_init 22 = .ok (.bipush 48, 2) := by decide +kernel
theorem dX6_init_24 : decode cX6_init 24 = .ok (.invokespecial 13, 3) := by decide +kernel
theorem dX6_init_27 : decode cX6_init 27 = .ok (.putfield 20, 3) := by decide +kernel
theorem dX6_init_30 : decode cX6_init 30 = .ok (.aload_n 0, 1) := by decide +kernel
theorem dX6_init_31 : decode cX6_init 31 = .ok (.new 9, 3) := by decide +kernel
theorem dX6_init_34 : decode cX6_init 34 = .ok (.dup, 1) := by decide +kernel
theorem dX6_init_35 : decode cX6_init 35 = .ok (.iconst 3, 1) := by decide +kernel
theorem dX6_init_36 : decode cX6_init 36 = .ok (.invokespecial 13, 3) := by decide +kernel
theorem dX6_init_39 : decode cX6_init 39 = .ok (.putfield 23, 3) := by decide +kernel
theorem dX6_init_42 : decode cX6_init 42 = .ok (.aload_n 0, 1) := by decide +kernel
theorem dX6_init_43 : decode cX6_init 43 = .ok (.iconst 2, 1) := by decide +kernel
theorem dX6_init_44 : decode cX6_init 44 = .ok (.putfield 26, 3) := by decide +kernel
theorem dX6_init_47 : decode cX6_init 47 = .ok (.aload_n 0, 1) := by decide +kernel
theorem dX6_init_48 : decode cX6_init 48 = .ok (.iconst (-1), 1) := by decide +kernel
theorem dX6_init_49 : decode cX6_init 49 = .ok (.putfield 30, 3) := by decide +kernel
theorem dX6_init_52 : decode cX6_init 52 = .ok (.aload_n 0, 1) := by decide +kernel
theorem dX6_init_53 : decode cX6_init 53 = .ok (.iconst 1, 1) := by decide +kernel
theorem dX6_init_54 : decode cX6_init 54 = .ok (.putfield 33, 3) := by decide +kernel
theorem dX6_init_57 : decode cX6_init 57 = .ok (.return_, 1) := by decide +kernel
theorem dX6_isHouse_0 : decode cX6_isHouse 0 = .ok (.iload_n 1, 1) := by decide +kernel
theorem dX6_isHouse_1 : decode cX6_isHouse 1 = .ok (.ifCond .lt 15, 3) := by decide +kernel
theorem dX6_isHouse_4 : decode cX6_isHouse 4 = .ok (.iload_n 1, 1) := by decide +kernel
theorem dX6_isHouse_5 : decode cX6_isHouse 5 = .ok (.aload_n 0, 1) := by decide +kernel
theorem dX6_isHouse_6 : decode cX6_isHouse 6 = .ok (.getfield 40, 3) := by decide +kernel
theorem dX6_isHouse_9 : decode cX6_isHouse 9 = .ok (.if_icmp .ge 7, 3) := by decide +kernel
theorem dX6_isHouse_12 : decode cX6_isHouse 12 = .ok (.iconst 1, 1) := by decide +kernel
theorem dX6_isHouse_13 : decode cX6_isHouse 13 = .ok (.goto 4, 3) := by decide +kernel
theorem dX6_isHouse_16 : decode cX6_isHouse 16 = .ok (.iconst 0, 1) := by decide +kernel
theorem dX6_isHouse_17 : decode cX6_isHouse 17 = .ok (.ireturn, 1) := by decide +kernel
theorem dX6_isWay_0 : decode cX6_isWay 0 = .ok (.iload_n 1, 1) := by decide +kernel
theorem dX6_isWay_1 : decode cX6_isWay 1 = .ok (.ifCond .lt 15, 3) := by decide +kernel
theorem dX6_isWay_4 : decode cX6_isWay 4 = .ok (.iload_n 1, 1) := by decide +kernel
theorem dX6_isWay_5 : decode cX6_isWay 5 = .ok (.aload_n 0, 1) := by decide +kernel
theorem dX6_isWay_6 : decode cX6_isWay 6 = .ok (.getfield 43, 3) := by decide +kernel
theorem dX6_isWay_9 : decode cX6_isWay 9 = .ok (.if_icmp .ge 7, 3) := by decide +kernel
theorem dX6_isWay_12 : decode cX6_isWay 12 = .ok (.iconst 1, 1) := by decide +kernel
theorem dX6_isWay_13 : decode cX6_isWay 13 = .ok (.goto 4, 3) := by decide +kernel
theorem dX6_isWay_16 : decode cX6_isWay 16 = .ok (.iconst 0, 1) := by decide +kernel
theorem dX6_isWay_17 : decode cX6_isWay 17 = .ok (.ireturn, 1) := by decide +kernel
theorem dX6_hasRoomForHouse_0 : decode cX6_hasRoomForHouse 0 = .ok (.aload_n 0, 1) := by decide +kernel
theorem dX6_hasRoomForHouse_1 : decode cX6_hasRoomForHouse 1 = .ok (.getfield 40, 3) := by decide +kernel
theorem dX6_hasRoomForHouse_4 : decode cX6_hasRoomForHouse 4 = .ok (.bipush 8, 2) := by decide +kernel
theorem dX6_hasRoomForHouse_6 : decode cX6_hasRoomForHouse 6 = .ok (.if_icmp .ge 7, 3) := by decide +kernel
theorem dX6_hasRoomForHouse_9 : decode cX6_hasRoomForHouse 9 = .ok (.iconst 1, 1) := by decide +kernel
theorem dX6_hasRoomForHouse_10 : decode cX6_hasRoomForHouse 10 = .ok (.goto 4, 3) := by decide +kernel
theorem dX6_hasRoomForHouse_13 : decode cX6_hasRoomForHouse 13 = .ok (.iconst 0, 1) := by decide +kernel
theorem dX6_hasRoomForHouse_14 : decode cX6_hasRoomForHouse 14 = .ok (.ireturn, 1) := by decide +kernel
theorem dX6_hasRoomForWay_0 : decode cX6_hasRoomForWay 0 = .ok (.aload_n 0, 1) := by decide +kernel
theorem dX6_hasRoomForWay_1 : decode cX6_hasRoomForWay 1 = .ok (.getfield 43, 3) := by decide +kernel
theorem dX6_hasRoomForWay_4 : decode cX6_hasRoomForWay 4 = .ok (.bipush 12, 2) := by decide +kernel
theorem dX6_hasRoomForWay_6 : decode cX6_hasRoomForWay 6 = .ok (.if_icmp .ge 7, 3) := by decide +kernel
theorem dX6_hasRoomForWay_9 : decode cX6_hasRoomForWay 9 = .ok (.iconst 1, 1) := by decide +kernel
theorem dX6_hasRoomForWay_10 : decode cX6_hasRoomForWay 10 = .ok (.goto 4, 3) := by decide +kernel
theorem dX6_hasRoomForWay_13 : decode cX6_hasRoomForWay 13 = .ok (.iconst 0, 1) := by decide +kernel
theorem dX6_hasRoomForWay_14 : decode cX6_hasRoomForWay 14 = .ok (.ireturn, 1) := by decide +kernel
theorem dX6_hasBird_0 : decode cX6_hasBird 0 = .ok (.aload_n 0, 1) := by decide +kernel
theorem dX6_hasBird_1 : decode cX6_hasBird 1 = .ok (.getfield 30, 3) := by decide +kernel
theorem dX6_hasBird_4 : decode cX6_hasBird 4 = .ok (.iconst (-1), 1) := by decide +kernel
theorem dX6_hasBird_5 : decode cX6_hasBird 5 = .ok (.if_icmp .eq 7, 3) := by decide +kernel
theorem dX6_hasBird_8 : decode cX6_hasBird 8 = .ok (.iconst 1, 1) := by decide +kernel
theorem dX6_hasBird_9 : decode cX6_hasBird 9 = .ok (.goto 4, 3) := by decide +kernel
theorem dX6_hasBird_12 : decode cX6_hasBird 12 = .ok (.iconst 0, 1) := by decide +kernel
theorem dX6_hasBird_13 : decode cX6_hasBird 13 = .ok (.ireturn, 1) := by decide +kernel
theorem dX6_lagNow_0 : decode cX6_lagNow 0 = .ok (.aload_n 0, 1) := by decide +kernel
theorem dX6_lagNow_1 : decode cX6_lagNow 1 = .ok (.getfield 26, 3) := by decide +kernel
theorem dX6_lagNow_4 : decode cX6_lagNow 4 = .ok (.ireturn, 1) := by decide +kernel
theorem dX6_birdAt_0 : decode cX6_birdAt 0 = .ok (.aload_n 0, 1) := by decide +kernel
theorem dX6_birdAt_1 : decode cX6_birdAt 1 = .ok (.getfield 30, 3) := by decide +kernel
theorem dX6_birdAt_4 : decode cX6_birdAt 4 = .ok (.ireturn, 1) := by decide +kernel
theorem dX6_ofHouse_0 : decode cX6_ofHouse 0 = .ok (.aload_n 0, 1) := by decide +kernel
theorem dX6_ofHouse_1 : decode cX6_ofHouse 1 = .ok (.getfield 16, 3) := by decide +kernel
theorem dX6_ofHouse_4 : decode cX6_ofHouse 4 = .ok (.iload_n 1, 1) := by decide +kernel
theorem dX6_ofHouse_5 : decode cX6_ofHouse 5 = .ok (.iconst 5, 1) := by decide +kernel
theorem dX6_ofHouse_6 : decode cX6_ofHouse 6 = .ok (.imul, 1) := by decide +kernel
theorem dX6_ofHouse_7 : decode cX6_ofHouse 7 = .ok (.iload_n 2, 1) := by decide +kernel
theorem dX6_ofHouse_8 : decode cX6_ofHouse 8 = .ok (.iadd, 1) := by decide +kernel
theorem dX6_ofHouse_9 : decode cX6_ofHouse 9 = .ok (.invokevirtual 52, 3) := by decide +kernel
theorem dX6_ofHouse_12 : decode cX6_ofHouse 12 = .ok (.ireturn, 1) := by decide +kernel
theorem dX6_keepOfHouse_0 : decode cX6_keepOfHouse 0 = .ok (.aload_n 0, 1) := by decide +kernel
theorem dX6_keepOfHouse_1 : decode cX6_keepOfHouse 1 = .ok (.getfield 16, 3) := by decide +kernel
theorem dX6_keepOfHouse_4 : decode cX6_keepOfHouse 4 = .ok (.iload_n 1, 1) := by decide +kernel
theorem dX6_keepOfHouse_5 : decode cX6_keepOfHouse 5 = .ok (.iconst 5, 1) := by decide +kernel
theorem dX6_keepOfHouse_6 : decode cX6_keepOfHouse 6 = .ok (.imul, 1) := by decide +kernel
theorem dX6_keepOfHouse_7 : decode cX6_keepOfHouse 7 = .ok (.iload_n 2, 1) := by decide +kernel
theorem dX6_keepOfHouse_8 : decode cX6_keepOfHouse 8 = .ok (.iadd, 1) := by decide +kernel
theorem dX6_keepOfHouse_9 : decode cX6_keepOfHouse 9 = .ok (.iload_n 3, 1) := by decide +kernel
theorem dX6_keepOfHouse_10 : decode cX6_keepOfHouse 10 = .ok (.invokevirtual 56, 3) := by decide +kernel
theorem dX6_keepOfHouse_13 : decode cX6_keepOfHouse 13 = .ok (.return_, 1) := by decide +kernel
theorem dX6_ofWay_0 : decode cX6_ofWay 0 = .ok (.aload_n 0, 1) := by decide +kernel
theorem dX6_ofWay_1 : decode cX6_ofWay 1 = .ok (.getfield 20, 3) := by decide +kernel
theorem dX6_ofWay_4 : decode cX6_ofWay 4 = .ok (.iload_n 1, 1) := by decide +kernel
theorem dX6_ofWay_5 : decode cX6_ofWay 5 = .ok (.iconst 4, 1) := by decide +kernel
theorem dX6_ofWay_6 : decode cX6_ofWay 6 = .ok (.imul, 1) := by decide +kernel
theorem dX6_ofWay_7 : decode cX6_ofWay 7 = .ok (.iload_n 2, 1) := by decide +kernel
theorem dX6_ofWay_8 : decode cX6_ofWay 8 = .ok (.iadd, 1) := by decide +kernel
theorem dX6_ofWay_9 : decode cX6_ofWay 9 = .ok (.invokevirtual 52, 3) := by decide +kernel
theorem dX6_ofWay_12 : decode cX6_ofWay 12 = .ok (.ireturn, 1) := by decide +kernel
theorem dX6_keepOfWay_0 : decode cX6_keepOfWay 0 = .ok (.aload_n 0, 1) := by decide +kernel
theorem dX6_keepOfWay_1 : decode cX6_keepOfWay 1 = .ok (.getfield 20, 3) := by decide +kernel
theorem dX6_keepOfWay_4 : decode cX6_keepOfWay 4 = .ok (.iload_n 1, 1) := by decide +kernel
theorem dX6_keepOfWay_5 : decode cX6_keepOfWay 5 = .ok (.iconst 4, 1) := by decide +kernel
theorem dX6_keepOfWay_6 : decode cX6_keepOfWay 6 = .ok (.imul, 1) := by decide +kernel
theorem dX6_keepOfWay_7 : decode cX6_keepOfWay 7 = .ok (.iload_n 2, 1) := by decide +kernel
theorem dX6_keepOfWay_8 : decode cX6_keepOfWay 8 = .ok (.iadd, 1) := by decide +kernel
theorem dX6_keepOfWay_9 : decode cX6_keepOfWay 9 = .ok (.iload_n 3, 1) := by decide +kernel
theorem dX6_keepOfWay_10 : decode cX6_keepOfWay 10 = .ok (.invokevirtual 56, 3) := by decide +kernel
theorem dX6_keepOfWay_13 : decode cX6_keepOfWay 13 = .ok (.return_, 1) := by decide +kernel
theorem dX6_addHouse_0 : decode cX6_addHouse 0 = .ok (.aload_n 0, 1) := by decide +kernel
theorem dX6_addHouse_1 : decode cX6_addHouse 1 = .ok (.getfield 40, 3) := by decide +kernel
theorem dX6_addHouse_4 : decode cX6_addHouse 4 = .ok (.istore 4, 2) := by decide +kernel
theorem dX6_addHouse_6 : decode cX6_addHouse 6 = .ok (.aload_n 0, 1) := by decide +kernel
theorem dX6_addHouse_7 : decode cX6_addHouse 7 = .ok (.iload 4, 2) := by decide +kernel
theorem dX6_addHouse_9 : decode cX6_addHouse 9 = .ok (.iconst 0, 1) := by decide +kernel
theorem dX6_addHouse_10 : decode cX6_addHouse 10 = .ok (.iload_n 1, 1) := by decide +kernel
theorem dX6_addHouse_11 : decode cX6_addHouse 11 = .ok (.invokevirtual 60, 3) := by decide +kernel
theorem dX6_addHouse_14 : decode cX6_addHouse 14 = .ok (.aload_n 0, 1) := by decide +kernel
theorem dX6_addHouse_15 : decode cX6_addHouse 15 = .ok (.iload 4, 2) := by decide +kernel
theorem dX6_addHouse_17 : decode cX6_addHouse 17 = .ok (.iconst 1, 1) := by decide +kernel
theorem dX6_addHouse_18 : decode cX6_addHouse 18 = .ok (.iload_n 2, 1) := by decide +kernel
theorem dX6_addHouse_19 : decode cX6_addHouse 19 = .ok (.invokevirtual 60, 3) := by decide +kernel
theorem dX6_addHouse_22 : decode cX6_addHouse 22 = .ok (.aload_n 0, 1) := by decide +kernel
theorem dX6_addHouse_23 : decode cX6_addHouse 23 = .ok (.iload 4, 2) := by decide +kernel
theorem dX6_addHouse_25 : decode cX6_addHouse 25 = .ok (.iconst 2, 1) := by decide +kernel
theorem dX6_addHouse_26 : decode cX6_addHouse 26 = .ok (.iload_n 3, 1) := by decide +kernel
theorem dX6_addHouse_27 : decode cX6_addHouse 27 = .ok (.invokevirtual 60, 3) := by decide +kernel
theorem dX6_addHouse_30 : decode cX6_addHouse 30 = .ok (.aload_n 0, 1) := by decide +kernel
theorem dX6_addHouse_31 : decode cX6_addHouse 31 = .ok (.iload 4, 2) := by decide +kernel
theorem dX6_addHouse_33 : decode cX6_addHouse 33 = .ok (.iconst 3, 1) := by decide +kernel
theorem dX6_addHouse_34 : decode cX6_addHouse 34 = .ok (.iconst 0, 1) := by decide +kernel
theorem dX6_addHouse_35 : decode cX6_addHouse 35 = .ok (.invokevirtual 60, 3) := by decide +kernel
theorem dX6_addHouse_38 : decode cX6_addHouse 38 = .ok (.aload_n 0, 1) := by decide +kernel
theorem dX6_addHouse_39 : decode cX6_addHouse 39 = .ok (.iload 4, 2) := by decide +kernel
theorem dX6_addHouse_41 : decode cX6_addHouse 41 = .ok (.iconst 4, 1) := by decide +kernel
theorem dX6_addHouse_42 : decode cX6_addHouse 42 = .ok (.iconst 0, 1) := by decide +kernel
theorem dX6_addHouse_43 : decode cX6_addHouse 43 = .ok (.invokevirtual 60, 3) := by decide +kernel
theorem dX6_addHouse_46 : decode cX6_addHouse 46 = .ok (.aload_n 0, 1) := by decide +kernel
theorem dX6_addHouse_47 : decode cX6_addHouse 47 = .ok (.dup, 1) := by decide +kernel
theorem dX6_addHouse_48 : decode cX6_addHouse 48 = .ok (.getfield 40, 3) := by decide +kernel
theorem dX6_addHouse_51 : decode cX6_addHouse 51 = .ok (.iconst 1, 1) := by decide +kernel
theorem dX6_addHouse_52 : decode cX6_addHouse 52 = .ok (.iadd, 1) := by decide +kernel
theorem dX6_addHouse_53 : decode cX6_addHouse 53 = .ok (.putfield 40, 3) := by decide +kernel
theorem dX6_addHouse_56 : decode cX6_addHouse 56 = .ok (.iload 4, 2) := by decide +kernel
theorem dX6_addHouse_58 : decode cX6_addHouse 58 = .ok (.ireturn, 1) := by decide +kernel
theorem dX6_addWay_0 : decode cX6_addWay 0 = .ok (.aload_n 0, 1) := by decide +kernel
theorem dX6_addWay_1 : decode cX6_addWay 1 = .ok (.getfield 43, 3) := by decide +kernel
theorem dX6_addWay_4 : decode cX6_addWay 4 = .ok (.istore 4, 2) := by decide +kernel
theorem dX6_addWay_6 : decode cX6_addWay 6 = .ok (.aload_n 0, 1) := by decide +kernel
theorem dX6_addWay_7 : decode cX6_addWay 7 = .ok (.iload 4, 2) := by decide +kernel
theorem dX6_addWay_9 : decode cX6_addWay 9 = .ok (.iconst 0, 1) := by decide +kernel
theorem dX6_addWay_10 : decode cX6_addWay 10 = .ok (.iload_n 1, 1) := by decide +kernel
theorem dX6_addWay_11 : decode cX6_addWay 11 = .ok (.invokevirtual 64, 3) := by decide +kernel
theorem dX6_addWay_14 : decode cX6_addWay 14 = .ok (.aload_n 0, 1) := by decide +kernel
theorem dX6_addWay_15 : decode cX6_addWay 15 = .ok (.iload 4, 2) := by decide +kernel
theorem dX6_addWay_17 : decode cX6_addWay 17 = .ok (.iconst 1, 1) := by decide +kernel
theorem dX6_addWay_18 : decode cX6_addWay 18 = .ok (.iload_n 2, 1) := by decide +kernel
theorem dX6_addWay_19 : decode cX6_addWay 19 = .ok (.invokevirtual 64, 3) := by decide +kernel
theorem dX6_addWay_22 : decode cX6_addWay 22 = .ok (.aload_n 0, 1) := by decide +kernel
theorem dX6_addWay_23 : decode cX6_addWay 23 = .ok (.iload 4, 2) := by decide +kernel
theorem dX6_addWay_25 : decode cX6_addWay 25 = .ok (.iconst 2, 1) := by decide +kernel
theorem dX6_addWay_26 : decode cX6_addWay 26 = .ok (.iload_n 3, 1) := by decide +kernel
theorem dX6_addWay_27 : decode cX6_addWay 27 = .ok (.invokevirtual 64, 3) := by decide +kernel
theorem dX6_addWay_30 : decode cX6_addWay 30 = .ok (.aload_n 0, 1) := by decide +kernel
theorem dX6_addWay_31 : decode cX6_addWay 31 = .ok (.iload 4, 2) := by decide +kernel
theorem dX6_addWay_33 : decode cX6_addWay 33 = .ok (.iconst 3, 1) := by decide +kernel
theorem dX6_addWay_34 : decode cX6_addWay 34 = .ok (.iconst 0, 1) := by decide +kernel
theorem dX6_addWay_35 : decode cX6_addWay 35 = .ok (.invokevirtual 64, 3) := by decide +kernel
theorem dX6_addWay_38 : decode cX6_addWay 38 = .ok (.aload_n 0, 1) := by decide +kernel
theorem dX6_addWay_39 : decode cX6_addWay 39 = .ok (.dup, 1) := by decide +kernel
theorem dX6_addWay_40 : decode cX6_addWay 40 = .ok (.getfield 43, 3) := by decide +kernel
theorem dX6_addWay_43 : decode cX6_addWay 43 = .ok (.iconst 1, 1) := by decide +kernel
theorem dX6_addWay_44 : decode cX6_addWay 44 = .ok (.iadd, 1) := by decide +kernel
theorem dX6_addWay_45 : decode cX6_addWay 45 = .ok (.putfield 43, 3) := by decide +kernel
theorem dX6_addWay_48 : decode cX6_addWay 48 = .ok (.iload 4, 2) := by decide +kernel
theorem dX6_addWay_50 : decode cX6_addWay 50 = .ok (.ireturn, 1) := by decide +kernel
theorem dX6_changeShut_0 : decode cX6_changeShut 0 = .ok (.iload_n 2, 1) := by decide +kernel
theorem dX6_changeShut_1 : decode cX6_changeShut 1 = .ok (.ifCond .eq 7, 3) := by decide +kernel
theorem dX6_changeShut_4 : decode cX6_changeShut 4 = .ok (.iconst 1, 1) := by decide +kernel
theorem dX6_changeShut_5 : decode cX6_changeShut 5 = .ok (.goto 4, 3) := by decide +kernel
theorem dX6_changeShut_8 : decode cX6_changeShut 8 = .ok (.iconst 0, 1) := by decide +kernel
theorem dX6_changeShut_9 : decode cX6_changeShut 9 = .ok (.istore_n 3, 1) := by decide +kernel
theorem dX6_changeShut_10 : decode cX6_changeShut 10 = .ok (.aload_n 0, 1) := by decide +kernel
theorem dX6_changeShut_11 : decode cX6_changeShut 11 = .ok (.iload_n 1, 1) := by decide +kernel
theorem dX6_changeShut_12 : decode cX6_changeShut 12 = .ok (.iconst 3, 1) := by decide +kernel
theorem dX6_changeShut_13 : decode cX6_changeShut 13 = .ok (.invokevirtual 67, 3) := by decide +kernel
theorem dX6_changeShut_16 : decode cX6_changeShut 16 = .ok (.iload_n 3, 1) := by decide +kernel
theorem dX6_changeShut_17 : decode cX6_changeShut 17 = .ok (.if_icmp .ne 5, 3) := by decide +kernel
theorem dX6_changeShut_20 : decode cX6_changeShut 20 = .ok (.iconst 0, 1) := by decide +kernel
theorem dX6_changeShut_21 : decode cX6_changeShut 21 = .ok (.ireturn, 1) := by decide +kernel
theorem dX6_changeShut_22 : decode cX6_changeShut 22 = .ok (.aload_n 0, 1) := by decide +kernel
theorem dX6_changeShut_23 : decode cX6_changeShut 23 = .ok (.iload_n 1, 1) := by decide +kernel
theorem dX6_changeShut_24 : decode cX6_changeShut 24 = .ok (.iconst 3, 1) := by decide +kernel
theorem dX6_changeShut_25 : decode cX6_changeShut 25 = .ok (.iload_n 3, 1) := by decide +kernel
theorem dX6_changeShut_26 : decode cX6_changeShut 26 = .ok (.invokevirtual 64, 3) := by decide +kernel
theorem dX6_changeShut_29 : decode cX6_changeShut 29 = .ok (.iconst 1, 1) := by decide +kernel
theorem dX6_changeShut_30 : decode cX6_changeShut 30 = .ok (.ireturn, 1) := by decide +kernel
theorem dX6_changeLag_0 : decode cX6_changeLag 0 = .ok (.aload_n 0, 1) := by decide +kernel
theorem dX6_changeLag_1 : decode cX6_changeLag 1 = .ok (.iload_n 1, 1) := by decide +kernel
theorem dX6_changeLag_2 : decode cX6_changeLag 2 = .ok (.putfield 26, 3) := by decide +kernel
theorem dX6_changeLag_5 : decode cX6_changeLag 5 = .ok (.aload_n 0, 1) := by decide +kernel
theorem dX6_changeLag_6 : decode cX6_changeLag 6 = .ok (.getfield 23, 3) := by decide +kernel
theorem dX6_changeLag_9 : decode cX6_changeLag 9 = .ok (.invokevirtual 71, 3) := by decide +kernel
theorem dX6_changeLag_12 : decode cX6_changeLag 12 = .ok (.return_, 1) := by decide +kernel
theorem dX6_saidAgo_0 : decode cX6_saidAgo 0 = .ok (.aload_n 0, 1) := by decide +kernel
theorem dX6_saidAgo_1 : decode cX6_saidAgo 1 = .ok (.getfield 23, 3) := by decide +kernel
theorem dX6_saidAgo_4 : decode cX6_saidAgo 4 = .ok (.iload_n 1, 1) := by decide +kernel
theorem dX6_saidAgo_5 : decode cX6_saidAgo 5 = .ok (.invokevirtual 52, 3) := by decide +kernel
theorem dX6_saidAgo_8 : decode cX6_saidAgo 8 = .ok (.ireturn, 1) := by decide +kernel
theorem dX6_spokenNext_0 : decode cX6_spokenNext 0 = .ok (.aload_n 0, 1) := by decide +kernel
theorem dX6_spokenNext_1 : decode cX6_spokenNext 1 = .ok (.getfield 23, 3) := by decide +kernel
theorem dX6_spokenNext_4 : decode cX6_spokenNext 4 = .ok (.aload_n 0, 1) := by decide +kernel
theorem dX6_spokenNext_5 : decode cX6_spokenNext 5 = .ok (.getfield 26, 3) := by decide +kernel
theorem dX6_spokenNext_8 : decode cX6_spokenNext 8 = .ok (.iconst 1, 1) := by decide +kernel
theorem dX6_spokenNext_9 : decode cX6_spokenNext 9 = .ok (.isub, 1) := by decide +kernel
theorem dX6_spokenNext_10 : decode cX6_spokenNext 10 = .ok (.invokevirtual 52, 3) := by decide +kernel
theorem dX6_spokenNext_13 : decode cX6_spokenNext 13 = .ok (.ireturn, 1) := by decide +kernel
theorem dX6_answerAfter_0 : decode cX6_answerAfter 0 = .ok (.iload_n 1, 1) := by decide +kernel
theorem dX6_answerAfter_1 : decode cX6_answerAfter 1 = .ok (.iconst 5, 1) := by decide +kernel
theorem dX6_answerAfter_2 : decode cX6_answerAfter 2 = .ok (.imul, 1) := by decide +kernel
theorem dX6_answerAfter_3 : decode cX6_answerAfter 3 = .ok (.istore 5, 2) := by decide +kernel
theorem dX6_answerAfter_5 : decode cX6_answerAfter 5 = .ok (.aload_n 0, 1) := by decide +kernel
theorem dX6_answerAfter_6 : decode cX6_answerAfter 6 = .ok (.getfield 16, 3) := by decide +kernel
theorem dX6_answerAfter_9 : decode cX6_answerAfter 9 = .ok (.iload 5, 2) := by decide +kernel
theorem dX6_answerAfter_11 : decode cX6_answerAfter 11 = .ok (.iconst 1, 1) := by decide +kernel
theorem dX6_answerAfter_12 : decode cX6_answerAfter 12 = .ok (.iadd, 1) := by decide +kernel
theorem dX6_answerAfter_13 : decode cX6_answerAfter 13 = .ok (.invokevirtual 52, 3) := by decide +kernel
theorem dX6_answerAfter_16 : decode cX6_answerAfter 16 = .ok (.istore 6, 2) := by decide +kernel
theorem dX6_answerAfter_18 : decode cX6_answerAfter 18 = .ok (.aload_n 0, 1) := by decide +kernel
theorem dX6_answerAfter_19 : decode cX6_answerAfter 19 = .ok (.getfield 16, 3) := by decide +kernel
theorem dX6_answerAfter_22 : decode cX6_answerAfter 22 = .ok (.iload 5, 2) := by decide +kernel
theorem dX6_answerAfter_24 : decode cX6_answerAfter 24 = .ok (.iconst 2, 1) := by decide +kernel
theorem dX6_answerAfter_25 : decode cX6_answerAfter 25 = .ok (.iadd, 1) := by decide +kernel
theorem dX6_answerAfter_26 : decode cX6_answerAfter 26 = .ok (.invokevirtual 52, 3) := by decide +kernel
theorem dX6_answerAfter_29 : decode cX6_answerAfter 29 = .ok (.istore 7, 2) := by decide +kernel
theorem dX6_answerAfter_31 : decode cX6_answerAfter 31 = .ok (.aload_n 0, 1) := by decide +kernel
theorem dX6_answerAfter_32 : decode cX6_answerAfter 32 = .ok (.getfield 16, 3) := by decide +kernel
theorem dX6_answerAfter_35 : decode cX6_answerAfter 35 = .ok (.iload 5, 2) := by decide +kernel
theorem dX6_answerAfter_37 : decode cX6_answerAfter 37 = .ok (.iconst 3, 1) := by decide +kernel
theorem dX6_answerAfter_38 : decode cX6_answerAfter 38 = .ok (.iadd, 1) := by decide +kernel
theorem dX6_answerAfter_39 : decode cX6_answerAfter 39 = .ok (.invokevirtual 52, 3) := by decide +kernel
theorem dX6_answerAfter_42 : decode cX6_answerAfter 42 = .ok (.iload_n 3, 1) := by decide +kernel
theorem dX6_answerAfter_43 : decode cX6_answerAfter 43 = .ok (.ior, 1) := by decide +kernel
theorem dX6_answerAfter_44 : decode cX6_answerAfter 44 = .ok (.istore 8, 2) := by decide +kernel
theorem dX6_answerAfter_46 : decode cX6_answerAfter 46 = .ok (.iload_n 2, 1) := by decide +kernel
theorem dX6_answerAfter_47 : decode cX6_answerAfter 47 = .ok (.ifCond .ne 8, 3) := by decide +kernel
theorem dX6_answerAfter_50 : decode cX6_answerAfter 50 = .ok (.iload 6, 2) := by decide +kernel
theorem dX6_answerAfter_52 : decode cX6_answerAfter 52 = .ok (.goto 10, 3) := by decide +kernel
theorem dX6_answerAfter_55 : decode cX6_answerAfter 55 = .ok (.iload 6, 2) := by decide +kernel
theorem dX6_answerAfter_57 : decode cX6_answerAfter 57 = .ok (.iload 7, 2) := by decide +kernel
theorem dX6_answerAfter_59 : decode cX6_answerAfter 59 = .ok (.iconst (-1), 1) := by decide +kernel
theorem dX6_answerAfter_60 : decode cX6_answerAfter 60 = .ok (.ixor, 1) := by decide +kernel
theorem dX6_answerAfter_61 : decode cX6_answerAfter 61 = .ok (.iand, 1) := by decide +kernel
theorem dX6_answerAfter_62 : decode cX6_answerAfter 62 = .ok (.istore 9, 2) := by decide +kernel
theorem dX6_answerAfter_64 : decode cX6_answerAfter 64 = .ok (.aload_n 0, 1) := by decide +kernel
theorem dX6_answerAfter_65 : decode cX6_answerAfter 65 = .ok (.getfield 16, 3) := by decide +kernel
theorem dX6_answerAfter_68 : decode cX6_answerAfter 68 = .ok (.iload 5, 2) := by decide +kernel
theorem dX6_answerAfter_70 : decode cX6_answerAfter 70 = .ok (.iconst 0, 1) := by decide +kernel
theorem dX6_answerAfter_71 : decode cX6_answerAfter 71 = .ok (.iadd, 1) := by decide +kernel
theorem dX6_answerAfter_72 : decode cX6_answerAfter 72 = .ok (.invokevirtual 52, 3) := by decide +kernel
theorem dX6_answerAfter_75 : decode cX6_answerAfter 75 = .ok (.tableswitch 97 1 6 #[37, 39, 45, 53, 56, 71], 37) := by decide +kernel
theorem dX6_answerAfter_112 : decode cX6_answerAfter 112 = .ok (.iconst 0, 1) := by decide +kernel
theorem dX6_answerAfter_113 : decode cX6_answerAfter 113 = .ok (.ireturn, 1) := by decide +kernel
theorem dX6_answerAfter_114 : decode cX6_answerAfter 114 = .ok (.iload 6, 2) := by decide +kernel
theorem dX6_answerAfter_116 : decode cX6_answerAfter 116 = .ok (.iload 8, 2) := by decide +kernel
theorem dX6_answerAfter_118 : decode cX6_answerAfter 118 = .ok (.ior, 1) := by decide +kernel
theorem dX6_answerAfter_119 : decode cX6_answerAfter 119 = .ok (.ireturn, 1) := by decide +kernel
theorem dX6_answerAfter_120 : decode cX6_answerAfter 120 = .ok (.iload 6, 2) := by decide +kernel
theorem dX6_answerAfter_122 : decode cX6_answerAfter 122 = .ok (.iload 8, 2) := by decide +kernel
theorem dX6_answerAfter_124 : decode cX6_answerAfter 124 = .ok (.ior, 1) := by decide +kernel
theorem dX6_answerAfter_125 : decode cX6_answerAfter 125 = .ok (.iload_n 2, 1) := by decide +kernel
theorem dX6_answerAfter_126 : decode cX6_answerAfter 126 = .ok (.ior, 1) := by decide +kernel
theorem dX6_answerAfter_127 : decode cX6_answerAfter 127 = .ok (.ireturn, 1) := by decide +kernel
theorem dX6_answerAfter_128 : decode cX6_answerAfter 128 = .ok (.iload 9, 2) := by decide +kernel
theorem dX6_answerAfter_130 : decode cX6_answerAfter 130 = .ok (.ireturn, 1) := by decide +kernel
theorem dX6_answerAfter_131 : decode cX6_answerAfter 131 = .ok (.iload 9, 2) := by decide +kernel
theorem dX6_answerAfter_133 : decode cX6_answerAfter 133 = .ok (.iconst 1, 1) := by decide +kernel
theorem dX6_answerAfter_134 : decode cX6_answerAfter 134 = .ok (.ishl, 1) := by decide +kernel
theorem dX6_answerAfter_135 : decode cX6_answerAfter 135 = .ok (.iload 9, 2) := by decide +kernel
theorem dX6_answerAfter_137 : decode cX6_answerAfter 137 = .ok (.bipush 7, 2) := by decide +kernel
theorem dX6_answerAfter_139 : decode cX6_answerAfter 139 = .ok (.ishr, 1) := by decide +kernel
theorem dX6_answerAfter_140 : decode cX6_answerAfter 140 = .ok (.ior, 1) := by decide +kernel
theorem dX6_answerAfter_141 : decode cX6_answerAfter 141 = .ok (.sipush 255, 3) := by decide +kernel
theorem dX6_answerAfter_144 : decode cX6_answerAfter 144 = .ok (.iand, 1) := by decide +kernel
theorem dX6_answerAfter_145 : decode cX6_answerAfter 145 = .ok (.ireturn, 1) := by decide +kernel
theorem dX6_answerAfter_146 : decode cX6_answerAfter 146 = .ok (.aload_n 0, 1) := by decide +kernel
theorem dX6_answerAfter_147 : decode cX6_answerAfter 147 = .ok (.getfield 16, 3) := by decide +kernel
theorem dX6_answerAfter_150 : decode cX6_answerAfter 150 = .ok (.iload 5, 2) := by decide +kernel
theorem dX6_answerAfter_152 : decode cX6_answerAfter 152 = .ok (.iconst 4, 1) := by decide +kernel
theorem dX6_answerAfter_153 : decode cX6_answerAfter 153 = .ok (.iadd, 1) := by decide +kernel
theorem dX6_answerAfter_154 : decode cX6_answerAfter 154 = .ok (.invokevirtual 52, 3) := by decide +kernel
theorem dX6_answerAfter_157 : decode cX6_answerAfter 157 = .ok (.iload 4, 2) := by decide +kernel
theorem dX6_answerAfter_159 : decode cX6_answerAfter 159 = .ok (.iadd, 1) := by decide +kernel
theorem dX6_answerAfter_160 : decode cX6_answerAfter 160 = .ok (.iload 7, 2) := by decide +kernel
theorem dX6_answerAfter_162 : decode cX6_answerAfter 162 = .ok (.if_icmp .lt 8, 3) := by decide +kernel
theorem dX6_answerAfter_165 : decode cX6_answerAfter 165 = .ok (.iload 6, 2) := by decide +kernel
theorem dX6_answerAfter_167 : decode cX6_answerAfter 167 = .ok (.goto 4, 3) := by decide +kernel
theorem dX6_answerAfter_170 : decode cX6_answerAfter 170 = .ok (.iconst 0, 1) := by decide +kernel
theorem dX6_answerAfter_171 : decode cX6_answerAfter 171 = .ok (.ireturn, 1) := by decide +kernel
theorem dX6_answerAfter_172 : decode cX6_answerAfter 172 = .ok (.iload 6, 2) := by decide +kernel
theorem dX6_answerAfter_174 : decode cX6_answerAfter 174 = .ok (.ireturn, 1) := by decide +kernel
theorem dX6_visit_0 : decode cX6_visit 0 = .ok (.aload_n 0, 1) := by decide +kernel
theorem dX6_visit_1 : decode cX6_visit 1 = .ok (.invokevirtual 86, 3) := by decide +kernel
theorem dX6_visit_4 : decode cX6_visit 4 = .ok (.istore_n 2, 1) := by decide +kernel
theorem dX6_visit_5 : decode cX6_visit 5 = .ok (.aload_n 0, 1) := by decide +kernel
theorem dX6_visit_6 : decode cX6_visit 6 = .ok (.iload_n 1, 1) := by decide +kernel
theorem dX6_visit_7 : decode cX6_visit 7 = .ok (.iload_n 2, 1) := by decide +kernel
theorem dX6_visit_8 : decode cX6_visit 8 = .ok (.iconst 0, 1) := by decide +kernel
theorem dX6_visit_9 : decode cX6_visit 9 = .ok (.iconst 0, 1) := by decide +kernel
theorem dX6_visit_10 : decode cX6_visit 10 = .ok (.invokevirtual 82, 3) := by decide +kernel
theorem dX6_visit_13 : decode cX6_visit 13 = .ok (.istore_n 3, 1) := by decide +kernel
theorem dX6_visit_14 : decode cX6_visit 14 = .ok (.aload_n 0, 1) := by decide +kernel
theorem dX6_visit_15 : decode cX6_visit 15 = .ok (.iload_n 1, 1) := by decide +kernel
theorem dX6_visit_16 : decode cX6_visit 16 = .ok (.iconst 3, 1) := by decide +kernel
theorem dX6_visit_17 : decode cX6_visit 17 = .ok (.aload_n 0, 1) := by decide +kernel
theorem dX6_visit_18 : decode cX6_visit 18 = .ok (.iload_n 1, 1) := by decide +kernel
theorem dX6_visit_19 : decode cX6_visit 19 = .ok (.iconst 3, 1) := by decide +kernel
theorem dX6_visit_20 : decode cX6_visit 20 = .ok (.invokevirtual 74, 3) := by decide +kernel
theorem dX6_visit_23 : decode cX6_visit 23 = .ok (.iload_n 2, 1) := by decide +kernel
theorem dX6_visit_24 : decode cX6_visit 24 = .ok (.ior, 1) := by decide +kernel
theorem dX6_visit_25 : decode cX6_visit 25 = .ok (.invokevirtual 60, 3) := by decide +kernel
theorem dX6_visit_28 : decode cX6_visit 28 = .ok (.aload_n 0, 1) := by decide +kernel
theorem dX6_visit_29 : decode cX6_visit 29 = .ok (.iload_n 1, 1) := by decide +kernel
theorem dX6_visit_30 : decode cX6_visit 30 = .ok (.iconst 4, 1) := by decide +kernel
theorem dX6_visit_31 : decode cX6_visit 31 = .ok (.aload_n 0, 1) := by decide +kernel
theorem dX6_visit_32 : decode cX6_visit 32 = .ok (.iload_n 1, 1) := by decide +kernel
theorem dX6_visit_33 : decode cX6_visit 33 = .ok (.iconst 4, 1) := by decide +kernel
theorem dX6_visit_34 : decode cX6_visit 34 = .ok (.invokevirtual 74, 3) := by decide +kernel
theorem dX6_visit_37 : decode cX6_visit 37 = .ok (.iconst 1, 1) := by decide +kernel
theorem dX6_visit_38 : decode cX6_visit 38 = .ok (.iadd, 1) := by decide +kernel
theorem dX6_visit_39 : decode cX6_visit 39 = .ok (.invokevirtual 60, 3) := by decide +kernel
theorem dX6_visit_42 : decode cX6_visit 42 = .ok (.iconst 2, 1) := by decide +kernel
theorem dX6_visit_43 : decode cX6_visit 43 = .ok (.istore 4, 2) := by decide +kernel
theorem dX6_visit_45 : decode cX6_visit 45 = .ok (.iload 4, 2) := by decide +kernel
theorem dX6_visit_47 : decode cX6_visit 47 = .ok (.ifCond .le 29, 3) := by decide +kernel
theorem dX6_visit_50 : decode cX6_visit 50 = .ok (.aload_n 0, 1) := by decide +kernel
theorem dX6_visit_51 : decode cX6_visit 51 = .ok (.getfield 23, 3) := by decide +kernel
theorem dX6_visit_54 : decode cX6_visit 54 = .ok (.iload 4, 2) := by decide +kernel
theorem dX6_visit_56 : decode cX6_visit 56 = .ok (.aload_n 0, 1) := by decide +kernel
theorem dX6_visit_57 : decode cX6_visit 57 = .ok (.getfield 23, 3) := by decide +kernel
theorem dX6_visit_60 : decode cX6_visit 60 = .ok (.iload 4, 2) := by decide +kernel
theorem dX6_visit_62 : decode cX6_visit 62 = .ok (.iconst 1, 1) := by decide +kernel
theorem dX6_visit_63 : decode cX6_visit 63 = .ok (.isub, 1) := by decide +kernel
theorem dX6_visit_64 : decode cX6_visit 64 = .ok (.invokevirtual 52, 3) := by decide +kernel
theorem dX6_visit_67 : decode cX6_visit 67 = .ok (.invokevirtual 56, 3) := by decide +kernel
theorem dX6_visit_70 : decode cX6_visit 70 = .ok (.iinc 4 (-1), 3) := by decide +kernel
theorem dX6_visit_73 : decode cX6_visit 73 = .ok (.goto (-28), 3) := by decide +kernel
theorem dX6_visit_76 : decode cX6_visit 76 = .ok (.aload_n 0, 1) := by decide +kernel
theorem dX6_visit_77 : decode cX6_visit 77 = .ok (.getfield 23, 3) := by decide +kernel
theorem dX6_visit_80 : decode cX6_visit 80 = .ok (.iconst 0, 1) := by decide +kernel
theorem dX6_visit_81 : decode cX6_visit 81 = .ok (.iload_n 3, 1) := by decide +kernel
theorem dX6_visit_82 : decode cX6_visit 82 = .ok (.invokevirtual 56, 3) := by decide +kernel
theorem dX6_visit_85 : decode cX6_visit 85 = .ok (.aload_n 0, 1) := by decide +kernel
theorem dX6_visit_86 : decode cX6_visit 86 = .ok (.iload_n 1, 1) := by decide +kernel
theorem dX6_visit_87 : decode cX6_visit 87 = .ok (.putfield 30, 3) := by decide +kernel
theorem dX6_visit_90 : decode cX6_visit 90 = .ok (.aload_n 0, 1) := by decide +kernel
theorem dX6_visit_91 : decode cX6_visit 91 = .ok (.dup, 1) := by decide +kernel
theorem dX6_visit_92 : decode cX6_visit 92 = .ok (.getfield 49, 3) := by decide +kernel
theorem dX6_visit_95 : decode cX6_visit 95 = .ok (.iconst 1, 1) := by decide +kernel
theorem dX6_visit_96 : decode cX6_visit 96 = .ok (.iadd, 1) := by decide +kernel
theorem dX6_visit_97 : decode cX6_visit 97 = .ok (.putfield 49, 3) := by decide +kernel
theorem dX6_visit_100 : decode cX6_visit 100 = .ok (.iload_n 2, 1) := by decide +kernel
theorem dX6_visit_101 : decode cX6_visit 101 = .ok (.ireturn, 1) := by decide +kernel
theorem dX6_isOpen_0 : decode cX6_isOpen 0 = .ok (.aload_n 0, 1) := by decide +kernel
theorem dX6_isOpen_1 : decode cX6_isOpen 1 = .ok (.iload_n 1, 1) := by decide +kernel
theorem dX6_isOpen_2 : decode cX6_isOpen 2 = .ok (.invokevirtual 90, 3) := by decide +kernel
theorem dX6_isOpen_5 : decode cX6_isOpen 5 = .ok (.ifCond .eq 16, 3) := by decide +kernel
theorem dX6_isOpen_8 : decode cX6_isOpen 8 = .ok (.aload_n 0, 1) := by decide +kernel
theorem dX6_isOpen_9 : decode cX6_isOpen 9 = .ok (.iload_n 1, 1) := by decide +kernel
theorem dX6_isOpen_10 : decode cX6_isOpen 10 = .ok (.iconst 3, 1) := by decide +kernel
theorem dX6_isOpen_11 : decode cX6_isOpen 11 = .ok (.invokevirtual 67, 3) := by decide +kernel
theorem dX6_isOpen_14 : decode cX6_isOpen 14 = .ok (.ifCond .ne 7, 3) := by decide +kernel
theorem dX6_isOpen_17 : decode cX6_isOpen 17 = .ok (.iconst 1, 1) := by decide +kernel
theorem dX6_isOpen_18 : decode cX6_isOpen 18 = .ok (.goto 4, 3) := by decide +kernel
theorem dX6_isOpen_21 : decode cX6_isOpen 21 = .ok (.iconst 0, 1) := by decide +kernel
theorem dX6_isOpen_22 : decode cX6_isOpen 22 = .ok (.ireturn, 1) := by decide +kernel
theorem dX6_isOpenAt_0 : decode cX6_isOpenAt 0 = .ok (.aload_n 0, 1) := by decide +kernel
theorem dX6_isOpenAt_1 : decode cX6_isOpenAt 1 = .ok (.iload_n 1, 1) := by decide +kernel
theorem dX6_isOpenAt_2 : decode cX6_isOpenAt 2 = .ok (.iconst 0, 1) := by decide +kernel
theorem dX6_isOpenAt_3 : decode cX6_isOpenAt 3 = .ok (.invokevirtual 67, 3) := by decide +kernel
theorem dX6_isOpenAt_6 : decode cX6_isOpenAt 6 = .ok (.iload_n 2, 1) := by decide +kernel
theorem dX6_isOpenAt_7 : decode cX6_isOpenAt 7 = .ok (.if_icmp .eq 13, 3) := by decide +kernel
theorem dX6_isOpenAt_10 : decode cX6_isOpenAt 10 = .ok (.aload_n 0, 1) := by decide +kernel
theorem dX6_isOpenAt_11 : decode cX6_isOpenAt 11 = .ok (.iload_n 1, 1) := by decide +kernel
theorem dX6_isOpenAt_12 : decode cX6_isOpenAt 12 = .ok (.iconst 1, 1) := by decide +kernel
theorem dX6_isOpenAt_13 : decode cX6_isOpenAt 13 = .ok (.invokevirtual 67, 3) := by decide +kernel
theorem dX6_isOpenAt_16 : decode cX6_isOpenAt 16 = .ok (.iload_n 2, 1) := by decide +kernel
theorem dX6_isOpenAt_17 : decode cX6_isOpenAt 17 = .ok (.if_icmp .ne 7, 3) := by decide +kernel
theorem dX6_isOpenAt_20 : decode cX6_isOpenAt 20 = .ok (.iconst 1, 1) := by decide +kernel
theorem dX6_isOpenAt_21 : decode cX6_isOpenAt 21 = .ok (.goto 4, 3) := by decide +kernel
theorem dX6_isOpenAt_24 : decode cX6_isOpenAt 24 = .ok (.iconst 0, 1) := by decide +kernel
theorem dX6_isOpenAt_25 : decode cX6_isOpenAt 25 = .ok (.istore_n 3, 1) := by decide +kernel
theorem dX6_isOpenAt_26 : decode cX6_isOpenAt 26 = .ok (.aload_n 0, 1) := by decide +kernel
theorem dX6_isOpenAt_27 : decode cX6_isOpenAt 27 = .ok (.iload_n 1, 1) := by decide +kernel
theorem dX6_isOpenAt_28 : decode cX6_isOpenAt 28 = .ok (.invokevirtual 90, 3) := by decide +kernel
theorem dX6_isOpenAt_31 : decode cX6_isOpenAt 31 = .ok (.ifCond .eq 20, 3) := by decide +kernel
theorem dX6_isOpenAt_34 : decode cX6_isOpenAt 34 = .ok (.iload_n 3, 1) := by decide +kernel
theorem dX6_isOpenAt_35 : decode cX6_isOpenAt 35 = .ok (.ifCond .eq 16, 3) := by decide +kernel
theorem dX6_isOpenAt_38 : decode cX6_isOpenAt 38 = .ok (.aload_n 0, 1) := by decide +kernel
theorem dX6_isOpenAt_39 : decode cX6_isOpenAt 39 = .ok (.iload_n 1, 1) := by decide +kernel
theorem dX6_isOpenAt_40 : decode cX6_isOpenAt 40 = .ok (.iconst 3, 1) := by decide +kernel
theorem dX6_isOpenAt_41 : decode cX6_isOpenAt 41 = .ok (.invokevirtual 67, 3) := by decide +kernel
theorem dX6_isOpenAt_44 : decode cX6_isOpenAt 44 = .ok (.ifCond .ne 7, 3) := by decide +kernel
theorem dX6_isOpenAt_47 : decode cX6_isOpenAt 47 = .ok (.iconst 1, 1) := by decide +kernel
theorem dX6_isOpenAt_48 : decode cX6_isOpenAt 48 = .ok (.goto 4, 3) := by decide +kernel
theorem dX6_isOpenAt_51 : decode cX6_isOpenAt 51 = .ok (.iconst 0, 1) := by decide +kernel
theorem dX6_isOpenAt_52 : decode cX6_isOpenAt 52 = .ok (.ireturn, 1) := by decide +kernel
theorem dX6_canGoBy_0 : decode cX6_canGoBy 0 = .ok (.aload_n 0, 1) := by decide +kernel
theorem dX6_canGoBy_1 : decode cX6_canGoBy 1 = .ok (.invokevirtual 94, 3) := by decide +kernel
theorem dX6_canGoBy_4 : decode cX6_canGoBy 4 = .ok (.ifCond .eq 19, 3) := by decide +kernel
theorem dX6_canGoBy_7 : decode cX6_canGoBy 7 = .ok (.aload_n 0, 1) := by decide +kernel
theorem dX6_canGoBy_8 : decode cX6_canGoBy 8 = .ok (.iload_n 1, 1) := by decide +kernel
theorem dX6_canGoBy_9 : decode cX6_canGoBy 9 = .ok (.aload_n 0, 1) := by decide +kernel
theorem dX6_canGoBy_10 : decode cX6_canGoBy 10 = .ok (.getfield 30, 3) := by decide +kernel
theorem dX6_canGoBy_13 : decode cX6_canGoBy 13 = .ok (.invokevirtual 98, 3) := by decide +kernel
theorem dX6_canGoBy_16 : decode cX6_canGoBy 16 = .ok (.ifCond .eq 7, 3) := by decide +kernel
theorem dX6_canGoBy_19 : decode cX6_canGoBy 19 = .ok (.iconst 1, 1) := by decide +kernel
theorem dX6_canGoBy_20 : decode cX6_canGoBy 20 = .ok (.goto 4, 3) := by decide +kernel
theorem dX6_canGoBy_23 : decode cX6_canGoBy 23 = .ok (.iconst 0, 1) := by decide +kernel
theorem dX6_canGoBy_24 : decode cX6_canGoBy 24 = .ok (.ireturn, 1) := by decide +kernel
theorem dX6_goBy_0 : decode cX6_goBy 0 = .ok (.aload_n 0, 1) := by decide +kernel
theorem dX6_goBy_1 : decode cX6_goBy 1 = .ok (.dup, 1) := by decide +kernel
theorem dX6_goBy_2 : decode cX6_goBy 2 = .ok (.getfield 46, 3) := by decide +kernel
theorem dX6_goBy_5 : decode cX6_goBy 5 = .ok (.aload_n 0, 1) := by decide +kernel
theorem dX6_goBy_6 : decode cX6_goBy 6 = .ok (.iload_n 1, 1) := by decide +kernel
theorem dX6_goBy_7 : decode cX6_goBy 7 = .ok (.iconst 2, 1) := by decide +kernel
theorem dX6_goBy_8 : decode cX6_goBy 8 = .ok (.invokevirtual 67, 3) := by decide +kernel
theorem dX6_goBy_11 : decode cX6_goBy 11 = .ok (.iadd, 1) := by decide +kernel
theorem dX6_goBy_12 : decode cX6_goBy 12 = .ok (.putfield 46, 3) := by decide +kernel
theorem dX6_goBy_15 : decode cX6_goBy 15 = .ok (.aload_n 0, 1) := by decide +kernel
theorem dX6_goBy_16 : decode cX6_goBy 16 = .ok (.aload_n 0, 1) := by decide +kernel
theorem dX6_goBy_17 : decode cX6_goBy 17 = .ok (.iload_n 1, 1) := by decide +kernel
theorem dX6_goBy_18 : decode cX6_goBy 18 = .ok (.iconst 0, 1) := by decide +kernel
theorem dX6_goBy_19 : decode cX6_goBy 19 = .ok (.invokevirtual 67, 3) := by decide +kernel
theorem dX6_goBy_22 : decode cX6_goBy 22 = .ok (.aload_n 0, 1) := by decide +kernel
theorem dX6_goBy_23 : decode cX6_goBy 23 = .ok (.getfield 30, 3) := by decide +kernel
theorem dX6_goBy_26 : decode cX6_goBy 26 = .ok (.if_icmp .ne 12, 3) := by decide +kernel
theorem dX6_goBy_29 : decode cX6_goBy 29 = .ok (.aload_n 0, 1) := by decide +kernel
theorem dX6_goBy_30 : decode cX6_goBy 30 = .ok (.iload_n 1, 1) := by decide +kernel
theorem dX6_goBy_31 : decode cX6_goBy 31 = .ok (.iconst 1, 1) := by decide +kernel
theorem dX6_goBy_32 : decode cX6_goBy 32 = .ok (.invokevirtual 67, 3) := by decide +kernel
theorem dX6_goBy_35 : decode cX6_goBy 35 = .ok (.goto 9, 3) := by decide +kernel
theorem dX6_goBy_38 : decode cX6_goBy 38 = .ok (.aload_n 0, 1) := by decide +kernel
theorem dX6_goBy_39 : decode cX6_goBy 39 = .ok (.iload_n 1, 1) := by decide +kernel
theorem dX6_goBy_40 : decode cX6_goBy 40 = .ok (.iconst 0, 1) := by decide +kernel
theorem dX6_goBy_41 : decode cX6_goBy 41 = .ok (.invokevirtual 67, 3) := by decide +kernel
theorem dX6_goBy_44 : decode cX6_goBy 44 = .ok (.invokevirtual 102, 3) := by decide +kernel
theorem dX6_goBy_47 : decode cX6_goBy 47 = .ok (.ireturn, 1) := by decide +kernel
theorem dX6_openWays_0 : decode cX6_openWays 0 = .ok (.iconst 0, 1) := by decide +kernel
theorem dX6_openWays_1 : decode cX6_openWays 1 = .ok (.istore_n 1, 1) := by decide +kernel
theorem dX6_openWays_2 : decode cX6_openWays 2 = .ok (.iconst 0, 1) := by decide +kernel
theorem dX6_openWays_3 : decode cX6_openWays 3 = .ok (.istore_n 2, 1) := by decide +kernel
theorem dX6_openWays_4 : decode cX6_openWays 4 = .ok (.iload_n 2, 1) := by decide +kernel
theorem dX6_openWays_5 : decode cX6_openWays 5 = .ok (.bipush 12, 2) := by decide +kernel
theorem dX6_openWays_7 : decode cX6_openWays 7 = .ok (.if_icmp .ge 23, 3) := by decide +kernel
theorem dX6_openWays_10 : decode cX6_openWays 10 = .ok (.aload_n 0, 1) := by decide +kernel
theorem dX6_openWays_11 : decode cX6_openWays 11 = .ok (.iload_n 2, 1) := by decide +kernel
theorem dX6_openWays_12 : decode cX6_openWays 12 = .ok (.invokevirtual 105, 3) := by decide +kernel
theorem dX6_openWays_15 : decode cX6_openWays 15 = .ok (.ifCond .eq 9, 3) := by decide +kernel
theorem dX6_openWays_18 : decode cX6_openWays 18 = .ok (.iload_n 1, 1) := by decide +kernel
theorem dX6_openWays_19 : decode cX6_openWays 19 = .ok (.iconst 1, 1) := by decide +kernel
theorem dX6_openWays_20 : decode cX6_openWays 20 = .ok (.iload_n 2, 1) := by decide +kernel
theorem dX6_openWays_21 : decode cX6_openWays 21 = .ok (.ishl, 1) := by decide +kernel
theorem dX6_openWays_22 : decode cX6_openWays 22 = .ok (.ior, 1) := by decide +kernel
theorem dX6_openWays_23 : decode cX6_openWays 23 = .ok (.istore_n 1, 1) := by decide +kernel
theorem dX6_openWays_24 : decode cX6_openWays 24 = .ok (.iinc 2 1, 3) := by decide +kernel
theorem dX6_openWays_27 : decode cX6_openWays 27 = .ok (.goto (-23), 3) := by decide +kernel
theorem dX6_openWays_30 : decode cX6_openWays 30 = .ok (.iload_n 1, 1) := by decide +kernel
theorem dX6_openWays_31 : decode cX6_openWays 31 = .ok (.ireturn, 1) := by decide +kernel
theorem dX6_openWaysAt_0 : decode cX6_openWaysAt 0 = .ok (.iconst 0, 1) := by decide +kernel
theorem dX6_openWaysAt_1 : decode cX6_openWaysAt 1 = .ok (.istore_n 2, 1) := by decide +kernel
theorem dX6_openWaysAt_2 : decode cX6_openWaysAt 2 = .ok (.iconst 0, 1) := by decide +kernel
theorem dX6_openWaysAt_3 : decode cX6_openWaysAt 3 = .ok (.istore_n 3, 1) := by decide +kernel
theorem dX6_openWaysAt_4 : decode cX6_openWaysAt 4 = .ok (.iload_n 3, 1) := by decide +kernel
theorem dX6_openWaysAt_5 : decode cX6_openWaysAt 5 = .ok (.bipush 12, 2) := by decide +kernel
theorem dX6_openWaysAt_7 : decode cX6_openWaysAt 7 = .ok (.if_icmp .ge 21, 3) := by decide +kernel
theorem dX6_openWaysAt_10 : decode cX6_openWaysAt 10 = .ok (.aload_n 0, 1) := by decide +kernel
theorem dX6_openWaysAt_11 : decode cX6_openWaysAt 11 = .ok (.iload_n 3, 1) := by decide +kernel
theorem dX6_openWaysAt_12 : decode cX6_openWaysAt 12 = .ok (.iload_n 1, 1) := by decide +kernel
theorem dX6_openWaysAt_13 : decode cX6_openWaysAt 13 = .ok (.invokevirtual 98, 3) := by decide +kernel
theorem dX6_openWaysAt_16 : decode cX6_openWaysAt 16 = .ok (.ifCond .eq 6, 3) := by decide +kernel
theorem dX6_openWaysAt_19 : decode cX6_openWaysAt 19 = .ok (.iinc 2 1, 3) := by decide +kernel
theorem dX6_openWaysAt_22 : decode cX6_openWaysAt 22 = .ok (.iinc 3 1, 3) := by decide +kernel
theorem dX6_openWaysAt_25 : decode cX6_openWaysAt 25 = .ok (.goto (-21), 3) := by decide +kernel
theorem dX6_openWaysAt_28 : decode cX6_openWaysAt 28 = .ok (.iload_n 2, 1) := by decide +kernel
theorem dX6_openWaysAt_29 : decode cX6_openWaysAt 29 = .ok (.ireturn, 1) := by decide +kernel
theorem dX6_openWaysBetween_0 : decode cX6_openWaysBetween 0 = .ok (.iconst 0, 1) := by decide +kernel
theorem dX6_openWaysBetween_1 : decode cX6_openWaysBetween 1 = .ok (.istore_n 3, 1) := by decide +kernel
theorem dX6_openWaysBetween_2 : decode cX6_openWaysBetween 2 = .ok (.iconst 0, 1) := by decide +kernel
theorem dX6_openWaysBetween_3 : decode cX6_openWaysBetween 3 = .ok (.istore 4, 2) := by decide +kernel
theorem dX6_openWaysBetween_5 : decode cX6_openWaysBetween 5 = .ok (.iload 4, 2) := by decide +kernel
theorem dX6_openWaysBetween_7 : decode cX6_openWaysBetween 7 = .ok (.bipush 12, 2) := by decide +kernel
theorem dX6_openWaysBetween_9 : decode cX6_openWaysBetween 9 = .ok (.if_icmp .ge 32, 3) := by decide +kernel
theorem dX6_openWaysBetween_12 : decode cX6_openWaysBetween 12 = .ok (.aload_n 0, 1) := by decide +kernel
theorem dX6_openWaysBetween_13 : decode cX6_openWaysBetween 13 = .ok (.iload 4, 2) := by decide +kernel
theorem dX6_openWaysBetween_15 : decode cX6_openWaysBetween 15 = .ok (.iload_n 1, 1) := by decide +kernel
theorem dX6_openWaysBetween_16 : decode cX6_openWaysBetween 16 = .ok (.invokevirtual 98, 3) := by decide +kernel
theorem dX6_openWaysBetween_19 : decode cX6_openWaysBetween 19 = .ok (.ifCond .eq 16, 3) := by decide +kernel
theorem dX6_openWaysBetween_22 : decode cX6_openWaysBetween 22 = .ok (.aload_n 0, 1) := by decide +kernel
theorem dX6_openWaysBetween_23 : decode cX6_openWaysBetween 23 = .ok (.iload 4, 2) := by decide +kernel
theorem dX6_openWaysBetween_25 : decode cX6_openWaysBetween 25 = .ok (.iload_n 2, 1) := by decide +kernel
theorem dX6_openWaysBetween_26 : decode cX6_openWaysBetween 26 = .ok (.invokevirtual 98, 3) := by decide +kernel
theorem dX6_openWaysBetween_29 : decode cX6_openWaysBetween 29 = .ok (.ifCond .eq 6, 3) := by decide +kernel
theorem dX6_openWaysBetween_32 : decode cX6_openWaysBetween 32 = .ok (.iinc 3 1, 3) := by decide +kernel
theorem dX6_openWaysBetween_35 : decode cX6_openWaysBetween 35 = .ok (.iinc 4 1, 3) := by decide +kernel
theorem dX6_openWaysBetween_38 : decode cX6_openWaysBetween 38 = .ok (.goto (-33), 3) := by decide +kernel
theorem dX6_openWaysBetween_41 : decode cX6_openWaysBetween 41 = .ok (.iload_n 3, 1) := by decide +kernel
theorem dX6_openWaysBetween_42 : decode cX6_openWaysBetween 42 = .ok (.ireturn, 1) := by decide +kernel
theorem dX6_count_0 : decode cX6_count 0 = .ok (.iload_n 1, 1) := by decide +kernel
theorem dX6_count_1 : decode cX6_count 1 = .ok (.tableswitch 86 0 6 #[43, 48, 53, 66, 71, 76, 81], 43) := by decide +kernel
theorem dX6_count_44 : decode cX6_count 44 = .ok (.aload_n 0, 1) := by decide +kernel
theorem dX6_count_45 : decode cX6_count 45 = .ok (.getfield 40, 3) := by decide +kernel
theorem dX6_count_48 : decode cX6_count 48 = .ok (.ireturn, 1) := by decide +kernel
theorem dX6_count_49 : decode cX6_count 49 = .ok (.aload_n 0, 1) := by decide +kernel
theorem dX6_count_50 : decode cX6_count 50 = .ok (.getfield 43, 3) := by decide +kernel
theorem dX6_count_53 : decode cX6_count 53 = .ok (.ireturn, 1) := by decide +kernel
theorem dX6_count_54 : decode cX6_count 54 = .ok (.aload_n 0, 1) := by decide +kernel
theorem dX6_count_55 : decode cX6_count 55 = .ok (.getfield 43, 3) := by decide +kernel
theorem dX6_count_58 : decode cX6_count 58 = .ok (.aload_n 0, 1) := by decide +kernel
theorem dX6_count_59 : decode cX6_count 59 = .ok (.invokevirtual 120, 3) := by decide +kernel
theorem dX6_count_62 : decode cX6_count 62 = .ok (.invokestatic 115, 3) := by decide +kernel
theorem dX6_count_65 : decode cX6_count 65 = .ok (.isub, 1) := by decide +kernel
theorem dX6_count_66 : decode cX6_count 66 = .ok (.ireturn, 1) := by decide +kernel
theorem dX6_count_67 : decode cX6_count 67 = .ok (.aload_n 0, 1) := by decide +kernel
theorem dX6_count_68 : decode cX6_count 68 = .ok (.getfield 26, 3) := by decide +kernel
theorem dX6_count_71 : decode cX6_count 71 = .ok (.ireturn, 1) := by decide +kernel
theorem dX6_count_72 : decode cX6_count 72 = .ok (.aload_n 0, 1) := by decide +kernel
theorem dX6_count_73 : decode cX6_count 73 = .ok (.getfield 46, 3) := by decide +kernel
theorem dX6_count_76 : decode cX6_count 76 = .ok (.ireturn, 1) := by decide +kernel
theorem dX6_count_77 : decode cX6_count 77 = .ok (.aload_n 0, 1) := by decide +kernel
theorem dX6_count_78 : decode cX6_count 78 = .ok (.getfield 49, 3) := by decide +kernel
theorem dX6_count_81 : decode cX6_count 81 = .ok (.ireturn, 1) := by decide +kernel
theorem dX6_count_82 : decode cX6_count 82 = .ok (.aload_n 0, 1) := by decide +kernel
theorem dX6_count_83 : decode cX6_count 83 = .ok (.getfield 33, 3) := by decide +kernel
theorem dX6_count_86 : decode cX6_count 86 = .ok (.ireturn, 1) := by decide +kernel
theorem dX6_count_87 : decode cX6_count 87 = .ok (.iconst (-1), 1) := by decide +kernel
theorem dX6_count_88 : decode cX6_count 88 = .ok (.ireturn, 1) := by decide +kernel
theorem dX7_init_0 : decode cX7_init 0 = .ok (.aload_n 0, 1) := by decide +kernel
theorem dX7_init_1 : decode cX7_init 1 = .ok (.invokespecial 5, 3) := by decide +kernel
theorem dX7_init_4 : decode cX7_init 4 = .ok (.aload_n 0, 1) := by decide +kernel
theorem dX7_init_5 : decode cX7_init 5 = .ok (.aload_n 1, 1) := by decide +kernel
theorem dX7_init_6 : decode cX7_init 6 = .ok (.putfield 11, 3) := by decide +kernel
theorem dX7_init_9 : decode cX7_init 9 = .ok (.aload_n 0, 1) := by decide +kernel
theorem dX7_init_10 : decode cX7_init 10 = .ok (.new 17, 3) := by decide +kernel
theorem dX7_init_13 : decode cX7_init 13 = .ok (.dup, 1) := by decide +kernel
theorem dX7_init_14 : decode cX7_init 14 = .ok (.bipush 64, 2) := by decide +kernel
theorem dX7_init_16 : decode cX7_init 16 = .ok (.invokespecial 19, 3) := by decide +kernel
theorem dX7_init_19 : decode cX7_init 19 = .ok (.putfield 22, 3) := by decide +kernel
theorem dX7_init_22 : decode cX7_init 22 = .ok (.aload_n 0, 1) := by decide +kernel
theorem dX7_init_23 : decode cX7_init 23 = .ok (.new 17, 3) := by decide +kernel
theorem dX7_init_26 : decode cX7_init 26 = .ok (.dup, 1) := by decide +kernel
theorem dX7_init_27 : decode cX7_init 27 = .ok (.bipush 40, 2) := by decide +kernel
theorem dX7_init_29 : decode cX7_init 29 = .ok (.invokespecial 19, 3) := by decide +kernel
theorem dX7_init_32 : decode cX7_init 32 = .ok (.putfield 26, 3) := by decide +kernel
theorem dX7_init_35 : decode cX7_init 35 = .ok (.aload_n 0, 1) := by decide +kernel
theorem dX7_init_36 : decode cX7_init 36 = .ok (.new 17, 3) := by decide +kernel
theorem dX7_init_39 : decode cX7_init 39 = .ok (.dup, 1) := by decide +kernel
theorem dX7_init_40 : decode cX7_init 40 = .ok (.bipush 40, 2) := by decide +kernel
theorem dX7_init_42 : decode cX7_init 42 = .ok (.invokespecial 19, 3) := by decide +kernel
theorem dX7_init_45 : decode cX7_init 45 = .ok (.putfield 29, 3) := by decide +kernel
theorem dX7_init_48 : decode cX7_init 48 = .ok (.aload_n 0, 1) := by decide +kernel
theorem dX7_init_49 : decode cX7_init 49 = .ok (.new 17, 3) := by decide +kernel
theorem dX7_init_52 : decode cX7_init 52 = .ok (.dup, 1) := by decide +kernel
theorem dX7_init_53 : decode cX7_init 53 = .ok (.bipush 43, 2) := by decide +kernel
theorem dX7_init_55 : decode cX7_init 55 = .ok (.invokespecial 19, 3) := by decide +kernel
theorem dX7_init_58 : decode cX7_init 58 = .ok (.putfield 32, 3) := by decide +kernel
theorem dX7_init_61 : decode cX7_init 61 = .ok (.aload_n 0, 1) := by decide +kernel
theorem dX7_init_62 : decode cX7_init 62 = .ok (.new 17, 3) := by decide +kernel
theorem dX7_init_65 : decode cX7_init 65 = .ok (.dup, 1) := by decide +kernel
theorem dX7_init_66 : decode cX7_init 66 = .ok (.bipush 41, 2) := by decide +kernel
theorem dX7_init_68 : decode cX7_init 68 = .ok (.invokespecial 19, 3) := by decide +kernel
theorem dX7_init_71 : decode cX7_init 71 = .ok (.putfield 35, 3) := by decide +kernel
theorem dX7_init_74 : decode cX7_init 74 = .ok (.return_, 1) := by decide +kernel
theorem dX7_begin_0 : decode cX7_begin 0 = .ok (.aload_n 0, 1) := by decide +kernel
theorem dX7_begin_1 : decode cX7_begin 1 = .ok (.iconst 0, 1) := by decide +kernel
theorem dX7_begin_2 : decode cX7_begin 2 = .ok (.invokevirtual 38, 3) := by decide +kernel
theorem dX7_begin_5 : decode cX7_begin 5 = .ok (.return_, 1) := by decide +kernel
theorem dX7_beginWithout_0 : decode cX7_beginWithout 0 = .ok (.aload_n 0, 1) := by decide +kernel
theorem dX7_beginWithout_1 : decode cX7_beginWithout 1 = .ok (.iconst 0, 1) := by decide +kernel
theorem dX7_beginWithout_2 : decode cX7_beginWithout 2 = .ok (.putfield 41, 3) := by decide +kernel
theorem dX7_beginWithout_5 : decode cX7_beginWithout 5 = .ok (.aload_n 0, 1) := by decide +kernel
theorem dX7_beginWithout_6 : decode cX7_beginWithout 6 = .ok (.aload_n 0, 1) := by decide +kernel
theorem dX7_beginWithout_7 : decode cX7_beginWithout 7 = .ok (.getfield 11, 3) := by decide +kernel
theorem dX7_beginWithout_10 : decode cX7_beginWithout 10 = .ok (.invokevirtual 45, 3) := by decide +kernel
theorem dX7_beginWithout_13 : decode cX7_beginWithout 13 = .ok (.putfield 49, 3) := by decide +kernel
theorem dX7_beginWithout_16 : decode cX7_beginWithout 16 = .ok (.iconst 0, 1) := by decide +kernel
theorem dX7_beginWithout_17 : decode cX7_beginWithout 17 = .ok (.istore_n 2, 1) := by decide +kernel
theorem dX7_beginWithout_18 : decode cX7_beginWithout 18 = .ok (.iload_n 2, 1) := by decide +kernel
theorem dX7_beginWithout_19 : decode cX7_beginWithout 19 = .ok (.iconst 3, 1) := by decide +kernel
theorem dX7_beginWithout_20 : decode cX7_beginWithout 20 = .ok (.if_icmp .ge 27, 3) := by decide +kernel
theorem dX7_beginWithout_23 : decode cX7_beginWithout 23 = .ok (.aload_n 0, 1) := by decide +kernel
theorem dX7_beginWithout_24 : decode cX7_beginWithout 24 = .ok (.getfield 32, 3) := by decide +kernel
theorem dX7_beginWithout_27 : decode cX7_beginWithout 27 = .ok (.iconst 2, 1) := by decide +kernel
theorem dX7_beginWithout_28 : decode cX7_beginWithout 28 = .ok (.iload_n 2, 1) := by decide +kernel
theorem dX7_beginWithout_29 : decode cX7_beginWithout 29 = .ok (.isub, 1) := by decide +kernel
theorem dX7_beginWithout_30 : decode cX7_beginWithout 30 = .ok (.aload_n 0, 1) := by decide +kernel
theorem dX7_beginWithout_31 : decode cX7_beginWithout 31 = .ok (.getfield 11, 3) := by decide +kernel
theorem dX7_beginWithout_34 : decode cX7_beginWithout 34 = .ok (.iload_n 2, 1) := by decide +kernel
theorem dX7_beginWithout_35 : decode cX7_beginWithout 35 = .ok (.invokevirtual 52, 3) := by decide +kernel
theorem dX7_beginWithout_38 : decode cX7_beginWithout 38 = .ok (.invokevirtual 56, 3) := by decide +kernel
theorem dX7_beginWithout_41 : decode cX7_beginWithout 41 = .ok (.iinc 2 1, 3) := by decide +kernel
theorem dX7_beginWithout_44 : decode cX7_beginWithout 44 = .ok (.goto (-26), 3) := by decide +kernel
theorem dX7_beginWithout_47 : decode cX7_beginWithout 47 = .ok (.aload_n 0, 1) := by decide +kernel
theorem dX7_beginWithout_48 : decode cX7_beginWithout 48 = .ok (.getfield 22, 3) := by decide +kernel
theorem dX7_beginWithout_51 : decode cX7_beginWithout 51 = .ok (.invokevirtual 60, 3) := by decide +kernel
theorem dX7_beginWithout_54 : decode cX7_beginWithout 54 = .ok (.iconst 0, 1) := by decide +kernel
theorem dX7_beginWithout_55 : decode cX7_beginWithout 55 = .ok (.istore_n 2, 1) := by decide +kernel
theorem dX7_beginWithout_56 : decode cX7_beginWithout 56 = .ok (.iload_n 2, 1) := by decide +kernel
theorem dX7_beginWithout_57 : decode cX7_beginWithout 57 = .ok (.bipush 12, 2) := by decide +kernel
theorem dX7_beginWithout_59 : decode cX7_beginWithout 59 = .ok (.if_icmp .ge 51, 3) := by decide +kernel
theorem dX7_beginWithout_62 : decode cX7_beginWithout 62 = .ok (.aload_n 0, 1) := by decide +kernel
theorem dX7_beginWithout_63 : decode cX7_beginWithout 63 = .ok (.getfield 11, 3) := by decide +kernel
theorem dX7_beginWithout_66 : decode cX7_beginWithout 66 = .ok (.iload_n 2, 1) := by decide +kernel
theorem dX7_beginWithout_67 : decode cX7_beginWithout 67 = .ok (.invokevirtual 63, 3) := by decide +kernel
theorem dX7_beginWithout_70 : decode cX7_beginWithout 70 = .ok (.ifCond .eq 34, 3) := by decide +kernel
theorem dX7_beginWithout_73 : decode cX7_beginWithout 73 = .ok (.iload_n 1, 1) := by decide +kernel
theorem dX7_beginWithout_74 : decode cX7_beginWithout 74 = .ok (.iload_n 2, 1) := by decide +kernel
theorem dX7_beginWithout_75 : decode cX7_beginWithout 75 = .ok (.ishr, 1) := by decide +kernel
theorem dX7_beginWithout_76 : decode cX7_beginWithout 76 = .ok (.iconst 1, 1) := by decide +kernel
theorem dX7_beginWithout_77 : decode cX7_beginWithout 77 = .ok (.iand, 1) := by decide +kernel
theorem dX7_beginWithout_78 : decode cX7_beginWithout 78 = .ok (.ifCond .ne 26, 3) := by decide +kernel
theorem dX7_beginWithout_81 : decode cX7_beginWithout 81 = .ok (.aload_n 0, 1) := by decide +kernel
theorem dX7_beginWithout_82 : decode cX7_beginWithout 82 = .ok (.iload_n 2, 1) := by decide +kernel
theorem dX7_beginWithout_83 : decode cX7_beginWithout 83 = .ok (.aload_n 0, 1) := by decide +kernel
theorem dX7_beginWithout_84 : decode cX7_beginWithout 84 = .ok (.getfield 11, 3) := by decide +kernel
theorem dX7_beginWithout_87 : decode cX7_beginWithout 87 = .ok (.iload_n 2, 1) := by decide +kernel
theorem dX7_beginWithout_88 : decode cX7_beginWithout 88 = .ok (.iconst 0, 1) := by decide +kernel
theorem dX7_beginWithout_89 : decode cX7_beginWithout 89 = .ok (.invokevirtual 67, 3) := by decide +kernel
theorem dX7_beginWithout_92 : decode cX7_beginWithout 92 = .ok (.aload_n 0, 1) := by decide +kernel
theorem dX7_beginWithout_93 : decode cX7_beginWithout 93 = .ok (.getfield 11, 3) := by decide +kernel
theorem dX7_beginWithout_96 : decode cX7_beginWithout 96 = .ok (.iload_n 2, 1) := by decide +kernel
theorem dX7_beginWithout_97 : decode cX7_beginWithout 97 = .ok (.iconst 1, 1) := by decide +kernel
theorem dX7_beginWithout_98 : decode cX7_beginWithout 98 = .ok (.invokevirtual 67, 3) := by decide +kernel
theorem dX7_beginWithout_101 : decode cX7_beginWithout 101 = .ok (.invokevirtual 71, 3) := by decide +kernel
theorem dX7_beginWithout_104 : decode cX7_beginWithout 104 = .ok (.iinc 2 1, 3) := by decide +kernel
theorem dX7_beginWithout_107 : decode cX7_beginWithout 107 = .ok (.goto (-51), 3) := by decide +kernel
theorem dX7_beginWithout_110 : decode cX7_beginWithout 110 = .ok (.return_, 1) := by decide +kernel
theorem dX7_link_0 : decode cX7_link 0 = .ok (.aload_n 0, 1) := by decide +kernel
theorem dX7_link_1 : decode cX7_link 1 = .ok (.iload_n 2, 1) := by decide +kernel
theorem dX7_link_2 : decode cX7_link 2 = .ok (.iload_n 3, 1) := by decide +kernel
theorem dX7_link_3 : decode cX7_link 3 = .ok (.invokevirtual 78, 3) := by decide +kernel
theorem dX7_link_6 : decode cX7_link 6 = .ok (.istore 4, 2) := by decide +kernel
theorem dX7_link_8 : decode cX7_link 8 = .ok (.iload 4, 2) := by decide +kernel
theorem dX7_link_10 : decode cX7_link 10 = .ok (.iconst (-1), 1) := by decide +kernel
theorem dX7_link_11 : decode cX7_link 11 = .ok (.if_icmp .eq 25, 3) := by decide +kernel
theorem dX7_link_14 : decode cX7_link 14 = .ok (.aload_n 0, 1) := by decide +kernel
theorem dX7_link_15 : decode cX7_link 15 = .ok (.getfield 11, 3) := by decide +kernel
theorem dX7_link_18 : decode cX7_link 18 = .ok (.iload_n 1, 1) := by decide +kernel
theorem dX7_link_19 : decode cX7_link 19 = .ok (.iconst 2, 1) := by decide +kernel
theorem dX7_link_20 : decode cX7_link 20 = .ok (.invokevirtual 67, 3) := by decide +kernel
theorem dX7_link_23 : decode cX7_link 23 = .ok (.aload_n 0, 1) := by decide +kernel
theorem dX7_link_24 : decode cX7_link 24 = .ok (.getfield 11, 3) := by decide +kernel
theorem dX7_link_27 : decode cX7_link 27 = .ok (.iload 4, 2) := by decide +kernel
theorem dX7_link_29 : decode cX7_link 29 = .ok (.iconst 2, 1) := by decide +kernel
theorem dX7_link_30 : decode cX7_link 30 = .ok (.invokevirtual 67, 3) := by decide +kernel
theorem dX7_link_33 : decode cX7_link 33 = .ok (.if_icmp .ge 35, 3) := by decide +kernel
theorem dX7_link_36 : decode cX7_link 36 = .ok (.aload_n 0, 1) := by decide +kernel
theorem dX7_link_37 : decode cX7_link 37 = .ok (.getfield 22, 3) := by decide +kernel
theorem dX7_link_40 : decode cX7_link 40 = .ok (.iload_n 2, 1) := by decide +kernel
theorem dX7_link_41 : decode cX7_link 41 = .ok (.bipush 8, 2) := by decide +kernel
theorem dX7_link_43 : decode cX7_link 43 = .ok (.imul, 1) := by decide +kernel
theorem dX7_link_44 : decode cX7_link 44 = .ok (.iload_n 3, 1) := by decide +kernel
theorem dX7_link_45 : decode cX7_link 45 = .ok (.iadd, 1) := by decide +kernel
theorem dX7_link_46 : decode cX7_link 46 = .ok (.iload_n 1, 1) := by decide +kernel
theorem dX7_link_47 : decode cX7_link 47 = .ok (.iconst 1, 1) := by decide +kernel
theorem dX7_link_48 : decode cX7_link 48 = .ok (.iadd, 1) := by decide +kernel
theorem dX7_link_49 : decode cX7_link 49 = .ok (.invokevirtual 56, 3) := by decide +kernel
theorem dX7_link_52 : decode cX7_link 52 = .ok (.aload_n 0, 1) := by decide +kernel
theorem dX7_link_53 : decode cX7_link 53 = .ok (.getfield 22, 3) := by decide +kernel
theorem dX7_link_56 : decode cX7_link 56 = .ok (.iload_n 3, 1) := by decide +kernel
theorem dX7_link_57 : decode cX7_link 57 = .ok (.bipush 8, 2) := by decide +kernel
theorem dX7_link_59 : decode cX7_link 59 = .ok (.imul, 1) := by decide +kernel
theorem dX7_link_60 : decode cX7_link 60 = .ok (.iload_n 2, 1) := by decide +kernel
theorem dX7_link_61 : decode cX7_link 61 = .ok (.iadd, 1) := by decide +kernel
theorem dX7_link_62 : decode cX7_link 62 = .ok (.iload_n 1, 1) := by decide +kernel
theorem dX7_link_63 : decode cX7_link 63 = .ok (.iconst 1, 1) := by decide +kernel
theorem dX7_link_64 : decode cX7_link 64 = .ok (.iadd, 1) := by decide +kernel
theorem dX7_link_65 : decode cX7_link 65 = .ok (.invokevirtual 56, 3) := by decide +kernel
theorem dX7_link_68 : decode cX7_link 68 = .ok (.return_, 1) := by decide +kernel
theorem dX7_wayTaken_0 : decode cX7_wayTaken 0 = .ok (.aload_n 0, 1) := by decide +kernel
theorem dX7_wayTaken_1 : decode cX7_wayTaken 1 = .ok (.getfield 11, 3) := by decide +kernel
theorem dX7_wayTaken_4 : decode cX7_wayTaken 4 = .ok (.iload_n 1, 1) := by decide +kernel
theorem dX7_wayTaken_5 : decode cX7_wayTaken 5 = .ok (.invokevirtual 81, 3) := by decide +kernel
theorem dX7_wayTaken_8 : decode cX7_wayTaken 8 = .ok (.ifCond .eq 18, 3) := by decide +kernel
theorem dX7_wayTaken_11 : decode cX7_wayTaken 11 = .ok (.aload_n 0, 1) := by decide +kernel
theorem dX7_wayTaken_12 : decode cX7_wayTaken 12 = .ok (.getfield 11, 3) := by decide +kernel
theorem dX7_wayTaken_15 : decode cX7_wayTaken 15 = .ok (.iload_n 2, 1) := by decide +kernel
theorem dX7_wayTaken_16 : decode cX7_wayTaken 16 = .ok (.invokevirtual 81, 3) := by decide +kernel
theorem dX7_wayTaken_19 : decode cX7_wayTaken 19 = .ok (.ifCond .eq 7, 3) := by decide +kernel
theorem dX7_wayTaken_22 : decode cX7_wayTaken 22 = .ok (.iconst 1, 1) := by decide +kernel
theorem dX7_wayTaken_23 : decode cX7_wayTaken 23 = .ok (.goto 4, 3) := by decide +kernel
theorem dX7_wayTaken_26 : decode cX7_wayTaken 26 = .ok (.iconst 0, 1) := by decide +kernel
theorem dX7_wayTaken_27 : decode cX7_wayTaken 27 = .ok (.istore_n 3, 1) := by decide +kernel
theorem dX7_wayTaken_28 : decode cX7_wayTaken 28 = .ok (.iload_n 3, 1) := by decide +kernel
theorem dX7_wayTaken_29 : decode cX7_wayTaken 29 = .ok (.ifCond .eq 21, 3) := by decide +kernel
theorem dX7_wayTaken_32 : decode cX7_wayTaken 32 = .ok (.aload_n 0, 1) := by decide +kernel
theorem dX7_wayTaken_33 : decode cX7_wayTaken 33 = .ok (.getfield 22, 3) := by decide +kernel
theorem dX7_wayTaken_36 : decode cX7_wayTaken 36 = .ok (.iload_n 1, 1) := by decide +kernel
theorem dX7_wayTaken_37 : decode cX7_wayTaken 37 = .ok (.bipush 8, 2) := by decide +kernel
theorem dX7_wayTaken_39 : decode cX7_wayTaken 39 = .ok (.imul, 1) := by decide +kernel
theorem dX7_wayTaken_40 : decode cX7_wayTaken 40 = .ok (.iload_n 2, 1) := by decide +kernel
theorem dX7_wayTaken_41 : decode cX7_wayTaken 41 = .ok (.iadd, 1) := by decide +kernel
theorem dX7_wayTaken_42 : decode cX7_wayTaken 42 = .ok (.invokevirtual 84, 3) := by decide +kernel
theorem dX7_wayTaken_45 : decode cX7_wayTaken 45 = .ok (.iconst 1, 1) := by decide +kernel
theorem dX7_wayTaken_46 : decode cX7_wayTaken 46 = .ok (.isub, 1) := by decide +kernel
theorem dX7_wayTaken_47 : decode cX7_wayTaken 47 = .ok (.goto 4, 3) := by decide +kernel
theorem dX7_wayTaken_50 : decode cX7_wayTaken 50 = .ok (.iconst (-1), 1) := by decide +kernel
theorem dX7_wayTaken_51 : decode cX7_wayTaken 51 = .ok (.ireturn, 1) := by decide +kernel
theorem dX7_visitsMade_0 : decode cX7_visitsMade 0 = .ok (.aload_n 0, 1) := by decide +kernel
theorem dX7_visitsMade_1 : decode cX7_visitsMade 1 = .ok (.getfield 41, 3) := by decide +kernel
theorem dX7_visitsMade_4 : decode cX7_visitsMade 4 = .ok (.ireturn, 1) := by decide +kernel
theorem dX7_placeAt_0 : decode cX7_placeAt 0 = .ok (.iload_n 1, 1) := by decide +kernel
theorem dX7_placeAt_1 : decode cX7_placeAt 1 = .ok (.ifCond .ge 13, 3) := by decide +kernel
theorem dX7_placeAt_4 : decode cX7_placeAt 4 = .ok (.aload_n 0, 1) := by decide +kernel
theorem dX7_placeAt_5 : decode cX7_placeAt 5 = .ok (.getfield 11, 3) := by decide +kernel
theorem dX7_placeAt_8 : decode cX7_placeAt 8 = .ok (.invokevirtual 87, 3) := by decide +kernel
theorem dX7_placeAt_11 : decode cX7_placeAt 11 = .ok (.goto 11, 3) := by decide +kernel
theorem dX7_placeAt_14 : decode cX7_placeAt 14 = .ok (.aload_n 0, 1) := by decide +kernel
theorem dX7_placeAt_15 : decode cX7_placeAt 15 = .ok (.getfield 26, 3) := by decide +kernel
theorem dX7_placeAt_18 : decode cX7_placeAt 18 = .ok (.iload_n 1, 1) := by decide +kernel
theorem dX7_placeAt_19 : decode cX7_placeAt 19 = .ok (.invokevirtual 84, 3) := by decide +kernel
theorem dX7_placeAt_22 : decode cX7_placeAt 22 = .ok (.ireturn, 1) := by decide +kernel
theorem dX7_place_0 : decode cX7_place 0 = .ok (.aload_n 0, 1) := by decide +kernel
theorem dX7_place_1 : decode cX7_place 1 = .ok (.getfield 41, 3) := by decide +kernel
theorem dX7_place_4 : decode cX7_place 4 = .ok (.ifCond .le 19, 3) := by decide +kernel
theorem dX7_place_7 : decode cX7_place 7 = .ok (.aload_n 0, 1) := by decide +kernel
theorem dX7_place_8 : decode cX7_place 8 = .ok (.getfield 26, 3) := by decide +kernel
theorem dX7_place_11 : decode cX7_place 11 = .ok (.aload_n 0, 1) := by decide +kernel
theorem dX7_place_12 : decode cX7_place 12 = .ok (.getfield 41, 3) := by decide +kernel
theorem dX7_place_15 : decode cX7_place 15 = .ok (.iconst 1, 1) := by decide +kernel
theorem dX7_place_16 : decode cX7_place 16 = .ok (.isub, 1) := by decide +kernel
theorem dX7_place_17 : decode cX7_place 17 = .ok (.invokevirtual 84, 3) := by decide +kernel
theorem dX7_place_20 : decode cX7_place 20 = .ok (.goto 10, 3) := by decide +kernel
theorem dX7_place_23 : decode cX7_place 23 = .ok (.aload_n 0, 1) := by decide +kernel
theorem dX7_place_24 : decode cX7_place 24 = .ok (.getfield 11, 3) := by decide +kernel
theorem dX7_place_27 : decode cX7_place 27 = .ok (.invokevirtual 87, 3) := by decide +kernel
theorem dX7_place_30 : decode cX7_place 30 = .ok (.ireturn, 1) := by decide +kernel
theorem dX7_minutesTaken_0 : decode cX7_minutesTaken 0 = .ok (.aload_n 0, 1) := by decide +kernel
theorem dX7_minutesTaken_1 : decode cX7_minutesTaken 1 = .ok (.getfield 35, 3) := by decide +kernel
theorem dX7_minutesTaken_4 : decode cX7_minutesTaken 4 = .ok (.aload_n 0, 1) := by decide +kernel
theorem dX7_minutesTaken_5 : decode cX7_minutesTaken 5 = .ok (.getfield 41, 3) := by decide +kernel
theorem dX7_minutesTaken_8 : decode cX7_minutesTaken 8 = .ok (.invokevirtual 84, 3) := by decide +kernel
theorem dX7_minutesTaken_11 : decode cX7_minutesTaken 11 = .ok (.ireturn, 1) := by decide +kernel
theorem dX7_heardBy_0 : decode cX7_heardBy 0 = .ok (.iconst 0, 1) := by decide +kernel
theorem dX7_heardBy_1 : decode cX7_heardBy 1 = .ok (.istore_n 2, 1) := by decide +kernel
theorem dX7_heardBy_2 : decode cX7_heardBy 2 = .ok (.iconst 0, 1) := by decide +kernel
theorem dX7_heardBy_3 : decode cX7_heardBy 3 = .ok (.istore_n 3, 1) := by decide +kernel
theorem dX7_heardBy_4 : decode cX7_heardBy 4 = .ok (.iload_n 3, 1) := by decide +kernel
theorem dX7_heardBy_5 : decode cX7_heardBy 5 = .ok (.aload_n 0, 1) := by decide +kernel
theorem dX7_heardBy_6 : decode cX7_heardBy 6 = .ok (.getfield 41, 3) := by decide +kernel
theorem dX7_heardBy_9 : decode cX7_heardBy 9 = .ok (.if_icmp .ge 32, 3) := by decide +kernel
theorem dX7_heardBy_12 : decode cX7_heardBy 12 = .ok (.aload_n 0, 1) := by decide +kernel
theorem dX7_heardBy_13 : decode cX7_heardBy 13 = .ok (.getfield 26, 3) := by decide +kernel
theorem dX7_heardBy_16 : decode cX7_heardBy 16 = .ok (.iload_n 3, 1) := by decide +kernel
theorem dX7_heardBy_17 : decode cX7_heardBy 17 = .ok (.invokevirtual 84, 3) := by decide +kernel
theorem dX7_heardBy_20 : decode cX7_heardBy 20 = .ok (.iload_n 1, 1) := by decide +kernel
theorem dX7_heardBy_21 : decode cX7_heardBy 21 = .ok (.if_icmp .ne 14, 3) := by decide +kernel
theorem dX7_heardBy_24 : decode cX7_heardBy 24 = .ok (.iload_n 2, 1) := by decide +kernel
theorem dX7_heardBy_25 : decode cX7_heardBy 25 = .ok (.aload_n 0, 1) := by decide +kernel
theorem dX7_heardBy_26 : decode cX7_heardBy 26 = .ok (.getfield 29, 3) := by decide +kernel
theorem dX7_heardBy_29 : decode cX7_heardBy 29 = .ok (.iload_n 3, 1) := by decide +kernel
theorem dX7_heardBy_30 : decode cX7_heardBy 30 = .ok (.invokevirtual 84, 3) := by decide +kernel
theorem dX7_heardBy_33 : decode cX7_heardBy 33 = .ok (.ior, 1) := by decide +kernel
theorem dX7_heardBy_34 : decode cX7_heardBy 34 = .ok (.istore_n 2, 1) := by decide +kernel
theorem dX7_heardBy_35 : decode cX7_heardBy 35 = .ok (.iinc 3 1, 3) := by decide +kernel
theorem dX7_heardBy_38 : decode cX7_heardBy 38 = .ok (.goto (-34), 3) := by decide +kernel
theorem dX7_heardBy_41 : decode cX7_heardBy 41 = .ok (.iload_n 2, 1) := by decide +kernel
theorem dX7_heardBy_42 : decode cX7_heardBy 42 = .ok (.ireturn, 1) := by decide +kernel
theorem dX7_visitsOf_0 : decode cX7_visitsOf 0 = .ok (.iconst 0, 1) := by decide +kernel
theorem dX7_visitsOf_1 : decode cX7_visitsOf 1 = .ok (.istore_n 2, 1) := by decide +kernel
theorem dX7_visitsOf_2 : decode cX7_visitsOf 2 = .ok (.iconst 0, 1) := by decide +kernel
theorem dX7_visitsOf_3 : decode cX7_visitsOf 3 = .ok (.istore_n 3, 1) := by decide +kernel
theorem dX7_visitsOf_4 : decode cX7_visitsOf 4 = .ok (.iload_n 3, 1) := by decide +kernel
theorem dX7_visitsOf_5 : decode cX7_visitsOf 5 = .ok (.aload_n 0, 1) := by decide +kernel
theorem dX7_visitsOf_6 : decode cX7_visitsOf 6 = .ok (.getfield 41, 3) := by decide +kernel
theorem dX7_visitsOf_9 : decode cX7_visitsOf 9 = .ok (.if_icmp .ge 24, 3) := by decide +kernel
theorem dX7_visitsOf_12 : decode cX7_visitsOf 12 = .ok (.aload_n 0, 1) := by decide +kernel
theorem dX7_visitsOf_13 : decode cX7_visitsOf 13 = .ok (.getfield 26, 3) := by decide +kernel
theorem dX7_visitsOf_16 : decode cX7_visitsOf 16 = .ok (.iload_n 3, 1) := by decide +kernel
theorem dX7_visitsOf_17 : decode cX7_visitsOf 17 = .ok (.invokevirtual 84, 3) := by decide +kernel
theorem dX7_visitsOf_20 : decode cX7_visitsOf 20 = .ok (.iload_n 1, 1) := by decide +kernel
theorem dX7_visitsOf_21 : decode cX7_visitsOf 21 = .ok (.if_icmp .ne 6, 3) := by decide +kernel
theorem dX7_visitsOf_24 : decode cX7_visitsOf 24 = .ok (.iinc 2 1, 3) := by decide +kernel
theorem dX7_visitsOf_27 : decode cX7_visitsOf 27 = .ok (.iinc 3 1, 3) := by decide +kernel
theorem dX7_visitsOf_30 : decode cX7_visitsOf 30 = .ok (.goto (-26), 3) := by decide +kernel
theorem dX7_visitsOf_33 : decode cX7_visitsOf 33 = .ok (.iload_n 2, 1) := by decide +kernel
theorem dX7_visitsOf_34 : decode cX7_visitsOf 34 = .ok (.ireturn, 1) := by decide +kernel
theorem dX7_stepTo_0 : decode cX7_stepTo 0 = .ok (.aload_n 0, 1) := by decide +kernel
theorem dX7_stepTo_1 : decode cX7_stepTo 1 = .ok (.aload_n 0, 1) := by decide +kernel
theorem dX7_stepTo_2 : decode cX7_stepTo 2 = .ok (.invokevirtual 90, 3) := by decide +kernel
theorem dX7_stepTo_5 : decode cX7_stepTo 5 = .ok (.iload_n 1, 1) := by decide +kernel
theorem dX7_stepTo_6 : decode cX7_stepTo 6 = .ok (.invokevirtual 78, 3) := by decide +kernel
theorem dX7_stepTo_9 : decode cX7_stepTo 9 = .ok (.istore_n 2, 1) := by decide +kernel
theorem dX7_stepTo_10 : decode cX7_stepTo 10 = .ok (.iload_n 2, 1) := by decide +kernel
theorem dX7_stepTo_11 : decode cX7_stepTo 11 = .ok (.iconst (-1), 1) := by decide +kernel
theorem dX7_stepTo_12 : decode cX7_stepTo 12 = .ok (.if_icmp .eq 12, 3) := by decide +kernel
theorem dX7_stepTo_15 : decode cX7_stepTo 15 = .ok (.aload_n 0, 1) := by decide +kernel
theorem dX7_stepTo_16 : decode cX7_stepTo 16 = .ok (.getfield 41, 3) := by decide +kernel
theorem dX7_stepTo_19 : decode cX7_stepTo 19 = .ok (.bipush 40, 2) := by decide +kernel
theorem dX7_stepTo_21 : decode cX7_stepTo 21 = .ok (.if_icmp .lt 5, 3) := by decide +kernel
theorem dX7_stepTo_24 : decode cX7_stepTo 24 = .ok (.iconst 0, 1) := by decide +kernel
theorem dX7_stepTo_25 : decode cX7_stepTo 25 = .ok (.ireturn, 1) := by decide +kernel
theorem dX7_stepTo_26 : decode cX7_stepTo 26 = .ok (.aload_n 0, 1) := by decide +kernel
theorem dX7_stepTo_27 : decode cX7_stepTo 27 = .ok (.getfield 32, 3) := by decide +kernel
theorem dX7_stepTo_30 : decode cX7_stepTo 30 = .ok (.iconst 3, 1) := by decide +kernel
theorem dX7_stepTo_31 : decode cX7_stepTo 31 = .ok (.aload_n 0, 1) := by decide +kernel
theorem dX7_stepTo_32 : decode cX7_stepTo 32 = .ok (.getfield 41, 3) := by decide +kernel
theorem dX7_stepTo_35 : decode cX7_stepTo 35 = .ok (.iadd, 1) := by decide +kernel
theorem dX7_stepTo_36 : decode cX7_stepTo 36 = .ok (.aload_n 0, 1) := by decide +kernel
theorem dX7_stepTo_37 : decode cX7_stepTo 37 = .ok (.getfield 49, 3) := by decide +kernel
theorem dX7_stepTo_40 : decode cX7_stepTo 40 = .ok (.isub, 1) := by decide +kernel
theorem dX7_stepTo_41 : decode cX7_stepTo 41 = .ok (.invokevirtual 84, 3) := by decide +kernel
theorem dX7_stepTo_44 : decode cX7_stepTo 44 = .ok (.istore_n 3, 1) := by decide +kernel
theorem dX7_stepTo_45 : decode cX7_stepTo 45 = .ok (.aload_n 0, 1) := by decide +kernel
theorem dX7_stepTo_46 : decode cX7_stepTo 46 = .ok (.getfield 29, 3) := by decide +kernel
theorem dX7_stepTo_49 : decode cX7_stepTo 49 = .ok (.aload_n 0, 1) := by decide +kernel
theorem dX7_stepTo_50 : decode cX7_stepTo 50 = .ok (.getfield 41, 3) := by decide +kernel
theorem dX7_stepTo_53 : decode cX7_stepTo 53 = .ok (.iload_n 3, 1) := by decide +kernel
theorem dX7_stepTo_54 : decode cX7_stepTo 54 = .ok (.invokevirtual 56, 3) := by decide +kernel
theorem dX7_stepTo_57 : decode cX7_stepTo 57 = .ok (.aload_n 0, 1) := by decide +kernel
theorem dX7_stepTo_58 : decode cX7_stepTo 58 = .ok (.getfield 32, 3) := by decide +kernel
theorem dX7_stepTo_61 : decode cX7_stepTo 61 = .ok (.iconst 3, 1) := by decide +kernel
theorem dX7_stepTo_62 : decode cX7_stepTo 62 = .ok (.aload_n 0, 1) := by decide +kernel
theorem dX7_stepTo_63 : decode cX7_stepTo 63 = .ok (.getfield 41, 3) := by decide +kernel
theorem dX7_stepTo_66 : decode cX7_stepTo 66 = .ok (.iadd, 1) := by decide +kernel
theorem dX7_stepTo_67 : decode cX7_stepTo 67 = .ok (.aload_n 0, 1) := by decide +kernel
theorem dX7_stepTo_68 : decode cX7_stepTo 68 = .ok (.getfield 11, 3) := by decide +kernel
theorem dX7_stepTo_71 : decode cX7_stepTo 71 = .ok (.iload_n 1, 1) := by decide +kernel
theorem dX7_stepTo_72 : decode cX7_stepTo 72 = .ok (.iload_n 3, 1) := by decide +kernel
theorem dX7_stepTo_73 : decode cX7_stepTo 73 = .ok (.aload_n 0, 1) := by decide +kernel
theorem dX7_stepTo_74 : decode cX7_stepTo 74 = .ok (.iload_n 1, 1) := by decide +kernel
theorem dX7_stepTo_75 : decode cX7_stepTo 75 = .ok (.invokevirtual 93, 3) := by decide +kernel
theorem dX7_stepTo_78 : decode cX7_stepTo 78 = .ok (.aload_n 0, 1) := by decide +kernel
theorem dX7_stepTo_79 : decode cX7_stepTo 79 = .ok (.iload_n 1, 1) := by decide +kernel
theorem dX7_stepTo_80 : decode cX7_stepTo 80 = .ok (.invokevirtual 96, 3) := by decide +kernel
theorem dX7_stepTo_83 : decode cX7_stepTo 83 = .ok (.invokevirtual 99, 3) := by decide +kernel
theorem dX7_stepTo_86 : decode cX7_stepTo 86 = .ok (.invokevirtual 56, 3) := by decide +kernel
theorem dX7_stepTo_89 : decode cX7_stepTo 89 = .ok (.aload_n 0, 1) := by decide +kernel
theorem dX7_stepTo_90 : decode cX7_stepTo 90 = .ok (.getfield 35, 3) := by decide +kernel
theorem dX7_stepTo_93 : decode cX7_stepTo 93 = .ok (.aload_n 0, 1) := by decide +kernel
theorem dX7_stepTo_94 : decode cX7_stepTo 94 = .ok (.getfield 41, 3) := by decide +kernel
theorem dX7_stepTo_97 : decode cX7_stepTo 97 = .ok (.iconst 1, 1) := by decide +kernel
theorem dX7_stepTo_98 : decode cX7_stepTo 98 = .ok (.iadd, 1) := by decide +kernel
theorem dX7_stepTo_99 : decode cX7_stepTo 99 = .ok (.aload_n 0, 1) := by decide +kernel
theorem dX7_stepTo_100 : decode cX7_stepTo 100 = .ok (.getfield 35, 3) := by decide +kernel
theorem dX7_stepTo_103 : decode cX7_stepTo 103 = .ok (.aload_n 0, 1) := by decide +kernel
theorem dX7_stepTo_104 : decode cX7_stepTo 104 = .ok (.getfield 41, 3) := by decide +kernel
theorem dX7_stepTo_107 : decode cX7_stepTo 107 = .ok (.invokevirtual 84, 3) := by decide +kernel
theorem dX7_stepTo_110 : decode cX7_stepTo 110 = .ok (.aload_n 0, 1) := by decide +kernel
theorem dX7_stepTo_111 : decode cX7_stepTo 111 = .ok (.getfield 11, 3) := by decide +kernel
theorem dX7_stepTo_114 : decode cX7_stepTo 114 = .ok (.iload_n 2, 1) := by decide +kernel
theorem dX7_stepTo_115 : decode cX7_stepTo 115 = .ok (.iconst 2, 1) := by decide +kernel
theorem dX7_stepTo_116 : decode cX7_stepTo 116 = .ok (.invokevirtual 67, 3) := by decide +kernel
theorem dX7_stepTo_119 : decode cX7_stepTo 119 = .ok (.iadd, 1) := by decide +kernel
theorem dX7_stepTo_120 : decode cX7_stepTo 120 = .ok (.invokevirtual 56, 3) := by decide +kernel
theorem dX7_stepTo_123 : decode cX7_stepTo 123 = .ok (.aload_n 0, 1) := by decide +kernel
theorem dX7_stepTo_124 : decode cX7_stepTo 124 = .ok (.getfield 26, 3) := by decide +kernel
theorem dX7_stepTo_127 : decode cX7_stepTo 127 = .ok (.aload_n 0, 1) := by decide +kernel
theorem dX7_stepTo_128 : decode cX7_stepTo 128 = .ok (.getfield 41, 3) := by decide +kernel
theorem dX7_stepTo_131 : decode cX7_stepTo 131 = .ok (.iload_n 1, 1) := by decide +kernel
theorem dX7_stepTo_132 : decode cX7_stepTo 132 = .ok (.invokevirtual 56, 3) := by decide +kernel
theorem dX7_stepTo_135 : decode cX7_stepTo 135 = .ok (.aload_n 0, 1) := by decide +kernel
theorem dX7_stepTo_136 : decode cX7_stepTo 136 = .ok (.dup, 1) := by decide +kernel
theorem dX7_stepTo_137 : decode cX7_stepTo 137 = .ok (.getfield 41, 3) := by decide +kernel
theorem dX7_stepTo_140 : decode cX7_stepTo 140 = .ok (.iconst 1, 1) := by decide +kernel
theorem dX7_stepTo_141 : decode cX7_stepTo 141 = .ok (.iadd, 1) := by decide +kernel
theorem dX7_stepTo_142 : decode cX7_stepTo 142 = .ok (.putfield 41, 3) := by decide +kernel
theorem dX7_stepTo_145 : decode cX7_stepTo 145 = .ok (.iconst 1, 1) := by decide +kernel
theorem dX7_stepTo_146 : decode cX7_stepTo 146 = .ok (.ireturn, 1) := by decide +kernel
theorem dX7_becomeNext_0 : decode cX7_becomeNext 0 = .ok (.aload_n 0, 1) := by decide +kernel
theorem dX7_becomeNext_1 : decode cX7_becomeNext 1 = .ok (.getfield 41, 3) := by decide +kernel
theorem dX7_becomeNext_4 : decode cX7_becomeNext 4 = .ok (.iload_n 1, 1) := by decide +kernel
theorem dX7_becomeNext_5 : decode cX7_becomeNext 5 = .ok (.if_icmp .ge 7, 3) := by decide +kernel
theorem dX7_becomeNext_8 : decode cX7_becomeNext 8 = .ok (.iconst 0, 1) := by decide +kernel
theorem dX7_becomeNext_9 : decode cX7_becomeNext 9 = .ok (.goto 5, 3) := by decide +kernel
theorem dX7_becomeNext_12 : decode cX7_becomeNext 12 = .ok (.bipush 8, 2) := by decide +kernel
theorem dX7_becomeNext_14 : decode cX7_becomeNext 14 = .ok (.istore_n 2, 1) := by decide +kernel
theorem dX7_becomeNext_15 : decode cX7_becomeNext 15 = .ok (.aload_n 0, 1) := by decide +kernel
theorem dX7_becomeNext_16 : decode cX7_becomeNext 16 = .ok (.getfield 41, 3) := by decide +kernel
theorem dX7_becomeNext_19 : decode cX7_becomeNext 19 = .ok (.istore_n 3, 1) := by decide +kernel
theorem dX7_becomeNext_20 : decode cX7_becomeNext 20 = .ok (.iload_n 3, 1) := by decide +kernel
theorem dX7_becomeNext_21 : decode cX7_becomeNext 21 = .ok (.ifCond .lt 54, 3) := by decide +kernel
theorem dX7_becomeNext_24 : decode cX7_becomeNext 24 = .ok (.aload_n 0, 1) := by decide +kernel
theorem dX7_becomeNext_25 : decode cX7_becomeNext 25 = .ok (.iload_n 3, 1) := by decide +kernel
theorem dX7_becomeNext_26 : decode cX7_becomeNext 26 = .ok (.putfield 41, 3) := by decide +kernel
theorem dX7_becomeNext_29 : decode cX7_becomeNext 29 = .ok (.iload_n 2, 1) := by decide +kernel
theorem dX7_becomeNext_30 : decode cX7_becomeNext 30 = .ok (.istore 4, 2) := by decide +kernel
theorem dX7_becomeNext_32 : decode cX7_becomeNext 32 = .ok (.iload 4, 2) := by decide +kernel
theorem dX7_becomeNext_34 : decode cX7_becomeNext 34 = .ok (.bipush 8, 2) := by decide +kernel
theorem dX7_becomeNext_36 : decode cX7_becomeNext 36 = .ok (.if_icmp .ge 20, 3) := by decide +kernel
theorem dX7_becomeNext_39 : decode cX7_becomeNext 39 = .ok (.aload_n 0, 1) := by decide +kernel
theorem dX7_becomeNext_40 : decode cX7_becomeNext 40 = .ok (.iload 4, 2) := by decide +kernel
theorem dX7_becomeNext_42 : decode cX7_becomeNext 42 = .ok (.invokevirtual 103, 3) := by decide +kernel
theorem dX7_becomeNext_45 : decode cX7_becomeNext 45 = .ok (.ifCond .eq 5, 3) := by decide +kernel
theorem dX7_becomeNext_48 : decode cX7_becomeNext 48 = .ok (.iconst 1, 1) := by decide +kernel
theorem dX7_becomeNext_49 : decode cX7_becomeNext 49 = .ok (.ireturn, 1) := by decide +kernel
theorem dX7_becomeNext_50 : decode cX7_becomeNext 50 = .ok (.iinc 4 1, 3) := by decide +kernel
theorem dX7_becomeNext_53 : decode cX7_becomeNext 53 = .ok (.goto (-21), 3) := by decide +kernel
theorem dX7_becomeNext_56 : decode cX7_becomeNext 56 = .ok (.aload_n 0, 1) := by decide +kernel
theorem dX7_becomeNext_57 : decode cX7_becomeNext 57 = .ok (.getfield 26, 3) := by decide +kernel
theorem dX7_becomeNext_60 : decode cX7_becomeNext 60 = .ok (.iload_n 3, 1) := by decide +kernel
theorem dX7_becomeNext_61 : decode cX7_becomeNext 61 = .ok (.iconst 1, 1) := by decide +kernel
theorem dX7_becomeNext_62 : decode cX7_becomeNext 62 = .ok (.isub, 1) := by decide +kernel
theorem dX7_becomeNext_63 : decode cX7_becomeNext 63 = .ok (.invokevirtual 84, 3) := by decide +kernel
theorem dX7_becomeNext_66 : decode cX7_becomeNext 66 = .ok (.iconst 1, 1) := by decide +kernel
theorem dX7_becomeNext_67 : decode cX7_becomeNext 67 = .ok (.iadd, 1) := by decide +kernel
theorem dX7_becomeNext_68 : decode cX7_becomeNext 68 = .ok (.istore_n 2, 1) := by decide +kernel
theorem dX7_becomeNext_69 : decode cX7_becomeNext 69 = .ok (.iinc 3 (-1), 3) := by decide +kernel
theorem dX7_becomeNext_72 : decode cX7_becomeNext 72 = .ok (.goto (-52), 3) := by decide +kernel
theorem dX7_becomeNext_75 : decode cX7_becomeNext 75 = .ok (.iconst 0, 1) := by decide +kernel
theorem dX7_becomeNext_76 : decode cX7_becomeNext 76 = .ok (.ireturn, 1) := by decide +kernel
