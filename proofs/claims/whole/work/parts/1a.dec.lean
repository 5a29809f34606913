theorem dX0_init_0 : decode cX0_init 0 = .ok (.aload_n 0, 1) := by decide +kernel
theorem dX0_init_1 : decode cX0_init 1 = .ok (.invokespecial 3, 3) := by decide +kernel
theorem dX0_init_4 : decode cX0_init 4 = .ok (.aload_n 0, 1) := by decide +kernel
theorem dX0_init_5 : decode cX0_init 5 = .ok (.new 9, 3) := by decide +kernel
theorem dX0_init_8 : decode cX0_init 8 = .ok (.dup, 1) := by decide +kernel
theorem dX0_init_9 : decode cX0_init 9 = .ok (.bipush 20, 2) := by decide +kernel
theorem dX0_init_11 : decode cX0_init 11 = .ok (.invokespecial 13, 3) := by decide +kernel
theorem dX0_init_14 : decode cX0_init 14 = .ok (.putfield 16, 3) := by decide +kernel
theorem dX0_init_17 : decode cX0_init 17 = .ok (.return_, 1) := by decide +kernel
theorem dX0_howManyRan_0 : decode cX0_howManyRan 0 = .ok (.aload_n 0, 1) := by decide +kernel
theorem dX0_howManyRan_1 : decode cX0_howManyRan 1 = .ok (.getfield 20, 3) := by decide +kernel
theorem dX0_howManyRan_4 : decode cX0_howManyRan 4 = .ok (.ireturn, 1) := by decide +kernel
theorem dX0_bodyAt_0 : decode cX0_bodyAt 0 = .ok (.iload_n 1, 1) := by decide +kernel
theorem dX0_bodyAt_1 : decode cX0_bodyAt 1 = .ok (.ifCond .lt 28, 3) := by decide +kernel
theorem dX0_bodyAt_4 : decode cX0_bodyAt 4 = .ok (.iload_n 1, 1) := by decide +kernel
theorem dX0_bodyAt_5 : decode cX0_bodyAt 5 = .ok (.aload_n 0, 1) := by decide +kernel
theorem dX0_bodyAt_6 : decode cX0_bodyAt 6 = .ok (.getfield 20, 3) := by decide +kernel
theorem dX0_bodyAt_9 : decode cX0_bodyAt 9 = .ok (.if_icmp .ge 20, 3) := by decide +kernel
theorem dX0_bodyAt_12 : decode cX0_bodyAt 12 = .ok (.iload_n 1, 1) := by decide +kernel
theorem dX0_bodyAt_13 : decode cX0_bodyAt 13 = .ok (.bipush 20, 2) := by decide +kernel
theorem dX0_bodyAt_15 : decode cX0_bodyAt 15 = .ok (.if_icmp .ge 14, 3) := by decide +kernel
theorem dX0_bodyAt_18 : decode cX0_bodyAt 18 = .ok (.aload_n 0, 1) := by decide +kernel
theorem dX0_bodyAt_19 : decode cX0_bodyAt 19 = .ok (.getfield 16, 3) := by decide +kernel
theorem dX0_bodyAt_22 : decode cX0_bodyAt 22 = .ok (.iload_n 1, 1) := by decide +kernel
theorem dX0_bodyAt_23 : decode cX0_bodyAt 23 = .ok (.invokevirtual 24, 3) := by decide +kernel
theorem dX0_bodyAt_26 : decode cX0_bodyAt 26 = .ok (.goto 4, 3) := by decide +kernel
theorem dX0_bodyAt_29 : decode cX0_bodyAt 29 = .ok (.iconst (-1), 1) := by decide +kernel
theorem dX0_bodyAt_30 : decode cX0_bodyAt 30 = .ok (.ireturn, 1) := by decide +kernel
theorem dX0_clearTrace_0 : decode cX0_clearTrace 0 = .ok (.aload_n 0, 1) := by decide +kernel
theorem dX0_clearTrace_1 : decode cX0_clearTrace 1 = .ok (.iconst 0, 1) := by decide +kernel
theorem dX0_clearTrace_2 : decode cX0_clearTrace 2 = .ok (.putfield 20, 3) := by decide +kernel
theorem dX0_clearTrace_5 : decode cX0_clearTrace 5 = .ok (.return_, 1) := by decide +kernel
theorem dX0_perform_0 : decode cX0_perform 0 = .ok (.aload_n 0, 1) := by decide +kernel
theorem dX0_perform_1 : decode cX0_perform 1 = .ok (.iload_n 1, 1) := by decide +kernel
theorem dX0_perform_2 : decode cX0_perform 2 = .ok (.putfield 28, 3) := by decide +kernel
theorem dX0_perform_5 : decode cX0_perform 5 = .ok (.aload_n 0, 1) := by decide +kernel
theorem dX0_perform_6 : decode cX0_perform 6 = .ok (.iload_n 2, 1) := by decide +kernel
theorem dX0_perform_7 : decode cX0_perform 7 = .ok (.putfield 31, 3) := by decide +kernel
theorem dX0_perform_10 : decode cX0_perform 10 = .ok (.aload_n 0, 1) := by decide +kernel
theorem dX0_perform_11 : decode cX0_perform 11 = .ok (.iload_n 3, 1) := by decide +kernel
theorem dX0_perform_12 : decode cX0_perform 12 = .ok (.putfield 34, 3) := by decide +kernel
theorem dX0_perform_15 : decode cX0_perform 15 = .ok (.iload 4, 2) := by decide +kernel
theorem dX0_perform_17 : decode cX0_perform 17 = .ok (.tableswitch 51 0 2 #[27, 35, 43], 27) := by decide +kernel
theorem dX0_perform_44 : decode cX0_perform 44 = .ok (.aload_n 0, 1) := by decide +kernel
theorem dX0_perform_45 : decode cX0_perform 45 = .ok (.iload_n 1, 1) := by decide +kernel
theorem dX0_perform_46 : decode cX0_perform 46 = .ok (.iload 5, 2) := by decide +kernel
theorem dX0_perform_48 : decode cX0_perform 48 = .ok (.invokevirtual 37, 3) := by decide +kernel
theorem dX0_perform_51 : decode cX0_perform 51 = .ok (.ireturn, 1) := by decide +kernel
theorem dX0_perform_52 : decode cX0_perform 52 = .ok (.aload_n 0, 1) := by decide +kernel
theorem dX0_perform_53 : decode cX0_perform 53 = .ok (.iload_n 1, 1) := by decide +kernel
theorem dX0_perform_54 : decode cX0_perform 54 = .ok (.iload 5, 2) := by decide +kernel
theorem dX0_perform_56 : decode cX0_perform 56 = .ok (.invokevirtual 41, 3) := by decide +kernel
theorem dX0_perform_59 : decode cX0_perform 59 = .ok (.ireturn, 1) := by decide +kernel
theorem dX0_perform_60 : decode cX0_perform 60 = .ok (.aload_n 0, 1) := by decide +kernel
theorem dX0_perform_61 : decode cX0_perform 61 = .ok (.iload_n 1, 1) := by decide +kernel
theorem dX0_perform_62 : decode cX0_perform 62 = .ok (.iload 5, 2) := by decide +kernel
theorem dX0_perform_64 : decode cX0_perform 64 = .ok (.invokevirtual 44, 3) := by decide +kernel
theorem dX0_perform_67 : decode cX0_perform 67 = .ok (.ireturn, 1) := by decide +kernel
theorem dX0_perform_68 : decode cX0_perform 68 = .ok (.iconst 0, 1) := by decide +kernel
theorem dX0_perform_69 : decode cX0_perform 69 = .ok (.ireturn, 1) := by decide +kernel
theorem dX0_begin_0 : decode cX0_begin 0 = .ok (.aload_n 0, 1) := by decide +kernel
theorem dX0_begin_1 : decode cX0_begin 1 = .ok (.getfield 16, 3) := by decide +kernel
theorem dX0_begin_4 : decode cX0_begin 4 = .ok (.aload_n 0, 1) := by decide +kernel
theorem dX0_begin_5 : decode cX0_begin 5 = .ok (.getfield 20, 3) := by decide +kernel
theorem dX0_begin_8 : decode cX0_begin 8 = .ok (.iload_n 1, 1) := by decide +kernel
theorem dX0_begin_9 : decode cX0_begin 9 = .ok (.invokevirtual 47, 3) := by decide +kernel
theorem dX0_begin_12 : decode cX0_begin 12 = .ok (.aload_n 0, 1) := by decide +kernel
theorem dX0_begin_13 : decode cX0_begin 13 = .ok (.dup, 1) := by decide +kernel
theorem dX0_begin_14 : decode cX0_begin 14 = .ok (.getfield 20, 3) := by decide +kernel
theorem dX0_begin_17 : decode cX0_begin 17 = .ok (.iconst 1, 1) := by decide +kernel
theorem dX0_begin_18 : decode cX0_begin 18 = .ok (.iadd, 1) := by decide +kernel
theorem dX0_begin_19 : decode cX0_begin 19 = .ok (.putfield 20, 3) := by decide +kernel
theorem dX0_begin_22 : decode cX0_begin 22 = .ok (.return_, 1) := by decide +kernel
theorem dX0_calls_0 : decode cX0_calls 0 = .ok (.iload_n 1, 1) := by decide +kernel
theorem dX0_calls_1 : decode cX0_calls 1 = .ok (.lookupswitch 60 #[(1, 27), (6, 45)], 27) := by decide +kernel
theorem dX0_calls_28 : decode cX0_calls 28 = .ok (.aload_n 0, 1) := by decide +kernel
theorem dX0_calls_29 : decode cX0_calls 29 = .ok (.bipush 20, 2) := by decide +kernel
theorem dX0_calls_31 : decode cX0_calls 31 = .ok (.invokevirtual 51, 3) := by decide +kernel
theorem dX0_calls_34 : decode cX0_calls 34 = .ok (.aload_n 0, 1) := by decide +kernel
theorem dX0_calls_35 : decode cX0_calls 35 = .ok (.iconst 0, 1) := by decide +kernel
theorem dX0_calls_36 : decode cX0_calls 36 = .ok (.iload_n 2, 1) := by decide +kernel
theorem dX0_calls_37 : decode cX0_calls 37 = .ok (.invokevirtual 37, 3) := by decide +kernel
theorem dX0_calls_40 : decode cX0_calls 40 = .ok (.aload_n 0, 1) := by decide +kernel
theorem dX0_calls_41 : decode cX0_calls 41 = .ok (.getfield 34, 3) := by decide +kernel
theorem dX0_calls_44 : decode cX0_calls 44 = .ok (.iadd, 1) := by decide +kernel
theorem dX0_calls_45 : decode cX0_calls 45 = .ok (.ireturn, 1) := by decide +kernel
theorem dX0_calls_46 : decode cX0_calls 46 = .ok (.aload_n 0, 1) := by decide +kernel
theorem dX0_calls_47 : decode cX0_calls 47 = .ok (.bipush 70, 2) := by decide +kernel
theorem dX0_calls_49 : decode cX0_calls 49 = .ok (.invokevirtual 51, 3) := by decide +kernel
theorem dX0_calls_52 : decode cX0_calls 52 = .ok (.aload_n 0, 1) := by decide +kernel
theorem dX0_calls_53 : decode cX0_calls 53 = .ok (.iconst 0, 1) := by decide +kernel
theorem dX0_calls_54 : decode cX0_calls 54 = .ok (.iload_n 2, 1) := by decide +kernel
theorem dX0_calls_55 : decode cX0_calls 55 = .ok (.invokevirtual 37, 3) := by decide +kernel
theorem dX0_calls_58 : decode cX0_calls 58 = .ok (.iconst 2, 1) := by decide +kernel
theorem dX0_calls_59 : decode cX0_calls 59 = .ok (.imul, 1) := by decide +kernel
theorem dX0_calls_60 : decode cX0_calls 60 = .ok (.ireturn, 1) := by decide +kernel
theorem dX0_calls_61 : decode cX0_calls 61 = .ok (.aload_n 0, 1) := by decide +kernel
theorem dX0_calls_62 : decode cX0_calls 62 = .ok (.bipush 10, 2) := by decide +kernel
theorem dX0_calls_64 : decode cX0_calls 64 = .ok (.invokevirtual 51, 3) := by decide +kernel
theorem dX0_calls_67 : decode cX0_calls 67 = .ok (.iload_n 2, 1) := by decide +kernel
theorem dX0_calls_68 : decode cX0_calls 68 = .ok (.aload_n 0, 1) := by decide +kernel
theorem dX0_calls_69 : decode cX0_calls 69 = .ok (.getfield 31, 3) := by decide +kernel
theorem dX0_calls_72 : decode cX0_calls 72 = .ok (.iadd, 1) := by decide +kernel
theorem dX0_calls_73 : decode cX0_calls 73 = .ok (.ireturn, 1) := by decide +kernel
theorem dX0_hushes_0 : decode cX0_hushes 0 = .ok (.iload_n 1, 1) := by decide +kernel
theorem dX0_hushes_1 : decode cX0_hushes 1 = .ok (.tableswitch 83 2 6 #[35, 50, 83, 83, 65], 35) := by decide +kernel
theorem dX0_hushes_36 : decode cX0_hushes 36 = .ok (.aload_n 0, 1) := by decide +kernel
theorem dX0_hushes_37 : decode cX0_hushes 37 = .ok (.bipush 30, 2) := by decide +kernel
theorem dX0_hushes_39 : decode cX0_hushes 39 = .ok (.invokevirtual 51, 3) := by decide +kernel
theorem dX0_hushes_42 : decode cX0_hushes 42 = .ok (.aload_n 0, 1) := by decide +kernel
theorem dX0_hushes_43 : decode cX0_hushes 43 = .ok (.iconst 0, 1) := by decide +kernel
theorem dX0_hushes_44 : decode cX0_hushes 44 = .ok (.iload_n 2, 1) := by decide +kernel
theorem dX0_hushes_45 : decode cX0_hushes 45 = .ok (.invokevirtual 41, 3) := by decide +kernel
theorem dX0_hushes_48 : decode cX0_hushes 48 = .ok (.iconst 3, 1) := by decide +kernel
theorem dX0_hushes_49 : decode cX0_hushes 49 = .ok (.imul, 1) := by decide +kernel
theorem dX0_hushes_50 : decode cX0_hushes 50 = .ok (.ireturn, 1) := by decide +kernel
theorem dX0_hushes_51 : decode cX0_hushes 51 = .ok (.aload_n 0, 1) := by decide +kernel
theorem dX0_hushes_52 : decode cX0_hushes 52 = .ok (.bipush 40, 2) := by decide +kernel
theorem dX0_hushes_54 : decode cX0_hushes 54 = .ok (.invokevirtual 51, 3) := by decide +kernel
theorem dX0_hushes_57 : decode cX0_hushes 57 = .ok (.aload_n 0, 1) := by decide +kernel
theorem dX0_hushes_58 : decode cX0_hushes 58 = .ok (.iconst 2, 1) := by decide +kernel
theorem dX0_hushes_59 : decode cX0_hushes 59 = .ok (.iload_n 2, 1) := by decide +kernel
theorem dX0_hushes_60 : decode cX0_hushes 60 = .ok (.iconst 1, 1) := by decide +kernel
theorem dX0_hushes_61 : decode cX0_hushes 61 = .ok (.iadd, 1) := by decide +kernel
theorem dX0_hushes_62 : decode cX0_hushes 62 = .ok (.invokevirtual 41, 3) := by decide +kernel
theorem dX0_hushes_65 : decode cX0_hushes 65 = .ok (.ireturn, 1) := by decide +kernel
theorem dX0_hushes_66 : decode cX0_hushes 66 = .ok (.aload_n 0, 1) := by decide +kernel
theorem dX0_hushes_67 : decode cX0_hushes 67 = .ok (.bipush 71, 2) := by decide +kernel
theorem dX0_hushes_69 : decode cX0_hushes 69 = .ok (.invokevirtual 51, 3) := by decide +kernel
theorem dX0_hushes_72 : decode cX0_hushes 72 = .ok (.aload_n 0, 1) := by decide +kernel
theorem dX0_hushes_73 : decode cX0_hushes 73 = .ok (.iconst 0, 1) := by decide +kernel
theorem dX0_hushes_74 : decode cX0_hushes 74 = .ok (.iload_n 2, 1) := by decide +kernel
theorem dX0_hushes_75 : decode cX0_hushes 75 = .ok (.aload_n 0, 1) := by decide +kernel
theorem dX0_hushes_76 : decode cX0_hushes 76 = .ok (.getfield 34, 3) := by decide +kernel
theorem dX0_hushes_79 : decode cX0_hushes 79 = .ok (.isub, 1) := by decide +kernel
theorem dX0_hushes_80 : decode cX0_hushes 80 = .ok (.invokevirtual 41, 3) := by decide +kernel
theorem dX0_hushes_83 : decode cX0_hushes 83 = .ok (.ireturn, 1) := by decide +kernel
theorem dX0_hushes_84 : decode cX0_hushes 84 = .ok (.aload_n 0, 1) := by decide +kernel
theorem dX0_hushes_85 : decode cX0_hushes 85 = .ok (.bipush 11, 2) := by decide +kernel
theorem dX0_hushes_87 : decode cX0_hushes 87 = .ok (.invokevirtual 51, 3) := by decide +kernel
theorem dX0_hushes_90 : decode cX0_hushes 90 = .ok (.aload_n 0, 1) := by decide +kernel
theorem dX0_hushes_91 : decode cX0_hushes 91 = .ok (.aload_n 0, 1) := by decide +kernel
theorem dX0_hushes_92 : decode cX0_hushes 92 = .ok (.getfield 28, 3) := by decide +kernel
theorem dX0_hushes_95 : decode cX0_hushes 95 = .ok (.iload_n 2, 1) := by decide +kernel
theorem dX0_hushes_96 : decode cX0_hushes 96 = .ok (.invokevirtual 37, 3) := by decide +kernel
theorem dX0_hushes_99 : decode cX0_hushes 99 = .ok (.iconst 2, 1) := by decide +kernel
theorem dX0_hushes_100 : decode cX0_hushes 100 = .ok (.imul, 1) := by decide +kernel
theorem dX0_hushes_101 : decode cX0_hushes 101 = .ok (.ireturn, 1) := by decide +kernel
theorem dX0_opens_0 : decode cX0_opens 0 = .ok (.iload_n 1, 1) := by decide +kernel
theorem dX0_opens_1 : decode cX0_opens 1 = .ok (.tableswitch 74 3 5 #[27, 45, 59], 27) := by decide +kernel
theorem dX0_opens_28 : decode cX0_opens 28 = .ok (.aload_n 0, 1) := by decide +kernel
theorem dX0_opens_29 : decode cX0_opens 29 = .ok (.bipush 41, 2) := by decide +kernel
theorem dX0_opens_31 : decode cX0_opens 31 = .ok (.invokevirtual 51, 3) := by decide +kernel
theorem dX0_opens_34 : decode cX0_opens 34 = .ok (.aload_n 0, 1) := by decide +kernel
theorem dX0_opens_35 : decode cX0_opens 35 = .ok (.iconst 0, 1) := by decide +kernel
theorem dX0_opens_36 : decode cX0_opens 36 = .ok (.iload_n 2, 1) := by decide +kernel
theorem dX0_opens_37 : decode cX0_opens 37 = .ok (.invokevirtual 44, 3) := by decide +kernel
theorem dX0_opens_40 : decode cX0_opens 40 = .ok (.aload_n 0, 1) := by decide +kernel
theorem dX0_opens_41 : decode cX0_opens 41 = .ok (.getfield 31, 3) := by decide +kernel
theorem dX0_opens_44 : decode cX0_opens 44 = .ok (.isub, 1) := by decide +kernel
theorem dX0_opens_45 : decode cX0_opens 45 = .ok (.ireturn, 1) := by decide +kernel
theorem dX0_opens_46 : decode cX0_opens 46 = .ok (.aload_n 0, 1) := by decide +kernel
theorem dX0_opens_47 : decode cX0_opens 47 = .ok (.bipush 50, 2) := by decide +kernel
theorem dX0_opens_49 : decode cX0_opens 49 = .ok (.invokevirtual 51, 3) := by decide +kernel
theorem dX0_opens_52 : decode cX0_opens 52 = .ok (.aload_n 0, 1) := by decide +kernel
theorem dX0_opens_53 : decode cX0_opens 53 = .ok (.iconst 0, 1) := by decide +kernel
theorem dX0_opens_54 : decode cX0_opens 54 = .ok (.iload_n 2, 1) := by decide +kernel
theorem dX0_opens_55 : decode cX0_opens 55 = .ok (.invokevirtual 44, 3) := by decide +kernel
theorem dX0_opens_58 : decode cX0_opens 58 = .ok (.ineg, 1) := by decide +kernel
theorem dX0_opens_59 : decode cX0_opens 59 = .ok (.ireturn, 1) := by decide +kernel
theorem dX0_opens_60 : decode cX0_opens 60 = .ok (.aload_n 0, 1) := by decide +kernel
theorem dX0_opens_61 : decode cX0_opens 61 = .ok (.bipush 60, 2) := by decide +kernel
theorem dX0_opens_63 : decode cX0_opens 63 = .ok (.invokevirtual 51, 3) := by decide +kernel
theorem dX0_opens_66 : decode cX0_opens 66 = .ok (.aload_n 0, 1) := by decide +kernel
theorem dX0_opens_67 : decode cX0_opens 67 = .ok (.iconst 4, 1) := by decide +kernel
theorem dX0_opens_68 : decode cX0_opens 68 = .ok (.iload_n 2, 1) := by decide +kernel
theorem dX0_opens_69 : decode cX0_opens 69 = .ok (.invokevirtual 44, 3) := by decide +kernel
theorem dX0_opens_72 : decode cX0_opens 72 = .ok (.iconst 5, 1) := by decide +kernel
theorem dX0_opens_73 : decode cX0_opens 73 = .ok (.ixor, 1) := by decide +kernel
theorem dX0_opens_74 : decode cX0_opens 74 = .ok (.ireturn, 1) := by decide +kernel
theorem dX0_opens_75 : decode cX0_opens 75 = .ok (.aload_n 0, 1) := by decide +kernel
theorem dX0_opens_76 : decode cX0_opens 76 = .ok (.bipush 12, 2) := by decide +kernel
theorem dX0_opens_78 : decode cX0_opens 78 = .ok (.invokevirtual 51, 3) := by decide +kernel
theorem dX0_opens_81 : decode cX0_opens 81 = .ok (.aload_n 0, 1) := by decide +kernel
theorem dX0_opens_82 : decode cX0_opens 82 = .ok (.aload_n 0, 1) := by decide +kernel
theorem dX0_opens_83 : decode cX0_opens 83 = .ok (.getfield 28, 3) := by decide +kernel
theorem dX0_opens_86 : decode cX0_opens 86 = .ok (.iload_n 2, 1) := by decide +kernel
theorem dX0_opens_87 : decode cX0_opens 87 = .ok (.invokevirtual 41, 3) := by decide +kernel
theorem dX0_opens_90 : decode cX0_opens 90 = .ok (.istore_n 3, 1) := by decide +kernel
theorem dX0_opens_91 : decode cX0_opens 91 = .ok (.iload_n 3, 1) := by decide +kernel
theorem dX0_opens_92 : decode cX0_opens 92 = .ok (.aload_n 0, 1) := by decide +kernel
theorem dX0_opens_93 : decode cX0_opens 93 = .ok (.aload_n 0, 1) := by decide +kernel
theorem dX0_opens_94 : decode cX0_opens 94 = .ok (.getfield 28, 3) := by decide +kernel
theorem dX0_opens_97 : decode cX0_opens 97 = .ok (.iload_n 2, 1) := by decide +kernel
theorem dX0_opens_98 : decode cX0_opens 98 = .ok (.aload_n 0, 1) := by decide +kernel
theorem dX0_opens_99 : decode cX0_opens 99 = .ok (.getfield 34, 3) := by decide +kernel
theorem dX0_opens_102 : decode cX0_opens 102 = .ok (.isub, 1) := by decide +kernel
theorem dX0_opens_103 : decode cX0_opens 103 = .ok (.invokevirtual 37, 3) := by decide +kernel
theorem dX0_opens_106 : decode cX0_opens 106 = .ok (.ixor, 1) := by decide +kernel
theorem dX0_opens_107 : decode cX0_opens 107 = .ok (.ireturn, 1) := by decide +kernel
theorem dX1_init_0 : decode cX1_init 0 = .ok (.aload_n 0, 1) := by decide +kernel
theorem dX1_init_1 : decode cX1_init 1 = .ok (.invokespecial 1, 3) := by decide +kernel
theorem dX1_init_4 : decode cX1_init 4 = .ok (.aload_n 0, 1) := by decide +kernel
theorem dX1_init_5 : decode cX1_init 5 = .ok (.iload_n 1, 1) := by decide +kernel
theorem dX1_init_6 : decode cX1_init 6 = .ok (.ifCond .ge 7, 3) := by decide +kernel
theorem dX1_init_9 : decode cX1_init 9 = .ok (.iconst 0, 1) := by decide +kernel
theorem dX1_init_10 : decode cX1_init 10 = .ok (.goto 4, 3) := by decide +kernel
theorem dX1_init_13 : decode cX1_init 13 = .ok (.iload_n 1, 1) := by decide +kernel
theorem dX1_init_14 : decode cX1_init 14 = .ok (.newarray .int, 2) := by decide +kernel
theorem dX1_init_16 : decode cX1_init 16 = .ok (.putfield 7, 3) := by decide +kernel
theorem dX1_init_19 : decode cX1_init 19 = .ok (.return_, 1) := by decide +kernel
theorem dX1_get_0 : decode cX1_get 0 = .ok (.iload_n 1, 1) := by decide +kernel
theorem dX1_get_1 : decode cX1_get 1 = .ok (.ifCond .lt 21, 3) := by decide +kernel
theorem dX1_get_4 : decode cX1_get 4 = .ok (.iload_n 1, 1) := by decide +kernel
theorem dX1_get_5 : decode cX1_get 5 = .ok (.aload_n 0, 1) := by decide +kernel
theorem dX1_get_6 : decode cX1_get 6 = .ok (.getfield 7, 3) := by decide +kernel
theorem dX1_get_9 : decode cX1_get 9 = .ok (.arraylength, 1) := by decide +kernel
theorem dX1_get_10 : decode cX1_get 10 = .ok (.if_icmp .ge 12, 3) := by decide +kernel
theorem dX1_get_13 : decode cX1_get 13 = .ok (.aload_n 0, 1) := by decide +kernel
theorem dX1_get_14 : decode cX1_get 14 = .ok (.getfield 7, 3) := by decide +kernel
theorem dX1_get_17 : decode cX1_get 17 = .ok (.iload_n 1, 1) := by decide +kernel
theorem dX1_get_18 : decode cX1_get 18 = .ok (.iaload, 1) := by decide +kernel
theorem dX1_get_19 : decode cX1_get 19 = .ok (.goto 4, 3) := by decide +kernel
theorem dX1_get_22 : decode cX1_get 22 = .ok (.iconst 0, 1) := by decide +kernel
theorem dX1_get_23 : decode cX1_get 23 = .ok (.ireturn, 1) := by decide +kernel
theorem dX1_keep_0 : decode cX1_keep 0 = .ok (.iload_n 1, 1) := by decide +kernel
theorem dX1_keep_1 : decode cX1_keep 1 = .ok (.ifCond .lt 19, 3) := by decide +kernel
theorem dX1_keep_4 : decode cX1_keep 4 = .ok (.iload_n 1, 1) := by decide +kernel
theorem dX1_keep_5 : decode cX1_keep 5 = .ok (.aload_n 0, 1) := by decide +kernel
theorem dX1_keep_6 : decode cX1_keep 6 = .ok (.getfield 7, 3) := by decide +kernel
theorem dX1_keep_9 : decode cX1_keep 9 = .ok (.arraylength, 1) := by decide +kernel
theorem dX1_keep_10 : decode cX1_keep 10 = .ok (.if_icmp .ge 10, 3) := by decide +kernel
theorem dX1_keep_13 : decode cX1_keep 13 = .ok (.aload_n 0, 1) := by decide +kernel
theorem dX1_keep_14 : decode cX1_keep 14 = .ok (.getfield 7, 3) := by decide +kernel
theorem dX1_keep_17 : decode cX1_keep 17 = .ok (.iload_n 1, 1) := by decide +kernel
theorem dX1_keep_18 : decode cX1_keep 18 = .ok (.iload_n 2, 1) := by decide +kernel
theorem dX1_keep_19 : decode cX1_keep 19 = .ok (.iastore, 1) := by decide +kernel
theorem dX1_keep_20 : decode cX1_keep 20 = .ok (.return_, 1) := by decide +kernel
theorem dX1_becomeAs_0 : decode cX1_becomeAs 0 = .ok (.iconst 0, 1) := by decide +kernel
theorem dX1_becomeAs_1 : decode cX1_becomeAs 1 = .ok (.istore_n 2, 1) := by decide +kernel
theorem dX1_becomeAs_2 : decode cX1_becomeAs 2 = .ok (.iload_n 2, 1) := by decide +kernel
theorem dX1_becomeAs_3 : decode cX1_becomeAs 3 = .ok (.aload_n 0, 1) := by decide +kernel
theorem dX1_becomeAs_4 : decode cX1_becomeAs 4 = .ok (.getfield 7, 3) := by decide +kernel
theorem dX1_becomeAs_7 : decode cX1_becomeAs 7 = .ok (.arraylength, 1) := by decide +kernel
theorem dX1_becomeAs_8 : decode cX1_becomeAs 8 = .ok (.if_icmp .ge 20, 3) := by decide +kernel
theorem dX1_becomeAs_11 : decode cX1_becomeAs 11 = .ok (.aload_n 0, 1) := by decide +kernel
theorem dX1_becomeAs_12 : decode cX1_becomeAs 12 = .ok (.getfield 7, 3) := by decide +kernel
theorem dX1_becomeAs_15 : decode cX1_becomeAs 15 = .ok (.iload_n 2, 1) := by decide +kernel
theorem dX1_becomeAs_16 : decode cX1_becomeAs 16 = .ok (.aload_n 1, 1) := by decide +kernel
theorem dX1_becomeAs_17 : decode cX1_becomeAs 17 = .ok (.iload_n 2, 1) := by decide +kernel
theorem dX1_becomeAs_18 : decode cX1_becomeAs 18 = .ok (.invokevirtual 13, 3) := by decide +kernel
theorem dX1_becomeAs_21 : decode cX1_becomeAs 21 = .ok (.iastore, 1) := by decide +kernel
theorem dX1_becomeAs_22 : decode cX1_becomeAs 22 = .ok (.iinc 2 1, 3) := by decide +kernel
theorem dX1_becomeAs_25 : decode cX1_becomeAs 25 = .ok (.goto (-23), 3) := by decide +kernel
theorem dX1_becomeAs_28 : decode cX1_becomeAs 28 = .ok (.return_, 1) := by decide +kernel
theorem dX1_clear_0 : decode cX1_clear 0 = .ok (.iconst 0, 1) := by decide +kernel
theorem dX1_clear_1 : decode cX1_clear 1 = .ok (.istore_n 1, 1) := by decide +kernel
theorem dX1_clear_2 : decode cX1_clear 2 = .ok (.iload_n 1, 1) := by decide +kernel
theorem dX1_clear_3 : decode cX1_clear 3 = .ok (.aload_n 0, 1) := by decide +kernel
theorem dX1_clear_4 : decode cX1_clear 4 = .ok (.getfield 7, 3) := by decide +kernel
theorem dX1_clear_7 : decode cX1_clear 7 = .ok (.arraylength, 1) := by decide +kernel
theorem dX1_clear_8 : decode cX1_clear 8 = .ok (.if_icmp .ge 16, 3) := by decide +kernel
theorem dX1_clear_11 : decode cX1_clear 11 = .ok (.aload_n 0, 1) := by decide +kernel
theorem dX1_clear_12 : decode cX1_clear 12 = .ok (.getfield 7, 3) := by decide +kernel
theorem dX1_clear_15 : decode cX1_clear 15 = .ok (.iload_n 1, 1) := by decide +kernel
theorem dX1_clear_16 : decode cX1_clear 16 = .ok (.iconst 0, 1) := by decide +kernel
theorem dX1_clear_17 : decode cX1_clear 17 = .ok (.iastore, 1) := by decide +kernel
theorem dX1_clear_18 : decode cX1_clear 18 = .ok (.iinc 1 1, 3) := by decide +kernel
theorem dX1_clear_21 : decode cX1_clear 21 = .ok (.goto (-19), 3) := by decide +kernel
theorem dX1_clear_24 : decode cX1_clear 24 = .ok (.return_, 1) := by decide +kernel
theorem dX2_isKind_0 : decode cX2_isKind 0 = .ok (.iload_n 0, 1) := by decide +kernel
theorem dX2_isKind_1 : decode cX2_isKind 1 = .ok (.ifCond .lt 13, 3) := by decide +kernel
theorem dX2_isKind_4 : decode cX2_isKind 4 = .ok (.iload_n 0, 1) := by decide +kernel
theorem dX2_isKind_5 : decode cX2_isKind 5 = .ok (.bipush 6, 2) := by decide +kernel
theorem dX2_isKind_7 : decode cX2_isKind 7 = .ok (.if_icmp .gt 7, 3) := by decide +kernel
theorem dX2_isKind_10 : decode cX2_isKind 10 = .ok (.iconst 1, 1) := by decide +kernel
theorem dX2_isKind_11 : decode cX2_isKind 11 = .ok (.goto 4, 3) := by decide +kernel
theorem dX2_isKind_14 : decode cX2_isKind 14 = .ok (.iconst 0, 1) := by decide +kernel
theorem dX2_isKind_15 : decode cX2_isKind 15 = .ok (.ireturn, 1) := by decide +kernel
theorem dX2_above_0 : decode cX2_above 0 = .ok (.iload_n 0, 1) := by decide +kernel
theorem dX2_above_1 : decode cX2_above 1 = .ok (.lookupswitch 31 #[(3, 27), (5, 29)], 27) := by decide +kernel
theorem dX2_above_28 : decode cX2_above 28 = .ok (.iconst 2, 1) := by decide +kernel
theorem dX2_above_29 : decode cX2_above 29 = .ok (.ireturn, 1) := by decide +kernel
theorem dX2_above_30 : decode cX2_above 30 = .ok (.iconst 4, 1) := by decide +kernel
theorem dX2_above_31 : decode cX2_above 31 = .ok (.ireturn, 1) := by decide +kernel
theorem dX2_above_32 : decode cX2_above 32 = .ok (.iconst 0, 1) := by decide +kernel
theorem dX2_above_33 : decode cX2_above 33 = .ok (.ireturn, 1) := by decide +kernel
theorem dX2_isUnder_0 : decode cX2_isUnder 0 = .ok (.iload_n 1, 1) := by decide +kernel
theorem dX2_isUnder_1 : decode cX2_isUnder 1 = .ok (.ifCond .eq 16, 3) := by decide +kernel
theorem dX2_isUnder_4 : decode cX2_isUnder 4 = .ok (.iload_n 0, 1) := by decide +kernel
theorem dX2_isUnder_5 : decode cX2_isUnder 5 = .ok (.iload_n 1, 1) := by decide +kernel
theorem dX2_isUnder_6 : decode cX2_isUnder 6 = .ok (.if_icmp .eq 11, 3) := by decide +kernel
theorem dX2_isUnder_9 : decode cX2_isUnder 9 = .ok (.iload_n 0, 1) := by decide +kernel
theorem dX2_isUnder_10 : decode cX2_isUnder 10 = .ok (.invokestatic 9, 3) := by decide +kernel
theorem dX2_isUnder_13 : decode cX2_isUnder 13 = .ok (.iload_n 1, 1) := by decide +kernel
theorem dX2_isUnder_14 : decode cX2_isUnder 14 = .ok (.if_icmp .ne 7, 3) := by decide +kernel
theorem dX2_isUnder_17 : decode cX2_isUnder 17 = .ok (.iconst 1, 1) := by decide +kernel
theorem dX2_isUnder_18 : decode cX2_isUnder 18 = .ok (.goto 4, 3) := by decide +kernel
theorem dX2_isUnder_21 : decode cX2_isUnder 21 = .ok (.iconst 0, 1) := by decide +kernel
theorem dX2_isUnder_22 : decode cX2_isUnder 22 = .ok (.ireturn, 1) := by decide +kernel
theorem dX3_init_0 : decode cX3_init 0 = .ok (.aload_n 0, 1) := by decide +kernel
theorem dX3_init_1 : decode cX3_init 1 = .ok (.invokespecial 3, 3) := by decide +kernel
theorem dX3_init_4 : decode cX3_init 4 = .ok (.aload_n 0, 1) := by decide +kernel
theorem dX3_init_5 : decode cX3_init 5 = .ok (.aload_n 1, 1) := by decide +kernel
theorem dX3_init_6 : decode cX3_init 6 = .ok (.putfield 9, 3) := by decide +kernel
theorem dX3_init_9 : decode cX3_init 9 = .ok (.aload_n 0, 1) := by decide +kernel
theorem dX3_init_10 : decode cX3_init 10 = .ok (.aload_n 2, 1) := by decide +kernel
theorem dX3_init_11 : decode cX3_init 11 = .ok (.putfield 15, 3) := by decide +kernel
theorem dX3_init_14 : decode cX3_init 14 = .ok (.aload_n 0, 1) := by decide +kernel
theorem dX3_init_15 : decode cX3_init 15 = .ok (.new 19, 3) := by decide +kernel
theorem dX3_init_18 : decode cX3_init 18 = .ok (.dup, 1) := by decide +kernel
theorem dX3_init_19 : decode cX3_init 19 = .ok (.sipush 160, 3) := by decide +kernel
theorem dX3_init_22 : decode cX3_init 22 = .ok (.invokespecial 23, 3) := by decide +kernel
theorem dX3_init_25 : decode cX3_init 25 = .ok (.putfield 26, 3) := by decide +kernel
theorem dX3_init_28 : decode cX3_init 28 = .ok (.aload_n 0, 1) := by decide +kernel
theorem dX3_init_29 : decode cX3_init 29 = .ok (.iconst (-1), 1) := by decide +kernel
theorem dX3_init_30 : decode cX3_init 30 = .ok (.putfield 30, 3) := by decide +kernel
theorem dX3_init_33 : decode cX3_init 33 = .ok (.return_, 1) := by decide +kernel
theorem dX3_faultFound_0 : decode cX3_faultFound 0 = .ok (.aload_n 0, 1) := by decide +kernel
theorem dX3_faultFound_1 : decode cX3_faultFound 1 = .ok (.getfield 30, 3) := by decide +kernel
theorem dX3_faultFound_4 : decode cX3_faultFound 4 = .ok (.ireturn, 1) := by decide +kernel
theorem dX3_readItems_0 : decode cX3_readItems 0 = .ok (.aload_n 0, 1) := by decide +kernel
theorem dX3_readItems_1 : decode cX3_readItems 1 = .ok (.getfield 9, 3) := by decide +kernel
theorem dX3_readItems_4 : decode cX3_readItems 4 = .ok (.iload_n 1, 1) := by decide +kernel
theorem dX3_readItems_5 : decode cX3_readItems 5 = .ok (.invokevirtual 34, 3) := by decide +kernel
theorem dX3_readItems_8 : decode cX3_readItems 8 = .ok (.istore_n 2, 1) := by decide +kernel
theorem dX3_readItems_9 : decode cX3_readItems 9 = .ok (.iconst 0, 1) := by decide +kernel
theorem dX3_readItems_10 : decode cX3_readItems 10 = .ok (.istore_n 3, 1) := by decide +kernel
theorem dX3_readItems_11 : decode cX3_readItems 11 = .ok (.iload_n 3, 1) := by decide +kernel
theorem dX3_readItems_12 : decode cX3_readItems 12 = .ok (.sipush 160, 3) := by decide +kernel
theorem dX3_readItems_15 : decode cX3_readItems 15 = .ok (.if_icmp .ge 26, 3) := by decide +kernel
theorem dX3_readItems_18 : decode cX3_readItems 18 = .ok (.aload_n 0, 1) := by decide +kernel
theorem dX3_readItems_19 : decode cX3_readItems 19 = .ok (.getfield 26, 3) := by decide +kernel
theorem dX3_readItems_22 : decode cX3_readItems 22 = .ok (.iload_n 3, 1) := by decide +kernel
theorem dX3_readItems_23 : decode cX3_readItems 23 = .ok (.aload_n 0, 1) := by decide +kernel
theorem dX3_readItems_24 : decode cX3_readItems 24 = .ok (.getfield 9, 3) := by decide +kernel
theorem dX3_readItems_27 : decode cX3_readItems 27 = .ok (.iload_n 1, 1) := by decide +kernel
theorem dX3_readItems_28 : decode cX3_readItems 28 = .ok (.iload_n 3, 1) := by decide +kernel
theorem dX3_readItems_29 : decode cX3_readItems 29 = .ok (.invokevirtual 38, 3) := by decide +kernel
theorem dX3_readItems_32 : decode cX3_readItems 32 = .ok (.invokevirtual 42, 3) := by decide +kernel
theorem dX3_readItems_35 : decode cX3_readItems 35 = .ok (.iinc 3 1, 3) := by decide +kernel
theorem dX3_readItems_38 : decode cX3_readItems 38 = .ok (.goto (-27), 3) := by decide +kernel
theorem dX3_readItems_41 : decode cX3_readItems 41 = .ok (.aload_n 0, 1) := by decide +kernel
theorem dX3_readItems_42 : decode cX3_readItems 42 = .ok (.iconst 0, 1) := by decide +kernel
theorem dX3_readItems_43 : decode cX3_readItems 43 = .ok (.putfield 46, 3) := by decide +kernel
theorem dX3_readItems_46 : decode cX3_readItems 46 = .ok (.aload_n 0, 1) := by decide +kernel
theorem dX3_readItems_47 : decode cX3_readItems 47 = .ok (.iconst (-1), 1) := by decide +kernel
theorem dX3_readItems_48 : decode cX3_readItems 48 = .ok (.putfield 30, 3) := by decide +kernel
theorem dX3_readItems_51 : decode cX3_readItems 51 = .ok (.aload_n 0, 1) := by decide +kernel
theorem dX3_readItems_52 : decode cX3_readItems 52 = .ok (.invokevirtual 49, 3) := by decide +kernel
theorem dX3_readItems_55 : decode cX3_readItems 55 = .ok (.iconst 1, 1) := by decide +kernel
theorem dX3_readItems_56 : decode cX3_readItems 56 = .ok (.istore_n 3, 1) := by decide +kernel
theorem dX3_readItems_57 : decode cX3_readItems 57 = .ok (.iconst 0, 1) := by decide +kernel
theorem dX3_readItems_58 : decode cX3_readItems 58 = .ok (.istore 4, 2) := by decide +kernel
theorem dX3_readItems_60 : decode cX3_readItems 60 = .ok (.iload 4, 2) := by decide +kernel
theorem dX3_readItems_62 : decode cX3_readItems 62 = .ok (.iload_n 2, 1) := by decide +kernel
theorem dX3_readItems_63 : decode cX3_readItems 63 = .ok (.if_icmp .ge 38, 3) := by decide +kernel
theorem dX3_readItems_66 : decode cX3_readItems 66 = .ok (.aload_n 0, 1) := by decide +kernel
theorem dX3_readItems_67 : decode cX3_readItems 67 = .ok (.getfield 30, 3) := by decide +kernel
theorem dX3_readItems_70 : decode cX3_readItems 70 = .ok (.iconst (-1), 1) := by decide +kernel
theorem dX3_readItems_71 : decode cX3_readItems 71 = .ok (.if_icmp .ne 30, 3) := by decide +kernel
theorem dX3_readItems_74 : decode cX3_readItems 74 = .ok (.aload_n 0, 1) := by decide +kernel
theorem dX3_readItems_75 : decode cX3_readItems 75 = .ok (.getfield 46, 3) := by decide +kernel
theorem dX3_readItems_78 : decode cX3_readItems 78 = .ok (.iload_n 2, 1) := by decide +kernel
theorem dX3_readItems_79 : decode cX3_readItems 79 = .ok (.if_icmp .ge 22, 3) := by decide +kernel
theorem dX3_readItems_82 : decode cX3_readItems 82 = .ok (.aload_n 0, 1) := by decide +kernel
theorem dX3_readItems_83 : decode cX3_readItems 83 = .ok (.bipush 59, 2) := by decide +kernel
theorem dX3_readItems_85 : decode cX3_readItems 85 = .ok (.invokevirtual 52, 3) := by decide +kernel
theorem dX3_readItems_88 : decode cX3_readItems 88 = .ok (.aload_n 0, 1) := by decide +kernel
theorem dX3_readItems_89 : decode cX3_readItems 89 = .ok (.invokevirtual 49, 3) := by decide +kernel
theorem dX3_readItems_92 : decode cX3_readItems 92 = .ok (.iinc 3 1, 3) := by decide +kernel
theorem dX3_readItems_95 : decode cX3_readItems 95 = .ok (.iinc 4 1, 3) := by decide +kernel
theorem dX3_readItems_98 : decode cX3_readItems 98 = .ok (.goto (-38), 3) := by decide +kernel
theorem dX3_readItems_101 : decode cX3_readItems 101 = .ok (.iload_n 3, 1) := by decide +kernel
theorem dX3_readItems_102 : decode cX3_readItems 102 = .ok (.ireturn, 1) := by decide +kernel
theorem dX3_fail_0 : decode cX3_fail 0 = .ok (.aload_n 0, 1) := by decide +kernel
theorem dX3_fail_1 : decode cX3_fail 1 = .ok (.getfield 30, 3) := by decide +kernel
theorem dX3_fail_4 : decode cX3_fail 4 = .ok (.iconst (-1), 1) := by decide +kernel
theorem dX3_fail_5 : decode cX3_fail 5 = .ok (.if_icmp .ne 8, 3) := by decide +kernel
theorem dX3_fail_8 : decode cX3_fail 8 = .ok (.aload_n 0, 1) := by decide +kernel
theorem dX3_fail_9 : decode cX3_fail 9 = .ok (.iload_n 1, 1) := by decide +kernel
theorem dX3_fail_10 : decode cX3_fail 10 = .ok (.putfield 30, 3) := by decide +kernel
theorem dX3_fail_13 : decode cX3_fail 13 = .ok (.return_, 1) := by decide +kernel
theorem dX3_readLetter_0 : decode cX3_readLetter 0 = .ok (.aload_n 0, 1) := by decide +kernel
theorem dX3_readLetter_1 : decode cX3_readLetter 1 = .ok (.getfield 30, 3) := by decide +kernel
theorem dX3_readLetter_4 : decode cX3_readLetter 4 = .ok (.iconst (-1), 1) := by decide +kernel
theorem dX3_readLetter_5 : decode cX3_readLetter 5 = .ok (.if_icmp .ne 31, 3) := by decide +kernel
theorem dX3_readLetter_8 : decode cX3_readLetter 8 = .ok (.aload_n 0, 1) := by decide +kernel
theorem dX3_readLetter_9 : decode cX3_readLetter 9 = .ok (.getfield 26, 3) := by decide +kernel
theorem dX3_readLetter_12 : decode cX3_readLetter 12 = .ok (.aload_n 0, 1) := by decide +kernel
theorem dX3_readLetter_13 : decode cX3_readLetter 13 = .ok (.getfield 46, 3) := by decide +kernel
theorem dX3_readLetter_16 : decode cX3_readLetter 16 = .ok (.invokevirtual 56, 3) := by decide +kernel
theorem dX3_readLetter_19 : decode cX3_readLetter 19 = .ok (.iload_n 1, 1) := by decide +kernel
theorem dX3_readLetter_20 : decode cX3_readLetter 20 = .ok (.if_icmp .ne 16, 3) := by decide +kernel
theorem dX3_readLetter_23 : decode cX3_readLetter 23 = .ok (.aload_n 0, 1) := by decide +kernel
theorem dX3_readLetter_24 : decode cX3_readLetter 24 = .ok (.dup, 1) := by decide +kernel
theorem dX3_readLetter_25 : decode cX3_readLetter 25 = .ok (.getfield 46, 3) := by decide +kernel
theorem dX3_readLetter_28 : decode cX3_readLetter 28 = .ok (.iconst 1, 1) := by decide +kernel
theorem dX3_readLetter_29 : decode cX3_readLetter 29 = .ok (.iadd, 1) := by decide +kernel
theorem dX3_readLetter_30 : decode cX3_readLetter 30 = .ok (.putfield 46, 3) := by decide +kernel
theorem dX3_readLetter_33 : decode cX3_readLetter 33 = .ok (.goto 11, 3) := by decide +kernel
theorem dX3_readLetter_36 : decode cX3_readLetter 36 = .ok (.aload_n 0, 1) := by decide +kernel
theorem dX3_readLetter_37 : decode cX3_readLetter 37 = .ok (.aload_n 0, 1) := by decide +kernel
theorem dX3_readLetter_38 : decode cX3_readLetter 38 = .ok (.getfield 46, 3) := by decide +kernel
theorem dX3_readLetter_41 : decode cX3_readLetter 41 = .ok (.invokevirtual 59, 3) := by decide +kernel
theorem dX3_readLetter_44 : decode cX3_readLetter 44 = .ok (.return_, 1) := by decide +kernel
theorem dX3_readWord_0 : decode cX3_readWord 0 = .ok (.iload_n 2, 1) := by decide +kernel
theorem dX3_readWord_1 : decode cX3_readWord 1 = .ok (.ifCond .ne 11, 3) := by decide +kernel
theorem dX3_readWord_4 : decode cX3_readWord 4 = .ok (.aload_n 0, 1) := by decide +kernel
theorem dX3_readWord_5 : decode cX3_readWord 5 = .ok (.aload_n 0, 1) := by decide +kernel
theorem dX3_readWord_6 : decode cX3_readWord 6 = .ok (.getfield 46, 3) := by decide +kernel
theorem dX3_readWord_9 : decode cX3_readWord 9 = .ok (.invokevirtual 59, 3) := by decide +kernel
theorem dX3_readWord_12 : decode cX3_readWord 12 = .ok (.iconst 0, 1) := by decide +kernel
theorem dX3_readWord_13 : decode cX3_readWord 13 = .ok (.istore_n 3, 1) := by decide +kernel
theorem dX3_readWord_14 : decode cX3_readWord 14 = .ok (.iload_n 3, 1) := by decide +kernel
theorem dX3_readWord_15 : decode cX3_readWord 15 = .ok (.aload_n 1, 1) := by decide +kernel
theorem dX3_readWord_16 : decode cX3_readWord 16 = .ok (.invokevirtual 62, 3) := by decide +kernel
theorem dX3_readWord_19 : decode cX3_readWord 19 = .ok (.if_icmp .ge 18, 3) := by decide +kernel
theorem dX3_readWord_22 : decode cX3_readWord 22 = .ok (.aload_n 0, 1) := by decide +kernel
theorem dX3_readWord_23 : decode cX3_readWord 23 = .ok (.aload_n 1, 1) := by decide +kernel
theorem dX3_readWord_24 : decode cX3_readWord 24 = .ok (.iload_n 3, 1) := by decide +kernel
theorem dX3_readWord_25 : decode cX3_readWord 25 = .ok (.invokevirtual 68, 3) := by decide +kernel
theorem dX3_readWord_28 : decode cX3_readWord 28 = .ok (.invokevirtual 52, 3) := by decide +kernel
theorem dX3_readWord_31 : decode cX3_readWord 31 = .ok (.iinc 3 1, 3) := by decide +kernel
theorem dX3_readWord_34 : decode cX3_readWord 34 = .ok (.goto (-20), 3) := by decide +kernel
theorem dX3_readWord_37 : decode cX3_readWord 37 = .ok (.return_, 1) := by decide +kernel
theorem dX3_isDigit_0 : decode cX3_isDigit 0 = .ok (.aload_n 0, 1) := by decide +kernel
theorem dX3_isDigit_1 : decode cX3_isDigit 1 = .ok (.getfield 26, 3) := by decide +kernel
theorem dX3_isDigit_4 : decode cX3_isDigit 4 = .ok (.aload_n 0, 1) := by decide +kernel
theorem dX3_isDigit_5 : decode cX3_isDigit 5 = .ok (.getfield 46, 3) := by decide +kernel
theorem dX3_isDigit_8 : decode cX3_isDigit 8 = .ok (.invokevirtual 56, 3) := by decide +kernel
theorem dX3_isDigit_11 : decode cX3_isDigit 11 = .ok (.bipush 48, 2) := by decide +kernel
theorem dX3_isDigit_13 : decode cX3_isDigit 13 = .ok (.if_icmp .lt 23, 3) := by decide +kernel
theorem dX3_isDigit_16 : decode cX3_isDigit 16 = .ok (.aload_n 0, 1) := by decide +kernel
theorem dX3_isDigit_17 : decode cX3_isDigit 17 = .ok (.getfield 26, 3) := by decide +kernel
theorem dX3_isDigit_20 : decode cX3_isDigit 20 = .ok (.aload_n 0, 1) := by decide +kernel
theorem dX3_isDigit_21 : decode cX3_isDigit 21 = .ok (.getfield 46, 3) := by decide +kernel
theorem dX3_isDigit_24 : decode cX3_isDigit 24 = .ok (.invokevirtual 56, 3) := by decide +kernel
theorem dX3_isDigit_27 : decode cX3_isDigit 27 = .ok (.bipush 57, 2) := by decide +kernel
theorem dX3_isDigit_29 : decode cX3_isDigit 29 = .ok (.if_icmp .gt 7, 3) := by decide +kernel
theorem dX3_isDigit_32 : decode cX3_isDigit 32 = .ok (.iconst 1, 1) := by decide +kernel
theorem dX3_isDigit_33 : decode cX3_isDigit 33 = .ok (.goto 4, 3) := by decide +kernel
theorem dX3_isDigit_36 : decode cX3_isDigit 36 = .ok (.iconst 0, 1) := by decide +kernel
theorem dX3_isDigit_37 : decode cX3_isDigit 37 = .ok (.ireturn, 1) := by decide +kernel
theorem dX3_readNumber_0 : decode cX3_readNumber 0 = .ok (.aload_n 0, 1) := by decide +kernel
theorem dX3_readNumber_1 : decode cX3_readNumber 1 = .ok (.bipush 32, 2) := by decide +kernel
theorem dX3_readNumber_3 : decode cX3_readNumber 3 = .ok (.invokevirtual 52, 3) := by decide +kernel
theorem dX3_readNumber_6 : decode cX3_readNumber 6 = .ok (.aload_n 0, 1) := by decide +kernel
theorem dX3_readNumber_7 : decode cX3_readNumber 7 = .ok (.getfield 46, 3) := by decide +kernel
theorem dX3_readNumber_10 : decode cX3_readNumber 10 = .ok (.istore 4, 2) := by decide +kernel
theorem dX3_readNumber_12 : decode cX3_readNumber 12 = .ok (.iconst 0, 1) := by decide +kernel
theorem dX3_readNumber_13 : decode cX3_readNumber 13 = .ok (.istore 5, 2) := by decide +kernel
theorem dX3_readNumber_15 : decode cX3_readNumber 15 = .ok (.iconst 0, 1) := by decide +kernel
theorem dX3_readNumber_16 : decode cX3_readNumber 16 = .ok (.istore 6, 2) := by decide +kernel
theorem dX3_readNumber_18 : decode cX3_readNumber 18 = .ok (.iload 6, 2) := by decide +kernel
theorem dX3_readNumber_20 : decode cX3_readNumber 20 = .ok (.iconst 3, 1) := by decide +kernel
theorem dX3_readNumber_21 : decode cX3_readNumber 21 = .ok (.if_icmp .ge 56, 3) := by decide +kernel
theorem dX3_readNumber_24 : decode cX3_readNumber 24 = .ok (.aload_n 0, 1) := by decide +kernel
theorem dX3_readNumber_25 : decode cX3_readNumber 25 = .ok (.getfield 30, 3) := by decide +kernel
theorem dX3_readNumber_28 : decode cX3_readNumber 28 = .ok (.iconst (-1), 1) := by decide +kernel
theorem dX3_readNumber_29 : decode cX3_readNumber 29 = .ok (.if_icmp .ne 48, 3) := by decide +kernel
theorem dX3_readNumber_32 : decode cX3_readNumber 32 = .ok (.aload_n 0, 1) := by decide +kernel
theorem dX3_readNumber_33 : decode cX3_readNumber 33 = .ok (.invokevirtual 72, 3) := by decide +kernel
theorem dX3_readNumber_36 : decode cX3_readNumber 36 = .ok (.ifCond .eq 41, 3) := by decide +kernel
theorem dX3_readNumber_39 : decode cX3_readNumber 39 = .ok (.iload 5, 2) := by decide +kernel
theorem dX3_readNumber_41 : decode cX3_readNumber 41 = .ok (.bipush 10, 2) := by decide +kernel
theorem dX3_readNumber_43 : decode cX3_readNumber 43 = .ok (.imul, 1) := by decide +kernel
theorem dX3_readNumber_44 : decode cX3_readNumber 44 = .ok (.aload_n 0, 1) := by decide +kernel
theorem dX3_readNumber_45 : decode cX3_readNumber 45 = .ok (.getfield 26, 3) := by decide +kernel
theorem dX3_readNumber_48 : decode cX3_readNumber 48 = .ok (.aload_n 0, 1) := by decide +kernel
theorem dX3_readNumber_49 : decode cX3_readNumber 49 = .ok (.getfield 46, 3) := by decide +kernel
theorem dX3_readNumber_52 : decode cX3_readNumber 52 = .ok (.invokevirtual 56, 3) := by decide +kernel
theorem dX3_readNumber_55 : decode cX3_readNumber 55 = .ok (.iadd, 1) := by decide +kernel
theorem dX3_readNumber_56 : decode cX3_readNumber 56 = .ok (.bipush 48, 2) := by decide +kernel
theorem dX3_readNumber_58 : decode cX3_readNumber 58 = .ok (.isub, 1) := by decide +kernel
theorem dX3_readNumber_59 : decode cX3_readNumber 59 = .ok (.istore 5, 2) := by decide +kernel
theorem dX3_readNumber_61 : decode cX3_readNumber 61 = .ok (.aload_n 0, 1) := by decide +kernel
theorem dX3_readNumber_62 : decode cX3_readNumber 62 = .ok (.dup, 1) := by decide +kernel
theorem dX3_readNumber_63 : decode cX3_readNumber 63 = .ok (.getfield 46, 3) := by decide +kernel
theorem dX3_readNumber_66 : decode cX3_readNumber 66 = .ok (.iconst 1, 1) := by decide +kernel
theorem dX3_readNumber_67 : decode cX3_readNumber 67 = .ok (.iadd, 1) := by decide +kernel
theorem dX3_readNumber_68 : decode cX3_readNumber 68 = .ok (.putfield 46, 3) := by decide +kernel
theorem dX3_readNumber_71 : decode cX3_readNumber 71 = .ok (.iinc 6 1, 3) := by decide +kernel
theorem dX3_readNumber_74 : decode cX3_readNumber 74 = .ok (.goto (-56), 3) := by decide +kernel
theorem dX3_readNumber_77 : decode cX3_readNumber 77 = .ok (.aload_n 0, 1) := by decide +kernel
theorem dX3_readNumber_78 : decode cX3_readNumber 78 = .ok (.getfield 46, 3) := by decide +kernel
theorem dX3_readNumber_81 : decode cX3_readNumber 81 = .ok (.iload 4, 2) := by decide +kernel
theorem dX3_readNumber_83 : decode cX3_readNumber 83 = .ok (.if_icmp .eq 21, 3) := by decide +kernel
theorem dX3_readNumber_86 : decode cX3_readNumber 86 = .ok (.iload 5, 2) := by decide +kernel
theorem dX3_readNumber_88 : decode cX3_readNumber 88 = .ok (.iload_n 1, 1) := by decide +kernel
theorem dX3_readNumber_89 : decode cX3_readNumber 89 = .ok (.if_icmp .lt 15, 3) := by decide +kernel
theorem dX3_readNumber_92 : decode cX3_readNumber 92 = .ok (.iload 5, 2) := by decide +kernel
theorem dX3_readNumber_94 : decode cX3_readNumber 94 = .ok (.iload_n 2, 1) := by decide +kernel
theorem dX3_readNumber_95 : decode cX3_readNumber 95 = .ok (.if_icmp .gt 9, 3) := by decide +kernel
theorem dX3_readNumber_98 : decode cX3_readNumber 98 = .ok (.iload 5, 2) := by decide +kernel
theorem dX3_readNumber_100 : decode cX3_readNumber 100 = .ok (.iload_n 3, 1) := by decide +kernel
theorem dX3_readNumber_101 : decode cX3_readNumber 101 = .ok (.if_icmp .ne 9, 3) := by decide +kernel
theorem dX3_readNumber_104 : decode cX3_readNumber 104 = .ok (.aload_n 0, 1) := by decide +kernel
theorem dX3_readNumber_105 : decode cX3_readNumber 105 = .ok (.iload 4, 2) := by decide +kernel
theorem dX3_readNumber_107 : decode cX3_readNumber 107 = .ok (.invokevirtual 59, 3) := by decide +kernel
theorem dX3_readNumber_110 : decode cX3_readNumber 110 = .ok (.iload 5, 2) := by decide +kernel
theorem dX3_readNumber_112 : decode cX3_readNumber 112 = .ok (.ireturn, 1) := by decide +kernel
theorem dX3_readItem_0 : decode cX3_readItem 0 = .ok (.aload_n 0, 1) := by decide +kernel
theorem dX3_readItem_1 : decode cX3_readItem 1 = .ok (.getfield 30, 3) := by decide +kernel
theorem dX3_readItem_4 : decode cX3_readItem 4 = .ok (.iconst (-1), 1) := by decide +kernel
theorem dX3_readItem_5 : decode cX3_readItem 5 = .ok (.if_icmp .eq 4, 3) := by decide +kernel
theorem dX3_readItem_8 : decode cX3_readItem 8 = .ok (.return_, 1) := by decide +kernel
theorem dX3_readItem_9 : decode cX3_readItem 9 = .ok (.aload_n 0, 1) := by decide +kernel
theorem dX3_readItem_10 : decode cX3_readItem 10 = .ok (.getfield 26, 3) := by decide +kernel
theorem dX3_readItem_13 : decode cX3_readItem 13 = .ok (.aload_n 0, 1) := by decide +kernel
theorem dX3_readItem_14 : decode cX3_readItem 14 = .ok (.getfield 46, 3) := by decide +kernel
theorem dX3_readItem_17 : decode cX3_readItem 17 = .ok (.invokevirtual 56, 3) := by decide +kernel
theorem dX3_readItem_20 : decode cX3_readItem 20 = .ok (.lookupswitch 87 #[(98, 80), (104, 52), (108, 73), (115, 66), (119, 59)], 52) := by decide +kernel
theorem dX3_readItem_72 : decode cX3_readItem 72 = .ok (.aload_n 0, 1) := by decide +kernel
theorem dX3_readItem_73 : decode cX3_readItem 73 = .ok (.invokevirtual 76, 3) := by decide +kernel
theorem dX3_readItem_76 : decode cX3_readItem 76 = .ok (.goto 39, 3) := by decide +kernel
theorem dX3_readItem_79 : decode cX3_readItem 79 = .ok (.aload_n 0, 1) := by decide +kernel
theorem dX3_readItem_80 : decode cX3_readItem 80 = .ok (.invokevirtual 79, 3) := by decide +kernel
theorem dX3_readItem_83 : decode cX3_readItem 83 = .ok (.goto 32, 3) := by decide +kernel
theorem dX3_readItem_86 : decode cX3_readItem 86 = .ok (.aload_n 0, 1) := by decide +kernel
theorem dX3_readItem_87 : decode cX3_readItem 87 = .ok (.invokevirtual 82, 3) := by decide +kernel
theorem dX3_readItem_90 : decode cX3_readItem 90 = .ok (.goto 25, 3) := by decide +kernel
theorem dX3_readItem_93 : decode cX3_readItem 93 = .ok (.aload_n 0, 1) := by decide +kernel
theorem dX3_readItem_94 : decode cX3_readItem 94 = .ok (.invokevirtual 85, 3) := by decide +kernel
theorem dX3_readItem_97 : decode cX3_readItem 97 = .ok (.goto 18, 3) := by decide +kernel
theorem dX3_readItem_100 : decode cX3_readItem 100 = .ok (.aload_n 0, 1) := by decide +kernel
theorem dX3_readItem_101 : decode cX3_readItem 101 = .ok (.invokevirtual 88, 3) := by decide +kernel
theorem dX3_readItem_104 : decode cX3_readItem 104 = .ok (.goto 11, 3) := by decide +kernel
theorem dX3_readItem_107 : decode cX3_readItem 107 = .ok (.aload_n 0, 1) := by decide +kernel
theorem dX3_readItem_108 : decode cX3_readItem 108 = .ok (.aload_n 0, 1) := by decide +kernel
theorem dX3_readItem_109 : decode cX3_readItem 109 = .ok (.getfield 46, 3) := by decide +kernel
theorem dX3_readItem_112 : decode cX3_readItem 112 = .ok (.invokevirtual 59, 3) := by decide +kernel
theorem dX3_readItem_115 : decode cX3_readItem 115 = .ok (.return_, 1) := by decide +kernel
theorem dX3_readHouse_0 : decode cX3_readHouse 0 = .ok (.aload_n 0, 1) := by decide +kernel
theorem dX3_readHouse_1 : decode cX3_readHouse 1 = .ok (.ldc 91, 2) := by decide +kernel
theorem dX3_readHouse_3 : decode cX3_readHouse 3 = .ok (.aload_n 0, 1) := by decide +kernel
theorem dX3_readHouse_4 : decode cX3_readHouse 4 = .ok (.getfield 15, 3) := by decide +kernel
theorem dX3_readHouse_7 : decode cX3_readHouse 7 = .ok (.invokevirtual 93, 3) := by decide +kernel
theorem dX3_readHouse_10 : decode cX3_readHouse 10 = .ok (.invokevirtual 98, 3) := by decide +kernel
theorem dX3_readHouse_13 : decode cX3_readHouse 13 = .ok (.aload_n 0, 1) := by decide +kernel
theorem dX3_readHouse_14 : decode cX3_readHouse 14 = .ok (.iconst 0, 1) := by decide +kernel
theorem dX3_readHouse_15 : decode cX3_readHouse 15 = .ok (.bipush 6, 2) := by decide +kernel
theorem dX3_readHouse_17 : decode cX3_readHouse 17 = .ok (.iconst (-1), 1) := by decide +kernel
theorem dX3_readHouse_18 : decode cX3_readHouse 18 = .ok (.invokevirtual 104, 3) := by decide +kernel
theorem dX3_readHouse_21 : decode cX3_readHouse 21 = .ok (.istore_n 1, 1) := by decide +kernel
theorem dX3_readHouse_22 : decode cX3_readHouse 22 = .ok (.aload_n 0, 1) := by decide +kernel
theorem dX3_readHouse_23 : decode cX3_readHouse 23 = .ok (.iconst 0, 1) := by decide +kernel
theorem dX3_readHouse_24 : decode cX3_readHouse 24 = .ok (.sipush 255, 3) := by decide +kernel
theorem dX3_readHouse_27 : decode cX3_readHouse 27 = .ok (.iconst (-1), 1) := by decide +kernel
theorem dX3_readHouse_28 : decode cX3_readHouse 28 = .ok (.invokevirtual 104, 3) := by decide +kernel
theorem dX3_readHouse_31 : decode cX3_readHouse 31 = .ok (.istore_n 2, 1) := by decide +kernel
theorem dX3_readHouse_32 : decode cX3_readHouse 32 = .ok (.aload_n 0, 1) := by decide +kernel
theorem dX3_readHouse_33 : decode cX3_readHouse 33 = .ok (.iconst 0, 1) := by decide +kernel
theorem dX3_readHouse_34 : decode cX3_readHouse 34 = .ok (.sipush 255, 3) := by decide +kernel
theorem dX3_readHouse_37 : decode cX3_readHouse 37 = .ok (.iconst (-1), 1) := by decide +kernel
theorem dX3_readHouse_38 : decode cX3_readHouse 38 = .ok (.invokevirtual 104, 3) := by decide +kernel
theorem dX3_readHouse_41 : decode cX3_readHouse 41 = .ok (.istore_n 3, 1) := by decide +kernel
theorem dX3_readHouse_42 : decode cX3_readHouse 42 = .ok (.aload_n 0, 1) := by decide +kernel
theorem dX3_readHouse_43 : decode cX3_readHouse 43 = .ok (.getfield 30, 3) := by decide +kernel
theorem dX3_readHouse_46 : decode cX3_readHouse 46 = .ok (.iconst (-1), 1) := by decide +kernel
theorem dX3_readHouse_47 : decode cX3_readHouse 47 = .ok (.if_icmp .ne 14, 3) := by decide +kernel
theorem dX3_readHouse_50 : decode cX3_readHouse 50 = .ok (.aload_n 0, 1) := by decide +kernel
theorem dX3_readHouse_51 : decode cX3_readHouse 51 = .ok (.getfield 15, 3) := by decide +kernel
theorem dX3_readHouse_54 : decode cX3_readHouse 54 = .ok (.iload_n 1, 1) := by decide +kernel
theorem dX3_readHouse_55 : decode cX3_readHouse 55 = .ok (.iload_n 2, 1) := by decide +kernel
theorem dX3_readHouse_56 : decode cX3_readHouse 56 = .ok (.iload_n 3, 1) := by decide +kernel
theorem dX3_readHouse_57 : decode cX3_readHouse 57 = .ok (.invokevirtual 108, 3) := by decide +kernel
theorem dX3_readHouse_60 : decode cX3_readHouse 60 = .ok (.pop, 1) := by decide +kernel
theorem dX3_readHouse_61 : decode cX3_readHouse 61 = .ok (.return_, 1) := by decide +kernel
theorem dX3_readWay_0 : decode cX3_readWay 0 = .ok (.aload_n 0, 1) := by decide +kernel
theorem dX3_readWay_1 : decode cX3_readWay 1 = .ok (.ldc 111, 2) := by decide +kernel
theorem dX3_readWay_3 : decode cX3_readWay 3 = .ok (.aload_n 0, 1) := by decide +kernel
theorem dX3_readWay_4 : decode cX3_readWay 4 = .ok (.getfield 15, 3) := by decide +kernel
theorem dX3_readWay_7 : decode cX3_readWay 7 = .ok (.invokevirtual 113, 3) := by decide +kernel
theorem dX3_readWay_10 : decode cX3_readWay 10 = .ok (.invokevirtual 98, 3) := by decide +kernel
theorem dX3_readWay_13 : decode cX3_readWay 13 = .ok (.aload_n 0, 1) := by decide +kernel
theorem dX3_readWay_14 : decode cX3_readWay 14 = .ok (.iconst 0, 1) := by decide +kernel
theorem dX3_readWay_15 : decode cX3_readWay 15 = .ok (.aload_n 0, 1) := by decide +kernel
theorem dX3_readWay_16 : decode cX3_readWay 16 = .ok (.getfield 15, 3) := by decide +kernel
theorem dX3_readWay_19 : decode cX3_readWay 19 = .ok (.invokevirtual 116, 3) := by decide +kernel
theorem dX3_readWay_22 : decode cX3_readWay 22 = .ok (.iconst 1, 1) := by decide +kernel
theorem dX3_readWay_23 : decode cX3_readWay 23 = .ok (.isub, 1) := by decide +kernel
theorem dX3_readWay_24 : decode cX3_readWay 24 = .ok (.iconst (-1), 1) := by decide +kernel
theorem dX3_readWay_25 : decode cX3_readWay 25 = .ok (.invokevirtual 104, 3) := by decide +kernel
theorem dX3_readWay_28 : decode cX3_readWay 28 = .ok (.istore_n 1, 1) := by decide +kernel
theorem dX3_readWay_29 : decode cX3_readWay 29 = .ok (.aload_n 0, 1) := by decide +kernel
theorem dX3_readWay_30 : decode cX3_readWay 30 = .ok (.iconst 0, 1) := by decide +kernel
theorem dX3_readWay_31 : decode cX3_readWay 31 = .ok (.aload_n 0, 1) := by decide +kernel
theorem dX3_readWay_32 : decode cX3_readWay 32 = .ok (.getfield 15, 3) := by decide +kernel
theorem dX3_readWay_35 : decode cX3_readWay 35 = .ok (.invokevirtual 116, 3) := by decide +kernel
theorem dX3_readWay_38 : decode cX3_readWay 38 = .ok (.iconst 1, 1) := by decide +kernel
theorem dX3_readWay_39 : decode cX3_readWay 39 = .ok (.isub, 1) := by decide +kernel
theorem dX3_readWay_40 : decode cX3_readWay 40 = .ok (.iload_n 1, 1) := by decide +kernel
theorem dX3_readWay_41 : decode cX3_readWay 41 = .ok (.invokevirtual 104, 3) := by decide +kernel
theorem dX3_readWay_44 : decode cX3_readWay 44 = .ok (.istore_n 2, 1) := by decide +kernel
theorem dX3_readWay_45 : decode cX3_readWay 45 = .ok (.aload_n 0, 1) := by decide +kernel
theorem dX3_readWay_46 : decode cX3_readWay 46 = .ok (.iconst 1, 1) := by decide +kernel
theorem dX3_readWay_47 : decode cX3_readWay 47 = .ok (.bipush 60, 2) := by decide +kernel
theorem dX3_readWay_49 : decode cX3_readWay 49 = .ok (.iconst (-1), 1) := by decide +kernel
theorem dX3_readWay_50 : decode cX3_readWay 50 = .ok (.invokevirtual 104, 3) := by decide +kernel
theorem dX3_readWay_53 : decode cX3_readWay 53 = .ok (.istore_n 3, 1) := by decide +kernel
theorem dX3_readWay_54 : decode cX3_readWay 54 = .ok (.aload_n 0, 1) := by decide +kernel
theorem dX3_readWay_55 : decode cX3_readWay 55 = .ok (.getfield 30, 3) := by decide +kernel
theorem dX3_readWay_58 : decode cX3_readWay 58 = .ok (.iconst (-1), 1) := by decide +kernel
theorem dX3_readWay_59 : decode cX3_readWay 59 = .ok (.if_icmp .ne 14, 3) := by decide +kernel
theorem dX3_readWay_62 : decode cX3_readWay 62 = .ok (.aload_n 0, 1) := by decide +kernel
theorem dX3_readWay_63 : decode cX3_readWay 63 = .ok (.getfield 15, 3) := by decide +kernel
theorem dX3_readWay_66 : decode cX3_readWay 66 = .ok (.iload_n 1, 1) := by decide +kernel
theorem dX3_readWay_67 : decode cX3_readWay 67 = .ok (.iload_n 2, 1) := by decide +kernel
theorem dX3_readWay_68 : decode cX3_readWay 68 = .ok (.iload_n 3, 1) := by decide +kernel
theorem dX3_readWay_69 : decode cX3_readWay 69 = .ok (.invokevirtual 119, 3) := by decide +kernel
theorem dX3_readWay_72 : decode cX3_readWay 72 = .ok (.pop, 1) := by decide +kernel
theorem dX3_readWay_73 : decode cX3_readWay 73 = .ok (.return_, 1) := by decide +kernel
theorem dX3_readShut_0 : decode cX3_readShut 0 = .ok (.aload_n 0, 1) := by decide +kernel
theorem dX3_readShut_1 : decode cX3_readShut 1 = .ok (.ldc 122, 2) := by decide +kernel
theorem dX3_readShut_3 : decode cX3_readShut 3 = .ok (.iconst 1, 1) := by decide +kernel
theorem dX3_readShut_4 : decode cX3_readShut 4 = .ok (.invokevirtual 98, 3) := by decide +kernel
theorem dX3_readShut_7 : decode cX3_readShut 7 = .ok (.aload_n 0, 1) := by decide +kernel
theorem dX3_readShut_8 : decode cX3_readShut 8 = .ok (.iconst 0, 1) := by decide +kernel
theorem dX3_readShut_9 : decode cX3_readShut 9 = .ok (.aload_n 0, 1) := by decide +kernel
theorem dX3_readShut_10 : decode cX3_readShut 10 = .ok (.getfield 15, 3) := by decide +kernel
theorem dX3_readShut_13 : decode cX3_readShut 13 = .ok (.invokevirtual 124, 3) := by decide +kernel
theorem dX3_readShut_16 : decode cX3_readShut 16 = .ok (.iconst 1, 1) := by decide +kernel
theorem dX3_readShut_17 : decode cX3_readShut 17 = .ok (.isub, 1) := by decide +kernel
theorem dX3_readShut_18 : decode cX3_readShut 18 = .ok (.iconst (-1), 1) := by decide +kernel
theorem dX3_readShut_19 : decode cX3_readShut 19 = .ok (.invokevirtual 104, 3) := by decide +kernel
theorem dX3_readShut_22 : decode cX3_readShut 22 = .ok (.istore_n 1, 1) := by decide +kernel
theorem dX3_readShut_23 : decode cX3_readShut 23 = .ok (.aload_n 0, 1) := by decide +kernel
theorem dX3_readShut_24 : decode cX3_readShut 24 = .ok (.getfield 30, 3) := by decide +kernel
theorem dX3_readShut_27 : decode cX3_readShut 27 = .ok (.iconst (-1), 1) := by decide +kernel
theorem dX3_readShut_28 : decode cX3_readShut 28 = .ok (.if_icmp .ne 13, 3) := by decide +kernel
theorem dX3_readShut_31 : decode cX3_readShut 31 = .ok (.aload_n 0, 1) := by decide +kernel
theorem dX3_readShut_32 : decode cX3_readShut 32 = .ok (.getfield 15, 3) := by decide +kernel
theorem dX3_readShut_35 : decode cX3_readShut 35 = .ok (.iload_n 1, 1) := by decide +kernel
theorem dX3_readShut_36 : decode cX3_readShut 36 = .ok (.iconst 1, 1) := by decide +kernel
theorem dX3_readShut_37 : decode cX3_readShut 37 = .ok (.invokevirtual 127, 3) := by decide +kernel
theorem dX3_readShut_40 : decode cX3_readShut 40 = .ok (.pop, 1) := by decide +kernel
theorem dX3_readShut_41 : decode cX3_readShut 41 = .ok (.return_, 1) := by decide +kernel
theorem dX3_readLag_0 : decode cX3_readLag 0 = .ok (.aload_n 0, 1) := by decide +kernel
theorem dX3_readLag_1 : decode cX3_readLag 1 = .ok (.ldc 131, 2) := by decide +kernel
theorem dX3_readLag_3 : decode cX3_readLag 3 = .ok (.iconst 1, 1) := by decide +kernel
theorem dX3_readLag_4 : decode cX3_readLag 4 = .ok (.invokevirtual 98, 3) := by decide +kernel
theorem dX3_readLag_7 : decode cX3_readLag 7 = .ok (.aload_n 0, 1) := by decide +kernel
theorem dX3_readLag_8 : decode cX3_readLag 8 = .ok (.iconst 1, 1) := by decide +kernel
theorem dX3_readLag_9 : decode cX3_readLag 9 = .ok (.iconst 3, 1) := by decide +kernel
theorem dX3_readLag_10 : decode cX3_readLag 10 = .ok (.iconst (-1), 1) := by decide +kernel
theorem dX3_readLag_11 : decode cX3_readLag 11 = .ok (.invokevirtual 104, 3) := by decide +kernel
theorem dX3_readLag_14 : decode cX3_readLag 14 = .ok (.istore_n 1, 1) := by decide +kernel
theorem dX3_readLag_15 : decode cX3_readLag 15 = .ok (.aload_n 0, 1) := by decide +kernel
theorem dX3_readLag_16 : decode cX3_readLag 16 = .ok (.getfield 30, 3) := by decide +kernel
theorem dX3_readLag_19 : decode cX3_readLag 19 = .ok (.iconst (-1), 1) := by decide +kernel
theorem dX3_readLag_20 : decode cX3_readLag 20 = .ok (.if_icmp .ne 11, 3) := by decide +kernel
theorem dX3_readLag_23 : decode cX3_readLag 23 = .ok (.aload_n 0, 1) := by decide +kernel
theorem dX3_readLag_24 : decode cX3_readLag 24 = .ok (.getfield 15, 3) := by decide +kernel
theorem dX3_readLag_27 : decode cX3_readLag 27 = .ok (.iload_n 1, 1) := by decide +kernel
theorem dX3_readLag_28 : decode cX3_readLag 28 = .ok (.invokevirtual 133, 3) := by decide +kernel
theorem dX3_readLag_31 : decode cX3_readLag 31 = .ok (.return_, 1) := by decide +kernel
theorem dX3_readBird_0 : decode cX3_readBird 0 = .ok (.aload_n 0, 1) := by decide +kernel
theorem dX3_readBird_1 : decode cX3_readBird 1 = .ok (.ldc 136, 2) := by decide +kernel
theorem dX3_readBird_3 : decode cX3_readBird 3 = .ok (.iconst 1, 1) := by decide +kernel
theorem dX3_readBird_4 : decode cX3_readBird 4 = .ok (.invokevirtual 98, 3) := by decide +kernel
theorem dX3_readBird_7 : decode cX3_readBird 7 = .ok (.aload_n 0, 1) := by decide +kernel
theorem dX3_readBird_8 : decode cX3_readBird 8 = .ok (.iconst 0, 1) := by decide +kernel
theorem dX3_readBird_9 : decode cX3_readBird 9 = .ok (.aload_n 0, 1) := by decide +kernel
theorem dX3_readBird_10 : decode cX3_readBird 10 = .ok (.getfield 15, 3) := by decide +kernel
theorem dX3_readBird_13 : decode cX3_readBird 13 = .ok (.invokevirtual 116, 3) := by decide +kernel
theorem dX3_readBird_16 : decode cX3_readBird 16 = .ok (.iconst 1, 1) := by decide +kernel
theorem dX3_readBird_17 : decode cX3_readBird 17 = .ok (.isub, 1) := by decide +kernel
theorem dX3_readBird_18 : decode cX3_readBird 18 = .ok (.iconst (-1), 1) := by decide +kernel
theorem dX3_readBird_19 : decode cX3_readBird 19 = .ok (.invokevirtual 104, 3) := by decide +kernel
theorem dX3_readBird_22 : decode cX3_readBird 22 = .ok (.istore_n 1, 1) := by decide +kernel
theorem dX3_readBird_23 : decode cX3_readBird 23 = .ok (.aload_n 0, 1) := by decide +kernel
theorem dX3_readBird_24 : decode cX3_readBird 24 = .ok (.getfield 30, 3) := by decide +kernel
theorem dX3_readBird_27 : decode cX3_readBird 27 = .ok (.iconst (-1), 1) := by decide +kernel
theorem dX3_readBird_28 : decode cX3_readBird 28 = .ok (.if_icmp .ne 11, 3) := by decide +kernel
theorem dX3_readBird_31 : decode cX3_readBird 31 = .ok (.aload_n 0, 1) := by decide +kernel
theorem dX3_readBird_32 : decode cX3_readBird 32 = .ok (.getfield 15, 3) := by decide +kernel
theorem dX3_readBird_35 : decode cX3_readBird 35 = .ok (.iload_n 1, 1) := by decide +kernel
theorem dX3_readBird_36 : decode cX3_readBird 36 = .ok (.invokevirtual 138, 3) := by decide +kernel
theorem dX3_readBird_39 : decode cX3_readBird 39 = .ok (.return_, 1) := by decide +kernel
